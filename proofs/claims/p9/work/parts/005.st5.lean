/-! what a method leaves alone; which runs it has -/
/-- fields outside M are the same, of rows the ints (900), longs (901), references (902); 999: nothing is said -/
def FrE (M : List Nat) (σ τ : CsC) : Prop := cnC σ ≤ cnC τ ∧ (M.elem 999 = false → ∀ a, a < cnC σ → (∀ k, M.elem k = false → fIC τ a k = fIC σ a k ∧ fLC τ a k = fLC σ a k ∧ fRC τ a k = fRC σ a k) ∧ (M.elem 900 = false → eIC τ a = eIC σ a) ∧ (M.elem 901 = false → eLC τ a = eLC σ a) ∧ (M.elem 902 = false → eRC τ a = eRC σ a))
theorem FrE.rf {M : List Nat} {σ : CsC} : FrE M σ σ := by sorry
theorem FrE.tr {M : List Nat} {σ τ υ : CsC} (h : FrE M σ τ) (g : FrE M τ υ) : FrE M σ υ := by sorry
theorem el_sb {M N : List Nat} (h : N.all (fun k => M.elem k) = true) {k : Nat} (hk : M.elem k = false) : N.elem k = false := by sorry
theorem FrE.mo {M N : List Nat} {σ τ : CsC} (h : FrE N σ τ) (hs : N.all (fun k => M.elem k) = true) : FrE M σ τ := by sorry
theorem el_nk {M : List Nat} {j k : Nat} (hk : M.elem k = true) (hj : M.elem j = false) : j ≠ k := fun e => by rw [e, hk] at hj; cases hj
theorem FrE.pI {M : List Nat} {σ τ : CsC} {a k : Nat} {v : Int32} (h : FrE M σ τ) (hk : M.elem k = true) : FrE M σ (pIC τ a k v) := by sorry
theorem FrE.pL {M : List Nat} {σ τ : CsC} {a k : Nat} {v : Int64} (h : FrE M σ τ) (hk : M.elem k = true) : FrE M σ (pLC τ a k v) := by sorry
theorem FrE.pR {M : List Nat} {σ τ : CsC} {a k : Nat} {v : Option Nat} (h : FrE M σ τ) (hk : M.elem k = true) : FrE M σ (pRC τ a k v) := by sorry
theorem FrE.qI {M : List Nat} {σ τ : CsC} {a : Nat} {f : Nat → Int32} (h : FrE M σ τ) (hk : M.elem 900 = true) : FrE M σ (qIC τ a f) := by sorry
theorem FrE.qL {M : List Nat} {σ τ : CsC} {a : Nat} {f : Nat → Int64} (h : FrE M σ τ) (hk : M.elem 901 = true) : FrE M σ (qLC τ a f) := by sorry
theorem FrE.qR {M : List Nat} {σ τ : CsC} {a : Nat} {f : Nat → Option Nat} (h : FrE M σ τ) (hk : M.elem 902 = true) : FrE M σ (qRC τ a f) := by sorry
theorem FrE.nO {M : List Nat} {σ τ : CsC} {t N g : Nat} (h : FrE M σ τ) : FrE M σ (nOC τ t N g) := by sorry
theorem FrE.nA {M : List Nat} {σ τ : CsC} {t N g : Nat} (h : FrE M σ τ) : FrE M σ (nAC τ t N g) := by sorry
theorem we_c {σ τ : CsC} (h : WeC σ τ) : cnC τ = cnC σ := congrArg (fun z => z.1.1) h.1
theorem we_i {σ τ : CsC} (h : WeC σ τ) : fIC τ = fIC σ := by sorry
theorem we_l {σ τ : CsC} (h : WeC σ τ) : fLC τ = fLC σ := by sorry
theorem we_r {σ τ : CsC} (h : WeC σ τ) : fRC τ = fRC σ := by sorry
theorem we_ei {σ τ : CsC} (h : WeC σ τ) : eIC τ = eIC σ := by sorry
theorem we_el {σ τ : CsC} (h : WeC σ τ) : eLC τ = eLC σ := by sorry
theorem we_er {σ τ : CsC} (h : WeC σ τ) : eRC τ = eRC σ := by sorry
theorem FrE.we {M : List Nat} {σ τ υ : CsC} (h : FrE M σ τ) (g : WeC τ υ) : FrE M σ υ := by sorry
/-- an ERROR that is told stays told (field 217) -/
def MnE (b : Bool) (σ τ : CsC) : Prop := cnC σ ≤ cnC τ ∧ (b = true → ∀ a, a < cnC σ → ¬ fIC σ a 217 = 0 → ¬ fIC τ a 217 = 0)
theorem MnE.rf {b : Bool} {σ : CsC} : MnE b σ σ := ⟨Nat.le_refl _, fun _ _ _ h => h⟩
theorem MnE.tr {b : Bool} {σ τ υ : CsC} (h : MnE b σ τ) (g : MnE b τ υ) : MnE b σ υ := by sorry
theorem MnE.mo {b c : Bool} {σ τ : CsC} (h : MnE c σ τ) (hs : (!b || c) = true) : MnE b σ τ := ⟨h.1, fun e => h.2 (by rw [e] at hs; exact hs)⟩
theorem mn_ne {b : Bool} {k : Nat} (hk : (!(Nat.beq k 217) || !b) = true) (e : b = true) : 217 ≠ k := fun q => by
  rw [← q, e] at hk
  cases hk
theorem MnE.pI {b : Bool} {σ τ : CsC} {a k : Nat} {v : Int32} (h : MnE b σ τ) (hk : (!(Nat.beq k 217) || !b) = true) : MnE b σ (pIC τ a k v) := by sorry
theorem MnE.pL {b : Bool} {σ τ : CsC} {a k : Nat} {v : Int64} {p : Prop} (h : MnE b σ τ) (_ : p) : MnE b σ (pLC τ a k v) := ⟨h.1, h.2⟩
theorem MnE.pR {b : Bool} {σ τ : CsC} {a k : Nat} {v : Option Nat} {p : Prop} (h : MnE b σ τ) (_ : p) : MnE b σ (pRC τ a k v) := ⟨h.1, h.2⟩
theorem MnE.qI {b : Bool} {σ τ : CsC} {a : Nat} {f : Nat → Int32} {p : Prop} (h : MnE b σ τ) (_ : p) : MnE b σ (qIC τ a f) := ⟨h.1, h.2⟩
theorem MnE.qL {b : Bool} {σ τ : CsC} {a : Nat} {f : Nat → Int64} {p : Prop} (h : MnE b σ τ) (_ : p) : MnE b σ (qLC τ a f) := ⟨h.1, h.2⟩
theorem MnE.qR {b : Bool} {σ τ : CsC} {a : Nat} {f : Nat → Option Nat} {p : Prop} (h : MnE b σ τ) (_ : p) : MnE b σ (qRC τ a f) := ⟨h.1, h.2⟩
theorem MnE.nO {b : Bool} {σ τ : CsC} {t N g : Nat} (h : MnE b σ τ) : MnE b σ (nOC τ t N g) := by sorry
theorem MnE.nA {b : Bool} {σ τ : CsC} {t N g : Nat} (h : MnE b σ τ) : MnE b σ (nAC τ t N g) := ⟨Nat.le_trans h.1 (Nat.le_succ (cnC τ)), h.2⟩
theorem MnE.we {b : Bool} {σ τ υ : CsC} (h : MnE b σ τ) (g : WeC τ υ) : MnE b σ υ := by sorry
def okM (b : Bool) (x : RI) : Bool := match x.1 with
  | .putfield _ => !(Nat.beq x.2.2.2.1 217) || !b
  | _ => true
/-- what an instruction writes is in M -/
def okE (M : List Nat) (x : RI) : Bool := match x.1 with
  | .putfield _ => M.elem x.2.2.2.1
  | .iastore => M.elem 900
  | .bastore => M.elem 900
  | .lastore => M.elem 901
  | .aastore => M.elem 902
  | .invokestatic _ => !(Nat.beq x.2.2.2.1 9997) || M.elem 902
  | _ => true
theorem cst_fr {M : List Nat} {σ0 : CsC} {c1 : CcC} {K1 K k1 k : CkC} {Z1 Z : Option AvC → CsC → Prop} {x : RI} {pc : Nat} {ls : ClC} {st : List AvC} {σ : CsC} (hx : okE M x = true) (hf : FrE M σ0 σ) (hc : ∀ {μ : Nat} {P : CpC} {Q : CqC}, ctC c1 μ = some (P, Q) → ∀ As σ w τ, Q As σ w τ → FrE M σ τ) (hK : ∀ t r, K1 t ls r σ → K t ls r σ) (hZ : ∀ w τ, FrE M σ0 τ → Z1 w τ → Z w τ) (hk : ∀ pc ls st σ, FrE M σ0 σ → k1 pc ls st σ → k pc ls st σ) (h1 : cstC c1 K1 Z1 x pc ls st σ k1) : cstC c1 K Z x pc ls st σ k := by sorry
theorem cst_mn {b0 : Bool} {σ0 : CsC} {c1 : CcC} {K1 K k1 k : CkC} {Z1 Z : Option AvC → CsC → Prop} {x : RI} {pc : Nat} {ls : ClC} {st : List AvC} {σ : CsC} (hx : okM b0 x = true) (hf : MnE b0 σ0 σ) (hc : ∀ {μ : Nat} {P : CpC} {Q : CqC}, ctC c1 μ = some (P, Q) → ∀ As σ w τ, Q As σ w τ → MnE b0 σ τ) (hK : ∀ t r, K1 t ls r σ → K t ls r σ) (hZ : ∀ w τ, MnE b0 σ0 τ → Z1 w τ → Z w τ) (hk : ∀ pc ls st σ, MnE b0 σ0 σ → k1 pc ls st σ → k pc ls st σ) (h1 : cstC c1 K1 Z1 x pc ls st σ k1) : cstC c1 K Z x pc ls st σ k := by sorry
/-- who is called tells less -/
def MoQ (c1 : CcC) (ct : UcC) (c1' : CcC) (ct' : UcC) : Prop := ∀ μ P' Q', ctC c1' μ = some (P', Q') → ∃ P Q, ctC c1 μ = some (P, Q) ∧ ∀ As σ w τ, Q' As σ w τ → uqC ct' μ As σ w τ → Q As σ w τ ∧ uqC ct μ As σ w τ
theorem ucs_mo {c1 c1' : CcC} {ct ct' : UcC} {K K' k k' : CkC} {Z Z' : Option AvC → CsC → Prop} {x : RI} {pc : Nat} {ls : ClC} {st : List AvC} {σ : CsC} (hc : MoQ c1 ct c1' ct') (hK : ∀ t r, K t ls r σ → K' t ls r σ) (hZ : ∀ w τ, Z w τ → Z' w τ) (hk : ∀ pc ls st σ, k pc ls st σ → k' pc ls st σ) (h : ucsC c1 ct K Z x pc ls st σ k) : ucsC c1' ct' K' Z' x pc ls st σ k' := by sorry
theorem cwp_fr {M : List Nat} {σ0 : CsC} {c1 : CcC} {K1 K : CkC} {Z1 Z : Option AvC → CsC → Prop} (hc : ∀ {μ : Nat} {P : CpC} {Q : CqC}, ctC c1 μ = some (P, Q) → ∀ As σ w τ, Q As σ w τ → FrE M σ τ) (hK : ∀ pc ls st σ, FrE M σ0 σ → K1 pc ls st σ → K pc ls st σ) (hZ : ∀ w τ, FrE M σ0 τ → Z1 w τ → Z w τ) : ∀ (is : List RI) (pc : Nat) (ls : ClC) (st : List AvC) (σ : CsC), is.all (okE M) = true → FrE M σ0 σ → cwpC c1 K1 Z1 is pc ls st σ → cwpC c1 K Z is pc ls st σ := by sorry
theorem cwp_mn {b0 : Bool} {σ0 : CsC} {c1 : CcC} {K1 K : CkC} {Z1 Z : Option AvC → CsC → Prop} (hc : ∀ {μ : Nat} {P : CpC} {Q : CqC}, ctC c1 μ = some (P, Q) → ∀ As σ w τ, Q As σ w τ → MnE b0 σ τ) (hK : ∀ pc ls st σ, MnE b0 σ0 σ → K1 pc ls st σ → K pc ls st σ) (hZ : ∀ w τ, MnE b0 σ0 τ → Z1 w τ → Z w τ) : ∀ (is : List RI) (pc : Nat) (ls : ClC) (st : List AvC) (σ : CsC), is.all (okM b0) = true → MnE b0 σ0 σ → cwpC c1 K1 Z1 is pc ls st σ → cwpC c1 K Z is pc ls st σ := by sorry
theorem ct_mem {c : CcC} {μ : Nat} {z : CpC × CqC} : ctC c μ = some z → (μ, z) ∈ c := by sorry
/-- a total contract, and what stays -/
theorem TbC.fr {M : List Nat} {bs : RB} {c1 : CcC} {P : CpC} {Q Q' : CqC} (b : TbC bs c1 P Q) (ho : bs.all (fun b => b.2.all (okE M)) = true) (hc : ∀ q ∈ c1, ∀ As σ w τ, q.2.2 As σ w τ → FrE M σ τ) (hq : ∀ As σ w τ, P As σ → GrC σ σ → Q As σ w τ → FrE M σ τ → Q' As σ w τ) : TbC bs c1 P Q' := by sorry
theorem TbC.mn {b : Bool} {bs : RB} {c1 : CcC} {P : CpC} {Q Q' : CqC} (b1 : TbC bs c1 P Q) (ho : bs.all (fun q => q.2.all (okM b)) = true) (hc : ∀ q ∈ c1, ∀ As σ w τ, q.2.2 As σ w τ → MnE b σ τ) (hq : ∀ As σ w τ, P As σ → GrC σ σ → Q As σ w τ → MnE b σ τ → Q' As σ w τ) : TbC bs c1 P Q' := by sorry
/-- fewer outcomes of what is called -/
theorem ucwp_mo {c1 c1' : CcC} {ct ct' : UcC} {K K' : CkC} {Z Z' : Option AvC → CsC → Prop} (hc : MoQ c1 ct c1' ct') (hK : ∀ pc ls st σ, K pc ls st σ → K' pc ls st σ) (hZ : ∀ w τ, Z w τ → Z' w τ) : ∀ (is : List RI) (pc : Nat) (ls : ClC) (st : List AvC) (σ : CsC), ucwp c1 ct K Z is pc ls st σ → ucwp c1' ct' K' Z' is pc ls st σ := by sorry
theorem ucgo_mo {bs : RB} {c1 c1' : CcC} {ct ct' : UcC} {K K' : CkC} {Z Z' : Option AvC → CsC → Prop} (hc : MoQ c1 ct c1' ct') (hK : ∀ pc ls st σ, K pc ls st σ → K' pc ls st σ) (hZ : ∀ w τ, Z w τ → Z' w τ) {pc : Nat} {ls : ClC} {st : List AvC} {σ : CsC} (h : ucgo bs c1 ct K Z pc ls st σ) : ucgo bs c1' ct' K' Z' pc ls st σ := by sorry
theorem uKm_mo {bs : RB} {c1 c1' : CcC} {ct ct' : UcC} {Z Z' : Option AvC → CsC → Prop} (hc : MoQ c1 ct c1' ct') (hZ : ∀ w τ, Z w τ → Z' w τ) : ∀ (n pc : Nat) (ls : ClC) (st : List AvC) (σ : CsC), uKm bs c1 ct Z n pc ls st σ → uKm bs c1' ct' Z' n pc ls st σ := by sorry
theorem MoQ.rf {c1 : CcC} {ct : UcC} : MoQ c1 ct c1 ct := fun μ P Q h => ⟨P, Q, h, fun _ _ _ _ a b => ⟨a, b⟩⟩
theorem uKm_s {bs : RB} {c1 : CcC} {ct : UcC} {Z : Option AvC → CsC → Prop} : ∀ (n pc : Nat) (ls : ClC) (st : List AvC) (σ : CsC), uKm bs c1 ct Z (n + 1) pc ls st σ → uKm bs c1 ct Z n pc ls st σ := by sorry
theorem uKm_le {bs : RB} {c1 : CcC} {ct : UcC} {Z : Option AvC → CsC → Prop} {pc : Nat} {ls : ClC} {st : List AvC} {σ : CsC} {m n : Nat} (h : m ≤ n) : uKm bs c1 ct Z n pc ls st σ → uKm bs c1 ct Z m pc ls st σ := by sorry
/-- no premise, no promise -/
def tr1C (μ : Nat) : Nat × CpC × CqC := (μ, fun _ _ => True, fun _ _ _ _ => True)
theorem tr_ct {cs : List Nat} {μ : Nat} {z : CpC × CqC} : ctC (cs.map tr1C) μ = some z → μ ∈ cs := by sorry
theorem ct_tr {cs : List Nat} {μ : Nat} : μ ∈ cs → ctC (cs.map tr1C) μ = some (fun _ _ => True, fun _ _ _ _ => True) := by sorry
/-- a run of a method: fewer than L calls within one another -/
def EvF : Nat → Nat → CqC
  | 0, _ => fun _ _ _ _ => False
  | L + 1, μ => fun As σ w τ => (uqC quL μ As σ w τ ∧ cnC σ ≤ 1000000 ∧ MnE (mnF μ) σ τ) ∧ FrE (mgF μ) σ τ ∧ uqC quM μ As σ w τ ∧ match blF μ with
    | none => True
    | some (bs, cs) => ∀ Z : Option AvC → CsC → Prop, (∀ m, uKm bs (cs.map tr1C) (cs.map (fun c => (c, EvF L c))) Z m 0 (agC 0 As) [] σ) → Z w τ
abbrev EvQ (L μ : Nat) (Q : CqC) : CqC := fun As σ w τ => Q As σ w τ ∧ EvF L μ As σ w τ
theorem uq_map {f : Nat → CqC} {μ : Nat} : ∀ {cs : List Nat}, μ ∈ cs → uqC (cs.map (fun c => (c, f c))) μ = f μ := by sorry
theorem EvF.s : ∀ {L μ : Nat} {As : List AvC} {σ : CsC} {w : Option AvC} {τ : CsC}, EvF L μ As σ w τ → EvF (L + 1) μ As σ w τ := by sorry
theorem EvF.le {L L' μ : Nat} {As : List AvC} {σ : CsC} {w : Option AvC} {τ : CsC} (h : EvF L μ As σ w τ) (hl : L ≤ L') : EvF L' μ As σ w τ := by sorry
theorem CMetC.mq {l : Launch} {lev μ : Nat} {P : CpC} {Q Q' : CqC} (h : CMetC l lev μ P Q) (hQ : ∀ As σ w τ, P As σ → GrC σ σ → Q As σ w τ → Q' As σ w τ) : CMetC l lev μ P Q' := by sorry
theorem CMetC.up {l : Launch} {lev μ L L' : Nat} {P : CpC} {Q : CqC} (h : CMetC l lev μ P (EvQ L μ Q)) (hl : L ≤ L') : CMetC l lev μ P (EvQ L' μ Q) := h.mq (fun As σ w τ _ _ q => ⟨q.1, q.2.le hl⟩)
def subE (M : List Nat) (μ : Nat) : Bool := (mgF μ).all (fun k => M.elem k)
theorem EvF.fr {M : List Nat} {L μ : Nat} {As : List AvC} {σ : CsC} {w : Option AvC} {τ : CsC} (h : EvF L μ As σ w τ) (hs : subE M μ = true) : FrE M σ τ := by sorry
theorem fr_no {σ τ : CsC} (h : cnC σ ≤ cnC τ) : FrE [999] σ τ := ⟨h, fun z => by cases z⟩
theorem EvF.q {L μ : Nat} {As : List AvC} {σ : CsC} {w : Option AvC} {τ : CsC} (h : EvF L μ As σ w τ) : uqC quL μ As σ w τ ∧ cnC σ ≤ 1000000 ∧ MnE (mnF μ) σ τ := by sorry
theorem EvF.m {L μ : Nat} {As : List AvC} {σ : CsC} {w : Option AvC} {τ : CsC} (h : EvF L μ As σ w τ) : uqC quM μ As σ w τ := by sorry
theorem uo_mem {c2 : UcC} {μ : Nat} {Q : CqC} : uoC c2 μ = some Q → (μ, Q) ∈ c2 := by sorry
theorem uo_map {f : Nat → CqC} {μ : Nat} : ∀ {cs : List Nat}, μ ∈ cs → uoC (cs.map (fun c => (c, f c))) μ = some (f μ) := by sorry
/-- out of a total contract: its runs -/
theorem TbC.ev {bs : RB} {c1 : CcC} {P : CpC} {Q : CqC} {L μ : Nat} {cs M : List Nat} (b : TbC bs c1 P Q) (hT : blF μ = some (bs, cs)) (hg : mgF μ = M) (hk : (c1.map (fun q => q.1)).all (fun m => cs.elem m) = true) (ho : bs.all (fun b => b.2.all (okE M)) = true) (hs : cs.all (subE M) = true) (hq : ∀ As σ w τ, P As σ → Q As σ w τ → uqC quL μ As σ w τ) (hqm : ∀ As σ w τ, P As σ → Q As σ w τ → uqC quM μ As σ w τ) (hmn : (bs.all (fun b => b.2.all (okM (mnF μ))) = true ∧ cs.all (fun c => !mnF μ || mnF c) = true) ∨ ∀ As σ w τ, P As σ → Q As σ w τ → MnE (mnF μ) σ τ) : TbC bs (uc2C c1 (cs.map (fun c => (c, EvF L c)))) P (EvQ (L + 1) μ Q) := by sorry
/-- of a method that is called: what its total contract tells, what it leaves alone -/
abbrev TrP : CpC := fun _ _ => True
abbrev EqC (μ : Nat) : CqC := fun As σ w τ => (uqC quL μ As σ w τ ∧ cnC σ ≤ 1000000 ∧ MnE (mnF μ) σ τ) ∧ FrE (mgF μ) σ τ
def eq1C (μ : Nat) : Nat × CpC × CqC := (μ, TrP, EqC μ)
theorem ct_eq {cs : List Nat} {μ : Nat} : μ ∈ cs → ctC (cs.map eq1C) μ = some (TrP, EqC μ) := by sorry
theorem EvF.eq {L μ : Nat} {As : List AvC} {σ : CsC} {w : Option AvC} {τ : CsC} (h : EvF L μ As σ w τ) : EqC μ As σ w τ := by sorry
/-- what a run does, by a partial walk -/
theorem EvF.us {bs : RB} {ct : UcC} {P : CpC} {Q : CqC} {L μ : Nat} {cs : List Nat} {As : List AvC} {σ : CsC} {w : Option AvC} {τ : CsC} (hb : PbC bs (cs.map eq1C) ct (fun As σ => P As σ ∧ cnC σ ≤ 1000000 ∧ ∃ w τ, uqC quL μ As σ w τ) Q) (hT : blF μ = some (bs, cs)) (hu : ∀ m ∈ cs, ∀ As σ w τ, EvF L m As σ w τ → uqC ct m As σ w τ) (h : EvF (L + 1) μ As σ w τ) (hP : P As σ) : Q As σ w τ := by sorry
theorem v_J0_charAt_5068e (l : Launch) : CMetC l 10 238 P_J0_charAt_5068e (EvQ (10 + 1) 238 Q_J0_charAt_5068e) := by sorry
theorem v_J0_length_8abf5 (l : Launch) : CMetC l 10 239 P_J0_length_8abf5 (EvQ (10 + 1) 239 Q_J0_length_8abf5) := by sorry
theorem lg_X11_strengthv : ∀ (As : List AvC) (σ : CsC), P_X11_strength As σ → lgC As ≤ rX11_strength.2.2.1 := by sorry
theorem b_X11_strengthv : TbC KX11_strength [] P_X11_strength Q_X11_strength := by sorry
theorem v_X11_strength (l : Launch) : CMetC l 10 225 P_X11_strength (EvQ (10 + 1) 225 Q_X11_strength) := by sorry
theorem lg_X11_operatorOfv : ∀ (As : List AvC) (σ : CsC), P_X11_operatorOf As σ → lgC As ≤ rX11_operatorOf.2.2.1 := by sorry
theorem b_X11_operatorOfv : TbC KX11_operatorOf [] P_X11_operatorOf Q_X11_operatorOf := by sorry
theorem v_X11_operatorOf (l : Launch) : CMetC l 10 226 P_X11_operatorOf (EvQ (10 + 1) 226 Q_X11_operatorOf) := by sorry
theorem lg_Jx4a65c_size_8abf5v : ∀ (As : List AvC) (σ : CsC), P_Jx4a65c_size_8abf5 As σ → lgC As ≤ rJx4a65c_size_8abf5.2.2.1 := by sorry
theorem b_Jx4a65c_size_8abf5v : TbC KJx4a65c_size_8abf5 [] P_Jx4a65c_size_8abf5 Q_Jx4a65c_size_8abf5 := by sorry
theorem v_Jx4a65c_size_8abf5 (l : Launch) : CMetC l 10 234 P_Jx4a65c_size_8abf5 (EvQ (10 + 1) 234 Q_Jx4a65c_size_8abf5) := by sorry
theorem v_Jx4a65c_get_915e3 (l : Launch) : CMetC l 10 235 P_Jx4a65c_get_915e3 (EvQ (10 + 1) 235 Q_Jx4a65c_get_915e3) := by sorry
theorem lg_nlv : ∀ (As : List AvC) (σ : CsC), P_nl As σ → lgC As ≤ rJ8_newLength_cabcc.2.2.1 := by sorry
theorem b_nlv : TbC KJ8_newLength_cabcc [] P_nl Q_nl := by sorry
theorem v_nl (l : Launch) : CMetC l 1 249 P_nl (EvQ (1 + 1) 249 Q_nl) := by sorry
theorem lg_cp3v : ∀ (As : List AvC) (σ : CsC), P_cp3 As σ → lgC As ≤ rJ7_copyOf_6403c.2.2.1 := by sorry
theorem b_cp3v : TbC KJ7_copyOf_6403c [] P_cp3 Q_cp3 := by sorry
theorem v_cp3 (l : Launch) : CMetC l 2 246 P_cp3 (EvQ (2 + 1) 246 Q_cp3) := by sorry
theorem lg_cp2v : ∀ (As : List AvC) (σ : CsC), P_cp2 As σ → lgC As ≤ rJ7_copyOf_1904c.2.2.1 := by sorry
theorem b_cp2v : TbC KJ7_copyOf_1904c [(246, P_cp3, Q_cp3)] P_cp2 Q_cp2 := by sorry
theorem v_cp2 (l : Launch) : CMetC l 3 245 P_cp2 (EvQ (3 + 1) 245 Q_cp2) := by sorry
theorem lg_gr1v : ∀ (As : List AvC) (σ : CsC), P_gr1 As σ → lgC As ≤ rJx4a65c_grow_92f84.2.2.1 := by sorry
theorem b_gr1v : TbC KJx4a65c_grow_92f84 [(249, P_nl, Q_nl), (245, P_cp2, Q_cp2)] P_gr1 Q_gr1 := by sorry
theorem v_gr1 (l : Launch) : CMetC l 4 243 P_gr1 (EvQ (4 + 1) 243 Q_gr1) := by sorry
theorem lg_gr0v : ∀ (As : List AvC) (σ : CsC), P_gr0 As σ → lgC As ≤ rJx4a65c_grow_d5877.2.2.1 := by sorry
theorem b_gr0v : TbC KJx4a65c_grow_d5877 [(243, P_gr1, Q_gr1)] P_gr0 Q_gr0 := by sorry
theorem v_gr0 (l : Launch) : CMetC l 5 244 P_gr0 (EvQ (5 + 1) 244 Q_gr0) := by sorry
theorem lg_ad3v : ∀ (As : List AvC) (σ : CsC), P_ad3 As σ → lgC As ≤ rJx4a65c_add_72be8.2.2.1 := by sorry
theorem b_ad3v : TbC KJx4a65c_add_72be8 [(244, P_gr0, Q_gr0)] P_ad3 Q_ad3 := by sorry
theorem v_ad3 (l : Launch) : CMetC l 6 242 P_ad3 (EvQ (6 + 1) 242 Q_ad3) := by sorry
theorem lg_Jx4a65c_add_9ea2dv : ∀ (As : List AvC) (σ : CsC), P_Jx4a65c_add_9ea2d As σ → lgC As ≤ rJx4a65c_add_9ea2d.2.2.1 := by sorry
theorem b_Jx4a65c_add_9ea2dv : TbC KJx4a65c_add_9ea2d [(242, P_ad3, Q_ad3)] P_Jx4a65c_add_9ea2d Q_Jx4a65c_add_9ea2d := by sorry
theorem v_Jx4a65c_add_9ea2d (l : Launch) : CMetC l 10 236 P_Jx4a65c_add_9ea2d (EvQ (10 + 1) 236 Q_Jx4a65c_add_9ea2d) := by sorry
theorem lg_add6v : ∀ (As : List AvC) (σ : CsC), P_add6 As σ → lgC As ≤ rJx4a65c_add_9ea2d.2.2.1 := by sorry
theorem b_add6v : TbC KJx4a65c_add_9ea2d [(242, P_ad3, Q_ad3)] P_add6 Q_add6 := by sorry
theorem v_add6 (l : Launch) : CMetC l 10 236 P_add6 (EvQ (10 + 1) 236 Q_add6) := by sorry
theorem v_X11_has (l : Launch) : CMetC l 1 221 P_X11_has (EvQ (1 + 1) 221 Q_X11_has) := by sorry
theorem v_X11_bit (l : Launch) : CMetC l 1 222 P_X11_bit (EvQ (1 + 1) 222 Q_X11_bit) := by sorry
theorem v_X11_isNumber (l : Launch) : CMetC l 1 223 P_X11_isNumber (EvQ (1 + 1) 223 Q_X11_isNumber) := by sorry
theorem v_X11_sameOrWidens (l : Launch) : CMetC l 1 224 P_X11_sameOrWidens (EvQ (1 + 1) 224 Q_X11_sameOrWidens) := by sorry
theorem v_X11_isDivision (l : Launch) : CMetC l 1 227 P_X11_isDivision (EvQ (1 + 1) 227 Q_X11_isDivision) := by sorry
theorem v_X11_narrowed (l : Launch) : CMetC l 1 228 P_X11_narrowed (EvQ (1 + 1) 228 Q_X11_narrowed) := by sorry
theorem v_X11_compared (l : Launch) : CMetC l 1 231 P_X11_compared (EvQ (1 + 1) 231 Q_X11_compared) := by sorry
theorem v_X11_shifted (l : Launch) : CMetC l 1 230 P_X11_shifted (EvQ (1 + 1) 230 Q_X11_shifted) := by sorry
theorem v_X11_worked (l : Launch) : CMetC l 2 229 P_X11_worked (EvQ (2 + 1) 229 Q_X11_worked) := by sorry
theorem v_X11_workedAlone (l : Launch) : CMetC l 2 232 P_X11_workedAlone (EvQ (2 + 1) 232 Q_X11_workedAlone) := by sorry
theorem v_X1_acts (l : Launch) : CMetC l 1 18 P_X1_acts (EvQ (1 + 1) 18 Q_X1_acts) := by sorry
theorem v_X8_isLoop (l : Launch) : CMetC l 1 179 P_X8_isLoop (EvQ (1 + 1) 179 Q_X8_isLoop) := by sorry
theorem v_X8_isPart (l : Launch) : CMetC l 1 180 P_X8_isPart (EvQ (1 + 1) 180 Q_X8_isPart) := by sorry
theorem v_X8_isAlways (l : Launch) : CMetC l 1 183 P_X8_isAlways (EvQ (1 + 1) 183 Q_X8_isAlways) := by sorry
theorem v_X8_hasFinallyAhead (l : Launch) : CMetC l 1 181 P_X8_hasFinallyAhead (EvQ (1 + 1) 181 Q_X8_hasFinallyAhead) := by sorry
theorem v_X8_isCaught (l : Launch) : CMetC l 1 182 P_X8_isCaught (EvQ (1 + 1) 182 Q_X8_isCaught) := by sorry
theorem v_X5_addParam (l : Launch) : CMetC l 1 112 P_X5_addParam (EvQ (1 + 1) 112 Q_X5_addParam) := by sorry
theorem v_X5_hasSameParams (l : Launch) : CMetC l 1 113 P_X5_hasSameParams (EvQ (1 + 1) 113 Q_X5_hasSameParams) := by sorry
theorem v_X5_isAsNarrowAs (l : Launch) : CMetC l 2 114 P_X5_isAsNarrowAs (EvQ (2 + 1) 114 Q_X5_isAsNarrowAs) := by sorry
theorem v_X5_takes (l : Launch) : CMetC l 2 115 P_X5_takes (EvQ (2 + 1) 115 Q_X5_takes) := by sorry
theorem n_clear1 (l : Launch) : CMetC l 11 117 P_X6_clear (fun As σ w τ => Q_X6_clear As σ w τ ∧ U_clear As σ w τ ∧ U_clear0 As σ w τ) := (n_clear0 l).mq (fun _ _ _ _ _ _ h => ⟨h.1.1, h.1.2, h.2⟩)
theorem v_X6_clear (l : Launch) : CMetC l 11 117 P_X6_clear (EvQ (11 + 1) 117 Q_X6_clear) := by sorry
theorem v9_clear (l : Launch) : CMetC l 11 117 P_X6_clear (EvQ (11 + 1) 117 (fun As σ w τ => Q_X6_clear As σ w τ ∧ U_clear As σ w τ)) := by sorry
theorem yg210 (σ : CsC) (a : Nat) : gtC σ a 210 = .inr (.inr (fRC σ a 210)) := rfl
theorem yg300 (σ : CsC) (a : Nat) : gtC σ a 300 = .inr (.inr (fRC σ a 300)) := rfl
theorem yg217 (σ : CsC) (a : Nat) : gtC σ a 217 = .inl (fIC σ a 217) := rfl
theorem yg218 (σ : CsC) (a : Nat) : gtC σ a 218 = .inl (fIC σ a 218) := rfl
theorem p_tellM : PbC KX6_tell [] [] (fun As σ => P_X6_tell As σ ∧ True) (fun _ σ _ τ => MnE true σ τ) := by sorry
theorem v8_tell (l : Launch) : CMetC l 1 118 P_X6_tell (EvQ (1 + 1) 118 (fun As σ w τ => Q_X6_tell As σ w τ ∧ ∀ _y : Unit, True → MnE true σ τ)) := by sorry
theorem v_X6_tell (l : Launch) : CMetC l 1 118 P_X6_tell (EvQ (1 + 1) 118 Q_X6_tell) := (v8_tell l).mq (fun As σ w τ hP hg h => ⟨h.1.1, h.2⟩)
theorem v_X6_methodOf (l : Launch) : CMetC l 11 119 P_X6_methodOf (EvQ (11 + 1) 119 Q_X6_methodOf) := by sorry
theorem v_X6_expAt (l : Launch) : CMetC l 11 120 P_X6_expAt (EvQ (11 + 1) 120 Q_X6_expAt) := by sorry
theorem v_X6_statementAt (l : Launch) : CMetC l 11 121 P_X6_statementAt (EvQ (11 + 1) 121 Q_X6_statementAt) := by sorry
theorem v_X3_variableOf (l : Launch) : CMetC l 11 51 P_X3_variableOf (EvQ (11 + 1) 51 Q_X3_variableOf) := by sorry
theorem v_X3_isFaulty (l : Launch) : CMetC l 1 52 P_X3_isFaulty (EvQ (1 + 1) 52 Q_X3_isFaulty) := by sorry
theorem v_X3_isTakenAlone (l : Launch) : CMetC l 2 57 P_X3_isTakenAlone (EvQ (2 + 1) 57 Q_X3_isTakenAlone) := by sorry
theorem v_X3_promoted (l : Launch) : CMetC l 1 58 P_X3_promoted (EvQ (1 + 1) 58 Q_X3_promoted) := by sorry
theorem v_X3_isWanted (l : Launch) : CMetC l 2 62 P_X3_isWanted (EvQ (2 + 1) 62 Q_X3_isWanted) := by sorry
theorem v_X3_mayChange (l : Launch) : CMetC l 2 59 P_X3_mayChange (EvQ (2 + 1) 59 Q_X3_mayChange) := by sorry
theorem v_X3_isLogical (l : Launch) : CMetC l 1 64 P_X3_isLogical (EvQ (1 + 1) 64 Q_X3_isLogical) := by sorry
theorem v_X3_takesBoth (l : Launch) : CMetC l 1 65 P_X3_takesBoth (EvQ (1 + 1) 65 Q_X3_takesBoth) := by sorry
theorem v_X3_isLeftTaken (l : Launch) : CMetC l 2 66 P_X3_isLeftTaken (EvQ (2 + 1) 66 Q_X3_isLeftTaken) := by sorry
theorem v_X3_isRightTaken (l : Launch) : CMetC l 2 67 P_X3_isRightTaken (EvQ (2 + 1) 67 Q_X3_isRightTaken) := by sorry
theorem v_X3_workType (l : Launch) : CMetC l 2 68 P_X3_workType (EvQ (2 + 1) 68 Q_X3_workType) := by sorry
theorem v_X3_areTaken (l : Launch) : CMetC l 3 63 P_X3_areTaken (EvQ (3 + 1) 63 Q_X3_areTaken) := by sorry
theorem v_X3_isSmall (l : Launch) : CMetC l 1 73 P_X3_isSmall (EvQ (1 + 1) 73 Q_X3_isSmall) := by sorry
theorem v_X3_isHeld (l : Launch) : CMetC l 2 74 P_X3_isHeld (EvQ (2 + 1) 74 Q_X3_isHeld) := by sorry
theorem v_X3_fits (l : Launch) : CMetC l 3 75 P_X3_fits (EvQ (3 + 1) 75 Q_X3_fits) := by sorry
theorem v_X3_judgeNumber (l : Launch) : CMetC l 2 54 P_X3_judgeNumber (EvQ (2 + 1) 54 Q_X3_judgeNumber) := by sorry
theorem v_X3_judgeName (l : Launch) : CMetC l 12 55 P_X3_judgeName (EvQ (12 + 1) 55 Q_X3_judgeName) := by sorry
theorem v_X3_judgeOfOne (l : Launch) : CMetC l 3 56 P_X3_judgeOfOne (EvQ (3 + 1) 56 Q_X3_judgeOfOne) := by sorry
theorem v_X3_judgeCount (l : Launch) : CMetC l 12 60 P_X3_judgeCount (EvQ (12 + 1) 60 Q_X3_judgeCount) := by sorry
theorem v_X3_judgeAssignment (l : Launch) : CMetC l 12 61 P_X3_judgeAssignment (EvQ (12 + 1) 61 Q_X3_judgeAssignment) := by sorry
theorem v_X3_workedChain (l : Launch) : CMetC l 3 70 P_X3_workedChain (EvQ (3 + 1) 70 Q_X3_workedChain) := by sorry
theorem v_X3_judgeChain (l : Launch) : CMetC l 4 69 P_X3_judgeChain (EvQ (4 + 1) 69 Q_X3_judgeChain) := by sorry
theorem v_X3_choiceType (l : Launch) : CMetC l 3 72 P_X3_choiceType (EvQ (3 + 1) 72 Q_X3_choiceType) := by sorry
theorem v_X3_judgeChoice (l : Launch) : CMetC l 4 71 P_X3_judgeChoice (EvQ (4 + 1) 71 Q_X3_judgeChoice) := by sorry
theorem v_X3_isNarrowest (l : Launch) : CMetC l 12 78 P_X3_isNarrowest (EvQ (12 + 1) 78 Q_X3_isNarrowest) := by sorry
theorem v_X3_calledMethod (l : Launch) : CMetC l 13 77 P_X3_calledMethod (EvQ (13 + 1) 77 Q_X3_calledMethod) := by sorry
theorem v_X3_judgeCall (l : Launch) : CMetC l 14 76 P_X3_judgeCall (EvQ (14 + 1) 76 Q_X3_judgeCall) := by sorry
theorem v_X3_judgeStore (l : Launch) : CMetC l 12 79 P_X3_judgeStore (EvQ (12 + 1) 79 Q_X3_judgeStore) := by sorry
theorem v_X3_judgeExp (l : Launch) : CMetC l 15 53 P_X3_judgeExp (EvQ (15 + 1) 53 Q_X3_judgeExp) := by sorry
theorem v_X3_isSameName (l : Launch) : CMetC l 1 84 P_X3_isSameName (EvQ (1 + 1) 84 Q_X3_isSameName) := by sorry
theorem v_X3_judgeCase (l : Launch) : CMetC l 4 82 P_X3_judgeCase (EvQ (4 + 1) 82 Q_X3_judgeCase) := by sorry
theorem v_X3_judgeSwitch (l : Launch) : CMetC l 5 81 P_X3_judgeSwitch (EvQ (5 + 1) 81 Q_X3_judgeSwitch) := by sorry
theorem v_X3_judgeJump (l : Launch) : CMetC l 2 83 P_X3_judgeJump (EvQ (2 + 1) 83 Q_X3_judgeJump) := by sorry
theorem v_X3_judgeLabel (l : Launch) : CMetC l 2 85 P_X3_judgeLabel (EvQ (2 + 1) 85 Q_X3_judgeLabel) := by sorry
theorem v_X3_judgeReturn (l : Launch) : CMetC l 12 86 P_X3_judgeReturn (EvQ (12 + 1) 86 Q_X3_judgeReturn) := by sorry
theorem v_X3_judgeStatement (l : Launch) : CMetC l 13 80 P_X3_judgeStatement (EvQ (13 + 1) 80 Q_X3_judgeStatement) := by sorry
theorem v9_byteAt (l : Launch) : CMetC l 1 189 P_X9_byteAt (EvQ (1 + 1) 189 R_byteAt) := by sorry
theorem v9_behindBlanks (l : Launch) : CMetC l 2 190 P_X9_behindBlanks (EvQ (2 + 1) 190 R_behindBlanks) := by sorry
theorem v9_isLetter (l : Launch) : CMetC l 1 192 P_X9_isLetter (EvQ (1 + 1) 192 (fun As σ w τ => Q_X9_isLetter As σ w τ ∧ U_isLetter As σ w τ)) := by sorry
theorem v9_isDigit (l : Launch) : CMetC l 1 193 P_X9_isDigit (EvQ (1 + 1) 193 (fun As σ w τ => Q_X9_isDigit As σ w τ ∧ U_isDigit As σ w τ)) := by sorry
theorem v9_cutCharacter (l : Launch) : CMetC l 2 196 P_X9_cutCharacter (EvQ (2 + 1) 196 (fun As σ w τ => Q_X9_cutCharacter As σ w τ ∧ U_cutCharacter As σ w τ)) := by sorry
theorem v9_cutNumber (l : Launch) : CMetC l 2 195 P_X9_cutNumber (EvQ (2 + 1) 195 (fun As σ w τ => Q_X9_cutNumber As σ w τ ∧ U_cutNumber As σ w τ)) := by sorry
theorem v9_standsThere (l : Launch) : CMetC l 11 198 P_X9_standsThere (EvQ (11 + 1) 198 (fun As σ w τ => Q_X9_standsThere As σ w τ ∧ U_standsThere As σ w τ)) := by sorry
theorem v9_cutSign (l : Launch) : CMetC l 12 197 P_X9_cutSign (EvQ (12 + 1) 197 (fun As σ w τ => Q_X9_cutSign As σ w τ ∧ U_cutSign As σ w τ)) := by sorry
theorem v9_longerKey (l : Launch) : CMetC l 1 185 P_X9_longerKey (EvQ (1 + 1) 185 (fun As σ w τ => Q_X9_longerKey As σ w τ ∧ U_longerKey As σ w τ)) := by sorry
theorem v9_cutName (l : Launch) : CMetC l 2 194 P_X9_cutName (EvQ (2 + 1) 194 (fun As σ w τ => Q_X9_cutName As σ w τ ∧ U_cutName As σ w τ)) := by sorry
theorem v9_cutOne (l : Launch) : CMetC l 13 191 P_X9_cutOne (EvQ (13 + 1) 191 (fun As σ w τ => Q_X9_cutOne As σ w τ ∧ U_cutOne As σ w τ)) := by sorry
theorem v9_cutText (l : Launch) : CMetC l 14 188 P_X9_cutText (EvQ (14 + 1) 188 (fun As σ w τ => Q_X9_cutText As σ w τ ∧ U_cutText As σ w τ)) := by sorry
theorem v_X9_cutText (l : Launch) : CMetC l 14 188 P_X9_cutText (EvQ (14 + 1) 188 Q_X9_cutText) := (v9_cutText l).mq (fun As σ w τ hP hg h => ⟨h.1.1, h.2⟩)
theorem v_X2_markTarget (l : Launch) : CMetC l 2 27 P_X2_markTarget (EvQ (2 + 1) 27 Q_X2_markTarget) := by sorry
theorem v_X2_toAside (l : Launch) : CMetC l 1 46 P_X2_toAside (EvQ (1 + 1) 46 Q_X2_toAside) := by sorry
theorem v_X2_fromAside (l : Launch) : CMetC l 1 47 P_X2_fromAside (EvQ (1 + 1) 47 Q_X2_fromAside) := by sorry
theorem v_X2_fork (l : Launch) : CMetC l 2 41 P_X2_fork (EvQ (2 + 1) 41 Q_X2_fork) := by sorry
theorem v_X2_passElse (l : Launch) : CMetC l 2 42 P_X2_passElse (EvQ (2 + 1) 42 Q_X2_passElse) := by sorry
theorem v_X2_join (l : Launch) : CMetC l 1 45 P_X2_join (EvQ (1 + 1) 45 Q_X2_join) := by sorry
theorem v_X2_takeValue (l : Launch) : CMetC l 2 44 P_X2_takeValue (EvQ (2 + 1) 44 Q_X2_takeValue) := by sorry
theorem v_X2_passChain (l : Launch) : CMetC l 2 43 P_X2_passChain (EvQ (2 + 1) 43 Q_X2_passChain) := by sorry
theorem v_X2_pass (l : Launch) : CMetC l 3 40 P_X2_pass (EvQ (3 + 1) 40 Q_X2_pass) := by sorry
theorem v_X2_behindExp (l : Launch) : CMetC l 11 39 P_X2_behindExp (EvQ (11 + 1) 39 Q_X2_behindExp) := by sorry
theorem v_X2_behindTold (l : Launch) : CMetC l 12 33 P_X2_behindTold (EvQ (12 + 1) 33 Q_X2_behindTold) := by sorry
theorem v_X2_leadTo (l : Launch) : CMetC l 2 34 P_X2_leadTo (EvQ (2 + 1) 34 Q_X2_leadTo) := by sorry
theorem v_X0_put (l : Launch) : CMetC l 1 2 P_X0_put (EvQ (1 + 1) 2 Q_X0_put) := by sorry
theorem v_X0_jumpTo (l : Launch) : CMetC l 2 3 P_X0_jumpTo (EvQ (2 + 1) 3 Q_X0_jumpTo) := by sorry
theorem v_X0_layOne (l : Launch) : CMetC l 2 16 P_X0_layOne (EvQ (2 + 1) 16 Q_X0_layOne) := by sorry
theorem v_X0_layExp (l : Launch) : CMetC l 11 15 P_X0_layExp (EvQ (11 + 1) 15 Q_X0_layExp) := by sorry
theorem v_X0_layTold (l : Launch) : CMetC l 12 9 P_X0_layTold (EvQ (12 + 1) 9 Q_X0_layTold) := by sorry
theorem v_X4_push (l : Launch) : CMetC l 1 91 P_X4_push (EvQ (1 + 1) 91 Q_X4_push) := by sorry
theorem v_X4_pop (l : Launch) : CMetC l 1 92 P_X4_pop (EvQ (1 + 1) 92 Q_X4_pop) := by sorry
theorem v_X4_slot (l : Launch) : CMetC l 1 93 P_X4_slot (EvQ (1 + 1) 93 Q_X4_slot) := by sorry
theorem v_X4_step (l : Launch) : CMetC l 1 94 P_X4_step (EvQ (1 + 1) 94 Q_X4_step) := by sorry
theorem v_X4_prepare (l : Launch) : CMetC l 1 88 P_X4_prepare (EvQ (1 + 1) 88 Q_X4_prepare) := by sorry
theorem v_X4_tellNumber (l : Launch) : CMetC l 2 101 P_X4_tellNumber (EvQ (2 + 1) 101 Q_X4_tellNumber) := by sorry
theorem v_X4_enter (l : Launch) : CMetC l 2 102 P_X4_enter (EvQ (2 + 1) 102 Q_X4_enter) := by sorry
theorem v_X4_leaveCall (l : Launch) : CMetC l 2 103 P_X4_leaveCall (EvQ (2 + 1) 103 Q_X4_leaveCall) := by sorry
theorem v_X4_operate (l : Launch) : CMetC l 3 97 P_X4_operate (EvQ (3 + 1) 97 Q_X4_operate) := by sorry
theorem v_X4_count (l : Launch) : CMetC l 2 98 P_X4_count (EvQ (2 + 1) 98 Q_X4_count) := by sorry
theorem v_X4_assign (l : Launch) : CMetC l 3 99 P_X4_assign (EvQ (3 + 1) 99 Q_X4_assign) := by sorry
theorem v_X4_call (l : Launch) : CMetC l 12 100 P_X4_call (EvQ (12 + 1) 100 Q_X4_call) := by sorry
theorem v_X4_work (l : Launch) : CMetC l 13 96 P_X4_work (EvQ (13 + 1) 96 Q_X4_work) := by sorry
theorem v_X4_move (l : Launch) : CMetC l 2 104 P_X4_move (EvQ (2 + 1) 104 Q_X4_move) := by sorry
theorem v_X4_way (l : Launch) : CMetC l 1 106 P_X4_way (EvQ (1 + 1) 106 Q_X4_way) := by sorry
theorem v_X4_choose (l : Launch) : CMetC l 1 107 P_X4_choose (EvQ (1 + 1) 107 Q_X4_choose) := by sorry
theorem v_X4_goInto (l : Launch) : CMetC l 1 109 P_X4_goInto (EvQ (1 + 1) 109 Q_X4_goInto) := by sorry
theorem v_X4_behindMethod (l : Launch) : CMetC l 3 110 P_X4_behindMethod (EvQ (3 + 1) 110 Q_X4_behindMethod) := by sorry
theorem v_X4_leave (l : Launch) : CMetC l 4 108 P_X4_leave (EvQ (4 + 1) 108 Q_X4_leave) := by sorry
theorem v_X4_control (l : Launch) : CMetC l 5 105 P_X4_control (EvQ (5 + 1) 105 Q_X4_control) := by sorry
theorem v_X4_obey (l : Launch) : CMetC l 14 95 P_X4_obey (EvQ (14 + 1) 95 Q_X4_obey) := by sorry
theorem v_X4_perform (l : Launch) : CMetC l 15 89 P_X4_perform (EvQ (15 + 1) 89 Q_X4_perform) := by sorry
theorem vs_X2_reachRow (l : Launch) (d : Nat) (h_X2_reach : CMetC l (8 * d + 23) 22 (P_X2_reach d) (EvQ ((8 * d + 23) + 1) 22 Q_X2_reach)) : CMetC l (8 * (d + 1) + 21) 21 (P_X2_reachRow (d + 1)) (EvQ ((8 * (d + 1) + 21) + 1) 21 Q_X2_reachRow) := by sorry
theorem vs_X2_reachBody (l : Launch) (d : Nat) (h_X2_reach : CMetC l (8 * d + 23) 22 (P_X2_reach d) (EvQ ((8 * d + 23) + 1) 22 Q_X2_reach)) : CMetC l (8 * (d + 1) + 21) 24 (P_X2_reachBody (d + 1)) (EvQ ((8 * (d + 1) + 21) + 1) 24 Q_X2_reachBody) := by sorry
theorem vs_X2_reachSwitch (l : Launch) (d : Nat) (h_X2_reach : CMetC l (8 * d + 23) 22 (P_X2_reach d) (EvQ ((8 * d + 23) + 1) 22 Q_X2_reach)) : CMetC l (8 * (d + 1) + 21) 25 (P_X2_reachSwitch (d + 1)) (EvQ ((8 * (d + 1) + 21) + 1) 25 Q_X2_reachSwitch) := by sorry
theorem vs_X2_reachTry (l : Launch) (d : Nat) (h_X2_reachRow : CMetC l (8 * d + 21) 21 (P_X2_reachRow d) (EvQ ((8 * d + 21) + 1) 21 Q_X2_reachRow)) : CMetC l (8 * (d + 1) + 21) 26 (P_X2_reachTry (d + 1)) (EvQ ((8 * (d + 1) + 21) + 1) 26 Q_X2_reachTry) := by sorry
theorem vs_X2_reachInside (l : Launch) (d : Nat) (h_X2_reachRow : CMetC l (8 * (d + 1) + 21) 21 (P_X2_reachRow (d + 1)) (EvQ ((8 * (d + 1) + 21) + 1) 21 Q_X2_reachRow)) (h_X2_reachBody : CMetC l (8 * (d + 1) + 21) 24 (P_X2_reachBody (d + 1)) (EvQ ((8 * (d + 1) + 21) + 1) 24 Q_X2_reachBody)) (h_X2_reach : CMetC l (8 * d + 23) 22 (P_X2_reach d) (EvQ ((8 * d + 23) + 1) 22 Q_X2_reach)) (h_X2_reachSwitch : CMetC l (8 * (d + 1) + 21) 25 (P_X2_reachSwitch (d + 1)) (EvQ ((8 * (d + 1) + 21) + 1) 25 Q_X2_reachSwitch)) (h_X2_reachTry : CMetC l (8 * (d + 1) + 21) 26 (P_X2_reachTry (d + 1)) (EvQ ((8 * (d + 1) + 21) + 1) 26 Q_X2_reachTry)) : CMetC l (8 * (d + 1) + 22) 23 (P_X2_reachInside (d + 1)) (EvQ ((8 * (d + 1) + 22) + 1) 23 Q_X2_reachInside) := by sorry
theorem vs_X2_reach (l : Launch) (d : Nat) (h_X2_reachInside : CMetC l (8 * (d + 1) + 22) 23 (P_X2_reachInside (d + 1)) (EvQ ((8 * (d + 1) + 22) + 1) 23 Q_X2_reachInside)) : CMetC l (8 * (d + 1) + 23) 22 (P_X2_reach (d + 1)) (EvQ ((8 * (d + 1) + 23) + 1) 22 Q_X2_reach) := by sorry
theorem vs_X2_assignBody (l : Launch) (d : Nat) (h_X2_assign : CMetC l (8 * d + 24) 29 (P_X2_assign d) (EvQ ((8 * d + 24) + 1) 29 Q_X2_assign)) : CMetC l (8 * (d + 1) + 21) 31 (P_X2_assignBody (d + 1)) (EvQ ((8 * (d + 1) + 21) + 1) 31 Q_X2_assignBody) := by sorry
theorem vs_X2_behindIf (l : Launch) (d : Nat) (h_X2_assignBody : CMetC l (8 * (d + 1) + 21) 31 (P_X2_assignBody (d + 1)) (EvQ ((8 * (d + 1) + 21) + 1) 31 Q_X2_assignBody)) (h_X2_assign : CMetC l (8 * d + 24) 29 (P_X2_assign d) (EvQ ((8 * d + 24) + 1) 29 Q_X2_assign)) : CMetC l (8 * (d + 1) + 22) 35 (P_X2_behindIf (d + 1)) (EvQ ((8 * (d + 1) + 22) + 1) 35 Q_X2_behindIf) := by sorry
theorem vs_X2_behindLoop (l : Launch) (d : Nat) (h_X2_assignBody : CMetC l (8 * (d + 1) + 21) 31 (P_X2_assignBody (d + 1)) (EvQ ((8 * (d + 1) + 21) + 1) 31 Q_X2_assignBody)) (h_X2_assignRow : CMetC l (8 * d + 25) 30 (P_X2_assignRow d) (EvQ ((8 * d + 25) + 1) 30 Q_X2_assignRow)) : CMetC l (8 * (d + 1) + 22) 36 (P_X2_behindLoop (d + 1)) (EvQ ((8 * (d + 1) + 22) + 1) 36 Q_X2_behindLoop) := by sorry
theorem vs_X2_behindSwitch (l : Launch) (d : Nat) (h_X2_assign : CMetC l (8 * d + 24) 29 (P_X2_assign d) (EvQ ((8 * d + 24) + 1) 29 Q_X2_assign)) : CMetC l (8 * (d + 1) + 22) 37 (P_X2_behindSwitch (d + 1)) (EvQ ((8 * (d + 1) + 22) + 1) 37 Q_X2_behindSwitch) := by sorry
theorem vs_X2_behindTry (l : Launch) (d : Nat) (h_X2_assign : CMetC l (8 * d + 24) 29 (P_X2_assign d) (EvQ ((8 * d + 24) + 1) 29 Q_X2_assign)) (h_X2_assignBody : CMetC l (8 * (d + 1) + 21) 31 (P_X2_assignBody (d + 1)) (EvQ ((8 * (d + 1) + 21) + 1) 31 Q_X2_assignBody)) : CMetC l (8 * (d + 1) + 22) 38 (P_X2_behindTry (d + 1)) (EvQ ((8 * (d + 1) + 22) + 1) 38 Q_X2_behindTry) := by sorry
theorem vs_X2_behind (l : Launch) (d : Nat) (h_X2_assignRow : CMetC l (8 * d + 25) 30 (P_X2_assignRow d) (EvQ ((8 * d + 25) + 1) 30 Q_X2_assignRow)) (h_X2_assignBody : CMetC l (8 * (d + 1) + 21) 31 (P_X2_assignBody (d + 1)) (EvQ ((8 * (d + 1) + 21) + 1) 31 Q_X2_assignBody)) (h_X2_behindIf : CMetC l (8 * (d + 1) + 22) 35 (P_X2_behindIf (d + 1)) (EvQ ((8 * (d + 1) + 22) + 1) 35 Q_X2_behindIf)) (h_X2_behindLoop : CMetC l (8 * (d + 1) + 22) 36 (P_X2_behindLoop (d + 1)) (EvQ ((8 * (d + 1) + 22) + 1) 36 Q_X2_behindLoop)) (h_X2_behindSwitch : CMetC l (8 * (d + 1) + 22) 37 (P_X2_behindSwitch (d + 1)) (EvQ ((8 * (d + 1) + 22) + 1) 37 Q_X2_behindSwitch)) (h_X2_behindTry : CMetC l (8 * (d + 1) + 22) 38 (P_X2_behindTry (d + 1)) (EvQ ((8 * (d + 1) + 22) + 1) 38 Q_X2_behindTry)) : CMetC l (8 * (d + 1) + 23) 32 (P_X2_behind (d + 1)) (EvQ ((8 * (d + 1) + 23) + 1) 32 Q_X2_behind) := by sorry
theorem vs_X2_assign (l : Launch) (d : Nat) (h_X2_behind : CMetC l (8 * (d + 1) + 23) 32 (P_X2_behind (d + 1)) (EvQ ((8 * (d + 1) + 23) + 1) 32 Q_X2_behind)) : CMetC l (8 * (d + 1) + 24) 29 (P_X2_assign (d + 1)) (EvQ ((8 * (d + 1) + 24) + 1) 29 Q_X2_assign) := by sorry
theorem vs_X2_assignRow (l : Launch) (d : Nat) (h_X2_assign : CMetC l (8 * d + 24) 29 (P_X2_assign d) (EvQ ((8 * d + 24) + 1) 29 Q_X2_assign)) : CMetC l (8 * d + 25) 30 (P_X2_assignRow d) (EvQ ((8 * d + 25) + 1) 30 Q_X2_assignRow) := by sorry
theorem vs_X0_layBody (l : Launch) (d : Nat) (h_X0_layRow : CMetC l (8 * d + 25) 5 (P_X0_layRow d) (EvQ ((8 * d + 25) + 1) 5 Q_X0_layRow)) : CMetC l (8 * (d + 1) + 21) 4 (P_X0_layBody (d + 1)) (EvQ ((8 * (d + 1) + 21) + 1) 4 Q_X0_layBody) := by sorry
theorem vs_X0_layIf (l : Launch) (d : Nat) (h_X0_layInner : CMetC l (8 * d + 25) 7 (P_X0_layInner d) (EvQ ((8 * d + 25) + 1) 7 Q_X0_layInner)) (h_X0_layStatement : CMetC l (8 * d + 24) 6 (P_X0_layStatement d) (EvQ ((8 * d + 24) + 1) 6 Q_X0_layStatement)) : CMetC l (8 * (d + 1) + 22) 10 (P_X0_layIf (d + 1)) (EvQ ((8 * (d + 1) + 22) + 1) 10 Q_X0_layIf) := by sorry
theorem vs_X0_layWhile (l : Launch) (d : Nat) (h_X0_layInner : CMetC l (8 * d + 25) 7 (P_X0_layInner d) (EvQ ((8 * d + 25) + 1) 7 Q_X0_layInner)) : CMetC l (8 * (d + 1) + 22) 11 (P_X0_layWhile (d + 1)) (EvQ ((8 * (d + 1) + 22) + 1) 11 Q_X0_layWhile) := by sorry
theorem vs_X0_layDo (l : Launch) (d : Nat) (h_X0_layInner : CMetC l (8 * d + 25) 7 (P_X0_layInner d) (EvQ ((8 * d + 25) + 1) 7 Q_X0_layInner)) : CMetC l (8 * (d + 1) + 22) 12 (P_X0_layDo (d + 1)) (EvQ ((8 * (d + 1) + 22) + 1) 12 Q_X0_layDo) := by sorry
theorem vs_X0_layFor (l : Launch) (d : Nat) (h_X0_layRow : CMetC l (8 * d + 25) 5 (P_X0_layRow d) (EvQ ((8 * d + 25) + 1) 5 Q_X0_layRow)) (h_X0_layInner : CMetC l (8 * d + 25) 7 (P_X0_layInner d) (EvQ ((8 * d + 25) + 1) 7 Q_X0_layInner)) : CMetC l (8 * (d + 1) + 22) 13 (P_X0_layFor (d + 1)) (EvQ ((8 * (d + 1) + 22) + 1) 13 Q_X0_layFor) := by sorry
theorem vs_X0_layTry (l : Launch) (d : Nat) (h_X0_layBody : CMetC l (8 * d + 21) 4 (P_X0_layBody d) (EvQ ((8 * d + 21) + 1) 4 Q_X0_layBody)) : CMetC l (8 * (d + 1) + 22) 14 (P_X0_layTry (d + 1)) (EvQ ((8 * (d + 1) + 22) + 1) 14 Q_X0_layTry) := by sorry
theorem vs_X0_layInside (l : Launch) (d : Nat) (h_X0_layRow : CMetC l (8 * d + 25) 5 (P_X0_layRow d) (EvQ ((8 * d + 25) + 1) 5 Q_X0_layRow)) (h_X0_layInner : CMetC l (8 * d + 25) 7 (P_X0_layInner d) (EvQ ((8 * d + 25) + 1) 7 Q_X0_layInner)) (h_X0_layIf : CMetC l (8 * (d + 1) + 22) 10 (P_X0_layIf (d + 1)) (EvQ ((8 * (d + 1) + 22) + 1) 10 Q_X0_layIf)) (h_X0_layWhile : CMetC l (8 * (d + 1) + 22) 11 (P_X0_layWhile (d + 1)) (EvQ ((8 * (d + 1) + 22) + 1) 11 Q_X0_layWhile)) (h_X0_layDo : CMetC l (8 * (d + 1) + 22) 12 (P_X0_layDo (d + 1)) (EvQ ((8 * (d + 1) + 22) + 1) 12 Q_X0_layDo)) (h_X0_layFor : CMetC l (8 * (d + 1) + 22) 13 (P_X0_layFor (d + 1)) (EvQ ((8 * (d + 1) + 22) + 1) 13 Q_X0_layFor)) (h_X0_layTry : CMetC l (8 * (d + 1) + 22) 14 (P_X0_layTry (d + 1)) (EvQ ((8 * (d + 1) + 22) + 1) 14 Q_X0_layTry)) : CMetC l (8 * (d + 1) + 23) 8 (P_X0_layInside (d + 1)) (EvQ ((8 * (d + 1) + 23) + 1) 8 Q_X0_layInside) := by sorry
theorem vs_X0_layStatement (l : Launch) (d : Nat) (h_X0_layInside : CMetC l (8 * (d + 1) + 23) 8 (P_X0_layInside (d + 1)) (EvQ ((8 * (d + 1) + 23) + 1) 8 Q_X0_layInside)) : CMetC l (8 * (d + 1) + 24) 6 (P_X0_layStatement (d + 1)) (EvQ ((8 * (d + 1) + 24) + 1) 6 Q_X0_layStatement) := by sorry
theorem vs_X0_layInner (l : Launch) (d : Nat) (h_X0_layStatement : CMetC l (8 * d + 24) 6 (P_X0_layStatement d) (EvQ ((8 * d + 24) + 1) 6 Q_X0_layStatement)) : CMetC l (8 * d + 25) 7 (P_X0_layInner d) (EvQ ((8 * d + 25) + 1) 7 Q_X0_layInner) := by sorry
theorem vs_X0_layRow (l : Launch) (d : Nat) (h_X0_layStatement : CMetC l (8 * d + 24) 6 (P_X0_layStatement d) (EvQ ((8 * d + 24) + 1) 6 Q_X0_layStatement)) : CMetC l (8 * d + 25) 5 (P_X0_layRow d) (EvQ ((8 * d + 25) + 1) 5 Q_X0_layRow) := by sorry
theorem vrecA (l : Launch) : ∀ n : Nat, CMetC l (8 * n + 21) 21 (P_X2_reachRow n) (EvQ ((8 * n + 21) + 1) 21 Q_X2_reachRow) ∧ CMetC l (8 * n + 21) 24 (P_X2_reachBody n) (EvQ ((8 * n + 21) + 1) 24 Q_X2_reachBody) ∧ CMetC l (8 * n + 21) 25 (P_X2_reachSwitch n) (EvQ ((8 * n + 21) + 1) 25 Q_X2_reachSwitch) ∧ CMetC l (8 * n + 21) 26 (P_X2_reachTry n) (EvQ ((8 * n + 21) + 1) 26 Q_X2_reachTry) ∧ CMetC l (8 * n + 22) 23 (P_X2_reachInside n) (EvQ ((8 * n + 22) + 1) 23 Q_X2_reachInside) ∧ CMetC l (8 * n + 23) 22 (P_X2_reach n) (EvQ ((8 * n + 23) + 1) 22 Q_X2_reach) := by sorry
theorem v_X2_reachRow (l : Launch) (n : Nat) : CMetC l (8 * n + 21) 21 (P_X2_reachRow n) (EvQ ((8 * n + 21) + 1) 21 Q_X2_reachRow) := (vrecA l n).1
theorem v_X2_reachBody (l : Launch) (n : Nat) : CMetC l (8 * n + 21) 24 (P_X2_reachBody n) (EvQ ((8 * n + 21) + 1) 24 Q_X2_reachBody) := (vrecA l n).2.1
theorem v_X2_reachSwitch (l : Launch) (n : Nat) : CMetC l (8 * n + 21) 25 (P_X2_reachSwitch n) (EvQ ((8 * n + 21) + 1) 25 Q_X2_reachSwitch) := (vrecA l n).2.2.1
theorem v_X2_reachTry (l : Launch) (n : Nat) : CMetC l (8 * n + 21) 26 (P_X2_reachTry n) (EvQ ((8 * n + 21) + 1) 26 Q_X2_reachTry) := (vrecA l n).2.2.2.1
theorem v_X2_reachInside (l : Launch) (n : Nat) : CMetC l (8 * n + 22) 23 (P_X2_reachInside n) (EvQ ((8 * n + 22) + 1) 23 Q_X2_reachInside) := (vrecA l n).2.2.2.2.1
theorem v_X2_reach (l : Launch) (n : Nat) : CMetC l (8 * n + 23) 22 (P_X2_reach n) (EvQ ((8 * n + 23) + 1) 22 Q_X2_reach) := (vrecA l n).2.2.2.2.2

theorem vrecB (l : Launch) : ∀ n : Nat, CMetC l (8 * n + 21) 31 (P_X2_assignBody n) (EvQ ((8 * n + 21) + 1) 31 Q_X2_assignBody) ∧ CMetC l (8 * n + 22) 35 (P_X2_behindIf n) (EvQ ((8 * n + 22) + 1) 35 Q_X2_behindIf) ∧ CMetC l (8 * n + 22) 36 (P_X2_behindLoop n) (EvQ ((8 * n + 22) + 1) 36 Q_X2_behindLoop) ∧ CMetC l (8 * n + 22) 37 (P_X2_behindSwitch n) (EvQ ((8 * n + 22) + 1) 37 Q_X2_behindSwitch) ∧ CMetC l (8 * n + 22) 38 (P_X2_behindTry n) (EvQ ((8 * n + 22) + 1) 38 Q_X2_behindTry) ∧ CMetC l (8 * n + 23) 32 (P_X2_behind n) (EvQ ((8 * n + 23) + 1) 32 Q_X2_behind) ∧ CMetC l (8 * n + 24) 29 (P_X2_assign n) (EvQ ((8 * n + 24) + 1) 29 Q_X2_assign) ∧ CMetC l (8 * n + 25) 30 (P_X2_assignRow n) (EvQ ((8 * n + 25) + 1) 30 Q_X2_assignRow) := by sorry
theorem v_X2_assignBody (l : Launch) (n : Nat) : CMetC l (8 * n + 21) 31 (P_X2_assignBody n) (EvQ ((8 * n + 21) + 1) 31 Q_X2_assignBody) := (vrecB l n).1
theorem v_X2_behindIf (l : Launch) (n : Nat) : CMetC l (8 * n + 22) 35 (P_X2_behindIf n) (EvQ ((8 * n + 22) + 1) 35 Q_X2_behindIf) := (vrecB l n).2.1
theorem v_X2_behindLoop (l : Launch) (n : Nat) : CMetC l (8 * n + 22) 36 (P_X2_behindLoop n) (EvQ ((8 * n + 22) + 1) 36 Q_X2_behindLoop) := (vrecB l n).2.2.1
theorem v_X2_behindSwitch (l : Launch) (n : Nat) : CMetC l (8 * n + 22) 37 (P_X2_behindSwitch n) (EvQ ((8 * n + 22) + 1) 37 Q_X2_behindSwitch) := (vrecB l n).2.2.2.1
theorem v_X2_behindTry (l : Launch) (n : Nat) : CMetC l (8 * n + 22) 38 (P_X2_behindTry n) (EvQ ((8 * n + 22) + 1) 38 Q_X2_behindTry) := (vrecB l n).2.2.2.2.1
theorem v_X2_behind (l : Launch) (n : Nat) : CMetC l (8 * n + 23) 32 (P_X2_behind n) (EvQ ((8 * n + 23) + 1) 32 Q_X2_behind) := (vrecB l n).2.2.2.2.2.1
theorem v_X2_assign (l : Launch) (n : Nat) : CMetC l (8 * n + 24) 29 (P_X2_assign n) (EvQ ((8 * n + 24) + 1) 29 Q_X2_assign) := (vrecB l n).2.2.2.2.2.2.1
theorem v_X2_assignRow (l : Launch) (n : Nat) : CMetC l (8 * n + 25) 30 (P_X2_assignRow n) (EvQ ((8 * n + 25) + 1) 30 Q_X2_assignRow) := (vrecB l n).2.2.2.2.2.2.2

theorem vrecC (l : Launch) : ∀ n : Nat, CMetC l (8 * n + 21) 4 (P_X0_layBody n) (EvQ ((8 * n + 21) + 1) 4 Q_X0_layBody) ∧ CMetC l (8 * n + 22) 10 (P_X0_layIf n) (EvQ ((8 * n + 22) + 1) 10 Q_X0_layIf) ∧ CMetC l (8 * n + 22) 11 (P_X0_layWhile n) (EvQ ((8 * n + 22) + 1) 11 Q_X0_layWhile) ∧ CMetC l (8 * n + 22) 12 (P_X0_layDo n) (EvQ ((8 * n + 22) + 1) 12 Q_X0_layDo) ∧ CMetC l (8 * n + 22) 13 (P_X0_layFor n) (EvQ ((8 * n + 22) + 1) 13 Q_X0_layFor) ∧ CMetC l (8 * n + 22) 14 (P_X0_layTry n) (EvQ ((8 * n + 22) + 1) 14 Q_X0_layTry) ∧ CMetC l (8 * n + 23) 8 (P_X0_layInside n) (EvQ ((8 * n + 23) + 1) 8 Q_X0_layInside) ∧ CMetC l (8 * n + 24) 6 (P_X0_layStatement n) (EvQ ((8 * n + 24) + 1) 6 Q_X0_layStatement) ∧ CMetC l (8 * n + 25) 7 (P_X0_layInner n) (EvQ ((8 * n + 25) + 1) 7 Q_X0_layInner) ∧ CMetC l (8 * n + 25) 5 (P_X0_layRow n) (EvQ ((8 * n + 25) + 1) 5 Q_X0_layRow) := by sorry
theorem v_X0_layBody (l : Launch) (n : Nat) : CMetC l (8 * n + 21) 4 (P_X0_layBody n) (EvQ ((8 * n + 21) + 1) 4 Q_X0_layBody) := (vrecC l n).1
theorem v_X0_layIf (l : Launch) (n : Nat) : CMetC l (8 * n + 22) 10 (P_X0_layIf n) (EvQ ((8 * n + 22) + 1) 10 Q_X0_layIf) := (vrecC l n).2.1
theorem v_X0_layWhile (l : Launch) (n : Nat) : CMetC l (8 * n + 22) 11 (P_X0_layWhile n) (EvQ ((8 * n + 22) + 1) 11 Q_X0_layWhile) := (vrecC l n).2.2.1
theorem v_X0_layDo (l : Launch) (n : Nat) : CMetC l (8 * n + 22) 12 (P_X0_layDo n) (EvQ ((8 * n + 22) + 1) 12 Q_X0_layDo) := (vrecC l n).2.2.2.1
theorem v_X0_layFor (l : Launch) (n : Nat) : CMetC l (8 * n + 22) 13 (P_X0_layFor n) (EvQ ((8 * n + 22) + 1) 13 Q_X0_layFor) := (vrecC l n).2.2.2.2.1
theorem v_X0_layTry (l : Launch) (n : Nat) : CMetC l (8 * n + 22) 14 (P_X0_layTry n) (EvQ ((8 * n + 22) + 1) 14 Q_X0_layTry) := (vrecC l n).2.2.2.2.2.1
theorem v_X0_layInside (l : Launch) (n : Nat) : CMetC l (8 * n + 23) 8 (P_X0_layInside n) (EvQ ((8 * n + 23) + 1) 8 Q_X0_layInside) := (vrecC l n).2.2.2.2.2.2.1
theorem v_X0_layStatement (l : Launch) (n : Nat) : CMetC l (8 * n + 24) 6 (P_X0_layStatement n) (EvQ ((8 * n + 24) + 1) 6 Q_X0_layStatement) := (vrecC l n).2.2.2.2.2.2.2.1
theorem v_X0_layInner (l : Launch) (n : Nat) : CMetC l (8 * n + 25) 7 (P_X0_layInner n) (EvQ ((8 * n + 25) + 1) 7 Q_X0_layInner) := (vrecC l n).2.2.2.2.2.2.2.2.1
theorem v_X0_layRow (l : Launch) (n : Nat) : CMetC l (8 * n + 25) 5 (P_X0_layRow n) (EvQ ((8 * n + 25) + 1) 5 Q_X0_layRow) := (vrecC l n).2.2.2.2.2.2.2.2.2
theorem v_X2_reachAll (l : Launch) : CMetC l 510 20 P_X2_reachAll (EvQ (510 + 1) 20 Q_X2_reachAll) := by sorry
theorem v_X2_assignAll (l : Launch) : CMetC l 513 28 P_X2_assignAll (EvQ (513 + 1) 28 Q_X2_assignAll) := by sorry
theorem v_X0_lay (l : Launch) : CMetC l 510 1 P_X0_lay (EvQ (510 + 1) 1 Q_X0_lay) := by sorry
theorem v_X3_judgeMethod (l : Launch) : CMetC l 12 50 P_X3_judgeMethod (EvQ (12 + 1) 50 Q_X3_judgeMethod) := by sorry
theorem v_X3_judgeProgram (l : Launch) : CMetC l 514 49 P_X3_judgeProgram (EvQ (514 + 1) 49 Q_X3_judgeProgram) := by sorry
theorem v_X11_cut (l : Launch) : CMetC l 1 203 P_X11_cut (EvQ (1 + 1) 203 Q_X11_cut) := by sorry
theorem v_X11_judge (l : Launch) : CMetC l 1 206 P_X11_judge (EvQ (1 + 1) 206 Q_X11_judge) := by sorry
theorem v_X11_means (l : Launch) : CMetC l 1 211 P_X11_means (EvQ (1 + 1) 211 Q_X11_means) := by sorry
theorem v_X11_type (l : Launch) : CMetC l 12 212 P_X11_type (EvQ (12 + 1) 212 Q_X11_type) := by sorry
theorem v_X11_constant (l : Launch) : CMetC l 12 213 P_X11_constant (EvQ (12 + 1) 213 Q_X11_constant) := by sorry
theorem v_X11_ends (l : Launch) : CMetC l 12 214 P_X11_ends (EvQ (12 + 1) 214 Q_X11_ends) := by sorry
theorem v_X11_assigned (l : Launch) : CMetC l 12 215 P_X11_assigned (EvQ (12 + 1) 215 Q_X11_assigned) := by sorry
theorem v_X11_argument (l : Launch) : CMetC l 1 216 P_X11_argument (EvQ (1 + 1) 216 Q_X11_argument) := by sorry
theorem v_X11_input (l : Launch) : CMetC l 1 217 P_X11_input (EvQ (1 + 1) 217 Q_X11_input) := by sorry
theorem v_X11_drain (l : Launch) : CMetC l 1 218 P_X11_drain (EvQ (1 + 1) 218 Q_X11_drain) := by sorry
theorem v_X11_run (l : Launch) : CMetC l 16 219 P_X11_run (EvQ (16 + 1) 219 Q_X11_run) := by sorry
theorem v_X1_init (l : Launch) : CMetC l 1 17 P_X1_init (EvQ (1 + 1) 17 Q_X1_init) := by sorry
theorem v_X8_init (l : Launch) : CMetC l 1 178 P_X8_init (EvQ (1 + 1) 178 Q_X8_init) := by sorry
theorem v_X10_init (l : Launch) : CMetC l 1 199 P_X10_init (EvQ (1 + 1) 199 Q_X10_init) := by sorry
theorem v_X5_init (l : Launch) : CMetC l 2 111 P_X5_init (EvQ (2 + 1) 111 Q_X5_init) := by sorry
theorem v9_append (l : Launch) : CMetC l 1 202 P_X11_append (EvQ (1 + 1) 202 (fun As σ w τ => Q_X11_append As σ w τ ∧ U_append As σ w τ)) := by sorry
theorem v9_feed (l : Launch) : CMetC l 2 201 P_X11_feed (EvQ (2 + 1) 201 (fun As σ w τ => Q_X11_feed As σ w τ ∧ U_feed As σ w τ)) := by sorry
theorem v_X7_code (l : Launch) : CMetC l 1 125 P_X7_code (EvQ (1 + 1) 125 Q_X7_code) := by sorry
theorem v_X7_codeBehind (l : Launch) : CMetC l 1 126 P_X7_codeBehind (EvQ (1 + 1) 126 Q_X7_codeBehind) := by sorry
theorem v_X7_raise (l : Launch) : CMetC l 1 127 P_X7_raise (EvQ (1 + 1) 127 Q_X7_raise) := by sorry
theorem v_X7_accept (l : Launch) : CMetC l 2 128 P_X7_accept (EvQ (2 + 1) 128 Q_X7_accept) := by sorry
theorem v_X7_expect (l : Launch) : CMetC l 3 129 P_X7_expect (EvQ (3 + 1) 129 Q_X7_expect) := by sorry
theorem v_X7_takes (l : Launch) : CMetC l 3 130 P_X7_takes (EvQ (3 + 1) 130 Q_X7_takes) := by sorry
theorem v_X7_isTooDeep (l : Launch) : CMetC l 2 131 P_X7_isTooDeep (EvQ (2 + 1) 131 Q_X7_isTooDeep) := by sorry
theorem v_X7_isType (l : Launch) : CMetC l 1 132 P_X7_isType (EvQ (1 + 1) 132 Q_X7_isType) := by sorry
theorem v_X7_isAssign (l : Launch) : CMetC l 1 133 P_X7_isAssign (EvQ (1 + 1) 133 Q_X7_isAssign) := by sorry
theorem v_X7_faultPlace (l : Launch) : CMetC l 1 124 P_X7_faultPlace (EvQ (1 + 1) 124 Q_X7_faultPlace) := by sorry
theorem v_X7_readType (l : Launch) : CMetC l 3 136 P_X7_readType (EvQ (3 + 1) 136 Q_X7_readType) := by sorry
theorem v_X7_know (l : Launch) : CMetC l 2 138 P_X7_know (EvQ (2 + 1) 138 Q_X7_know) := by sorry
theorem v_X7_lookUp (l : Launch) : CMetC l 11 139 P_X7_lookUp (EvQ (11 + 1) 139 Q_X7_lookUp) := by sorry
theorem v_X7_meant (l : Launch) : CMetC l 12 140 P_X7_meant (EvQ (12 + 1) 140 Q_X7_meant) := by sorry
theorem v_X7_declare (l : Launch) : CMetC l 12 137 P_X7_declare (EvQ (12 + 1) 137 Q_X7_declare) := by sorry
theorem v_X7_begin (l : Launch) : CMetC l 11 142 P_X7_begin (EvQ (11 + 1) 142 Q_X7_begin) := by sorry
theorem v_X7_put (l : Launch) : CMetC l 11 161 P_X7_put (EvQ (11 + 1) 161 Q_X7_put) := by sorry
theorem v_X7_opened (l : Launch) : CMetC l 11 162 P_X7_opened (EvQ (11 + 1) 162 Q_X7_opened) := by sorry
theorem v_X7_putMark (l : Launch) : CMetC l 12 163 P_X7_putMark (EvQ (12 + 1) 163 Q_X7_putMark) := by sorry
theorem v_X7_readLiteral (l : Launch) : CMetC l 12 177 P_X7_readLiteral (EvQ (12 + 1) 177 Q_X7_readLiteral) := by sorry
theorem v_X7_readCountAhead (l : Launch) : CMetC l 13 173 P_X7_readCountAhead (EvQ (13 + 1) 173 Q_X7_readCountAhead) := by sorry
theorem v_X7_waitingFor (l : Launch) : CMetC l 13 168 P_X7_waitingFor (EvQ (13 + 1) 168 Q_X7_waitingFor) := by sorry
theorem v_X7_closed (l : Launch) : CMetC l 12 169 P_X7_closed (EvQ (12 + 1) 169 Q_X7_closed) := by sorry
theorem vs_X7_readCall (l : Launch) (d : Nat) (h_X7_readExp : CMetC l (13 * d + 36) 164 (P_X7_readExp d) (EvQ ((13 * d + 36) + 1) 164 (Q_X7_readExp d))) : CMetC l (13 * (d + 1) + 31) 176 (P_X7_readCall (d + 1)) (EvQ ((13 * (d + 1) + 31) + 1) 176 (Q_X7_readCall (d + 1))) := by sorry
theorem vs_X7_readAlone (l : Launch) (d : Nat) (h_X7_readInnerOperand : CMetC l (13 * d + 34) 171 (P_X7_readInnerOperand d) (EvQ ((13 * d + 34) + 1) 171 (Q_X7_readInnerOperand d))) : CMetC l (13 * (d + 1) + 31) 172 (P_X7_readAlone (d + 1)) (EvQ ((13 * (d + 1) + 31) + 1) 172 (Q_X7_readAlone (d + 1))) := by sorry
theorem vs_X7_readBehindOpen (l : Launch) (d : Nat) (h_X7_readExp : CMetC l (13 * d + 36) 164 (P_X7_readExp d) (EvQ ((13 * d + 36) + 1) 164 (Q_X7_readExp d))) (h_X7_readInnerOperand : CMetC l (13 * d + 34) 171 (P_X7_readInnerOperand d) (EvQ ((13 * d + 34) + 1) 171 (Q_X7_readInnerOperand d))) : CMetC l (13 * (d + 1) + 31) 174 (P_X7_readBehindOpen (d + 1)) (EvQ ((13 * (d + 1) + 31) + 1) 174 (Q_X7_readBehindOpen (d + 1))) := by sorry
theorem vs_X7_readName (l : Launch) (d : Nat) (h_X7_readCall : CMetC l (13 * d + 31) 176 (P_X7_readCall d) (EvQ ((13 * d + 31) + 1) 176 (Q_X7_readCall d))) : CMetC l (13 * d + 32) 175 (P_X7_readName d) (EvQ ((13 * d + 32) + 1) 175 (Q_X7_readName d)) := by sorry
theorem vs_X7_readInnerOperand (l : Launch) (d : Nat) (h_X7_readOperand : CMetC l (13 * d + 33) 170 (P_X7_readOperand d) (EvQ ((13 * d + 33) + 1) 170 (Q_X7_readOperand d))) : CMetC l (13 * d + 34) 171 (P_X7_readInnerOperand d) (EvQ ((13 * d + 34) + 1) 171 (Q_X7_readInnerOperand d)) := by sorry
theorem vs_X7_readOperand (l : Launch) (d : Nat) (h_X7_readBehindOpen : CMetC l (13 * d + 31) 174 (P_X7_readBehindOpen d) (EvQ ((13 * d + 31) + 1) 174 (Q_X7_readBehindOpen d))) (h_X7_readAlone : CMetC l (13 * d + 31) 172 (P_X7_readAlone d) (EvQ ((13 * d + 31) + 1) 172 (Q_X7_readAlone d))) (h_X7_readName : CMetC l (13 * d + 32) 175 (P_X7_readName d) (EvQ ((13 * d + 32) + 1) 175 (Q_X7_readName d))) : CMetC l (13 * d + 33) 170 (P_X7_readOperand d) (EvQ ((13 * d + 33) + 1) 170 (Q_X7_readOperand d)) := by sorry
theorem vs_X7_readChoice (l : Launch) (d : Nat) (h_X7_readChain : CMetC l (13 * (d + 1) + 34) 167 (P_X7_readChain (d + 1)) (EvQ ((13 * (d + 1) + 34) + 1) 167 (Q_X7_readChain (d + 1)))) (h_X7_readExp : CMetC l (13 * d + 36) 164 (P_X7_readExp d) (EvQ ((13 * d + 36) + 1) 164 (Q_X7_readExp d))) (h_X7_readChoice : CMetC l (13 * d + 35) 166 (P_X7_readChoice d) (EvQ ((13 * d + 35) + 1) 166 (Q_X7_readChoice d))) : CMetC l (13 * (d + 1) + 35) 166 (P_X7_readChoice (d + 1)) (EvQ ((13 * (d + 1) + 35) + 1) 166 (Q_X7_readChoice (d + 1))) := by sorry
theorem vs_X7_readAssignment (l : Launch) (d : Nat) (h_X7_readExp : CMetC l (13 * d + 36) 164 (P_X7_readExp d) (EvQ ((13 * d + 36) + 1) 164 (Q_X7_readExp d))) : CMetC l (13 * (d + 1) + 35) 165 (P_X7_readAssignment (d + 1)) (EvQ ((13 * (d + 1) + 35) + 1) 165 (Q_X7_readAssignment (d + 1))) := by sorry
theorem vs_X7_readExp (l : Launch) (d : Nat) (h_X7_readChoice : CMetC l (13 * d + 35) 166 (P_X7_readChoice d) (EvQ ((13 * d + 35) + 1) 166 (Q_X7_readChoice d))) (h_X7_readAssignment : CMetC l (13 * d + 35) 165 (P_X7_readAssignment d) (EvQ ((13 * d + 35) + 1) 165 (Q_X7_readAssignment d))) : CMetC l (13 * d + 36) 164 (P_X7_readExp d) (EvQ ((13 * d + 36) + 1) 164 (Q_X7_readExp d)) := by sorry
theorem vs_X7_readChain (l : Launch) (d : Nat) (h_X7_readOperand : CMetC l (13 * d + 33) 170 (P_X7_readOperand d) (EvQ ((13 * d + 33) + 1) 170 (Q_X7_readOperand d))) : CMetC l (13 * d + 34) 167 (P_X7_readChain d) (EvQ ((13 * d + 34) + 1) 167 (Q_X7_readChain d)) := by sorry
theorem v_X8_init6 (l : Launch) : CMetC l 1 178 P_X8_init6 (EvQ (1 + 1) 178 Q_X8_init6) := by sorry
theorem v_X7_begin6 (l : Launch) : CMetC l 11 142 P_X7_begin6 (EvQ (11 + 1) 142 Q_X7_begin6) := by sorry
theorem vs_X7_readCondition (l : Launch) (d : Nat) (h_X7_readExp : CMetC l (13 * d + 36) 164 (P_X7_readExp d) (EvQ ((13 * d + 36) + 1) 164 (Q_X7_readExp d))) : CMetC l (13 * d + 37) 153 (P_X7_readCondition d) (EvQ ((13 * d + 37) + 1) 153 (Q_X7_readCondition d)) := by sorry
theorem vs_X7_readExpStatement (l : Launch) (d : Nat) (h_X7_readExp : CMetC l (13 * d + 36) 164 (P_X7_readExp d) (EvQ ((13 * d + 36) + 1) 164 (Q_X7_readExp d))) : CMetC l (13 * d + 37) 152 (P_X7_readExpStatement d) (EvQ ((13 * d + 37) + 1) 152 (Q_X7_readExpStatement d)) := by sorry
theorem vs_X7_readVariable (l : Launch) (d : Nat) (h_X7_readExp : CMetC l (13 * d + 36) 164 (P_X7_readExp d) (EvQ ((13 * d + 36) + 1) 164 (Q_X7_readExp d))) : CMetC l (13 * d + 37) 141 (P_X7_readVariable d) (EvQ ((13 * d + 37) + 1) 141 (Q_X7_readVariable d)) := by sorry
theorem vs_X7_readForExps (l : Launch) (d : Nat) (h_X7_readExp : CMetC l (13 * d + 36) 164 (P_X7_readExp d) (EvQ ((13 * d + 36) + 1) 164 (Q_X7_readExp d))) : CMetC l (13 * d + 37) 158 (P_X7_readForExps d) (EvQ ((13 * d + 37) + 1) 158 (Q_X7_readForExps d)) := by sorry
theorem vs_X7_readCase (l : Launch) (d : Nat) (h_X7_readExp : CMetC l (13 * d + 36) 164 (P_X7_readExp d) (EvQ ((13 * d + 36) + 1) 164 (Q_X7_readExp d))) : CMetC l (13 * d + 37) 147 (P_X7_readCase d) (EvQ ((13 * d + 37) + 1) 147 (Q_X7_readCase d)) := by sorry
theorem vs_X7_readInner (l : Launch) (d : Nat) (h_X7_readStatement : CMetC l (13 * d + 40) 149 (P_X7_readStatement d) (EvQ ((13 * d + 40) + 1) 149 (Q_X7_readStatement d))) : CMetC l (13 * (d + 1) + 37) 148 (P_X7_readInner (d + 1)) (EvQ ((13 * (d + 1) + 37) + 1) 148 (Q_X7_readInner (d + 1))) := by sorry
theorem vs_X7_readBlock (l : Launch) (d : Nat) (h_X7_readRow : CMetC l (13 * d + 42) 145 (P_X7_readRow d) (EvQ ((13 * d + 42) + 1) 145 (Q_X7_readRow d))) : CMetC l (13 * (d + 1) + 37) 144 (P_X7_readBlock (d + 1)) (EvQ ((13 * (d + 1) + 37) + 1) 144 (Q_X7_readBlock (d + 1))) := by sorry
theorem vs_X7_readBody (l : Launch) (d : Nat) (h_X7_readBlock : CMetC l (13 * d + 37) 144 (P_X7_readBlock d) (EvQ ((13 * d + 37) + 1) 144 (Q_X7_readBlock d))) : CMetC l (13 * d + 38) 143 (P_X7_readBody d) (EvQ ((13 * d + 38) + 1) 143 (Q_X7_readBody d)) := by sorry
theorem vs_X7_readIf (l : Launch) (d : Nat) (h_X7_readCondition : CMetC l (13 * d + 37) 153 (P_X7_readCondition d) (EvQ ((13 * d + 37) + 1) 153 (Q_X7_readCondition d))) (h_X7_readInner : CMetC l (13 * d + 37) 148 (P_X7_readInner d) (EvQ ((13 * d + 37) + 1) 148 (Q_X7_readInner d))) : CMetC l (13 * d + 38) 154 (P_X7_readIf d) (EvQ ((13 * d + 38) + 1) 154 (Q_X7_readIf d)) := by sorry
theorem vs_X7_readWhile (l : Launch) (d : Nat) (h_X7_readCondition : CMetC l (13 * d + 37) 153 (P_X7_readCondition d) (EvQ ((13 * d + 37) + 1) 153 (Q_X7_readCondition d))) (h_X7_readInner : CMetC l (13 * d + 37) 148 (P_X7_readInner d) (EvQ ((13 * d + 37) + 1) 148 (Q_X7_readInner d))) : CMetC l (13 * d + 38) 155 (P_X7_readWhile d) (EvQ ((13 * d + 38) + 1) 155 (Q_X7_readWhile d)) := by sorry
theorem vs_X7_readDo (l : Launch) (d : Nat) (h_X7_readInner : CMetC l (13 * d + 37) 148 (P_X7_readInner d) (EvQ ((13 * d + 37) + 1) 148 (Q_X7_readInner d))) (h_X7_readCondition : CMetC l (13 * d + 37) 153 (P_X7_readCondition d) (EvQ ((13 * d + 37) + 1) 153 (Q_X7_readCondition d))) : CMetC l (13 * d + 38) 156 (P_X7_readDo d) (EvQ ((13 * d + 38) + 1) 156 (Q_X7_readDo d)) := by sorry
theorem vs_X7_readFor (l : Launch) (d : Nat) (h_X7_readVariable : CMetC l (13 * d + 37) 141 (P_X7_readVariable d) (EvQ ((13 * d + 37) + 1) 141 (Q_X7_readVariable d))) (h_X7_readInner : CMetC l (13 * d + 37) 148 (P_X7_readInner d) (EvQ ((13 * d + 37) + 1) 148 (Q_X7_readInner d))) (h_X7_readForExps : CMetC l (13 * d + 37) 158 (P_X7_readForExps d) (EvQ ((13 * d + 37) + 1) 158 (Q_X7_readForExps d))) (h_X7_readExp : CMetC l (13 * d + 36) 164 (P_X7_readExp d) (EvQ ((13 * d + 36) + 1) 164 (Q_X7_readExp d))) : CMetC l (13 * d + 38) 157 (P_X7_readFor d) (EvQ ((13 * d + 38) + 1) 157 (Q_X7_readFor d)) := by sorry
theorem vs_X7_readSwitch (l : Launch) (d : Nat) (h_X7_readCondition : CMetC l (13 * (d + 1) + 37) 153 (P_X7_readCondition (d + 1)) (EvQ ((13 * (d + 1) + 37) + 1) 153 (Q_X7_readCondition (d + 1)))) (h_X7_readRow : CMetC l (13 * d + 42) 145 (P_X7_readRow d) (EvQ ((13 * d + 42) + 1) 145 (Q_X7_readRow d))) : CMetC l (13 * (d + 1) + 38) 159 (P_X7_readSwitch (d + 1)) (EvQ ((13 * (d + 1) + 38) + 1) 159 (Q_X7_readSwitch (d + 1))) := by sorry
theorem vs_X7_readSimple (l : Launch) (d : Nat) (h_X7_readExp : CMetC l (13 * d + 36) 164 (P_X7_readExp d) (EvQ ((13 * d + 36) + 1) 164 (Q_X7_readExp d))) (h_X7_readBlock : CMetC l (13 * d + 37) 144 (P_X7_readBlock d) (EvQ ((13 * d + 37) + 1) 144 (Q_X7_readBlock d))) : CMetC l (13 * d + 38) 150 (P_X7_readSimple d) (EvQ ((13 * d + 38) + 1) 150 (Q_X7_readSimple d)) := by sorry
theorem vs_X7_readLabel (l : Launch) (d : Nat) (h_X7_readInner : CMetC l (13 * d + 37) 148 (P_X7_readInner d) (EvQ ((13 * d + 37) + 1) 148 (Q_X7_readInner d))) : CMetC l (13 * d + 38) 151 (P_X7_readLabel d) (EvQ ((13 * d + 38) + 1) 151 (Q_X7_readLabel d)) := by sorry
theorem vs_X7_readTry (l : Launch) (d : Nat) (h_X7_readBody : CMetC l (13 * d + 38) 143 (P_X7_readBody d) (EvQ ((13 * d + 38) + 1) 143 (Q_X7_readBody d))) : CMetC l (13 * d + 39) 160 (P_X7_readTry d) (EvQ ((13 * d + 39) + 1) 160 (Q_X7_readTry d)) := by sorry
theorem vs_X7_readStatement (l : Launch) (d : Nat) (h_X7_readSimple : CMetC l (13 * d + 38) 150 (P_X7_readSimple d) (EvQ ((13 * d + 38) + 1) 150 (Q_X7_readSimple d))) (h_X7_readIf : CMetC l (13 * d + 38) 154 (P_X7_readIf d) (EvQ ((13 * d + 38) + 1) 154 (Q_X7_readIf d))) (h_X7_readWhile : CMetC l (13 * d + 38) 155 (P_X7_readWhile d) (EvQ ((13 * d + 38) + 1) 155 (Q_X7_readWhile d))) (h_X7_readDo : CMetC l (13 * d + 38) 156 (P_X7_readDo d) (EvQ ((13 * d + 38) + 1) 156 (Q_X7_readDo d))) (h_X7_readFor : CMetC l (13 * d + 38) 157 (P_X7_readFor d) (EvQ ((13 * d + 38) + 1) 157 (Q_X7_readFor d))) (h_X7_readSwitch : CMetC l (13 * d + 38) 159 (P_X7_readSwitch d) (EvQ ((13 * d + 38) + 1) 159 (Q_X7_readSwitch d))) (h_X7_readTry : CMetC l (13 * d + 39) 160 (P_X7_readTry d) (EvQ ((13 * d + 39) + 1) 160 (Q_X7_readTry d))) (h_X7_readExpStatement : CMetC l (13 * d + 37) 152 (P_X7_readExpStatement d) (EvQ ((13 * d + 37) + 1) 152 (Q_X7_readExpStatement d))) (h_X7_readLabel : CMetC l (13 * d + 38) 151 (P_X7_readLabel d) (EvQ ((13 * d + 38) + 1) 151 (Q_X7_readLabel d))) : CMetC l (13 * d + 40) 149 (P_X7_readStatement d) (EvQ ((13 * d + 40) + 1) 149 (Q_X7_readStatement d)) := by sorry
theorem vs_X7_readRowPart (l : Launch) (d : Nat) (h_X7_readVariable : CMetC l (13 * d + 37) 141 (P_X7_readVariable d) (EvQ ((13 * d + 37) + 1) 141 (Q_X7_readVariable d))) (h_X7_readStatement : CMetC l (13 * d + 40) 149 (P_X7_readStatement d) (EvQ ((13 * d + 40) + 1) 149 (Q_X7_readStatement d))) (h_X7_readCase : CMetC l (13 * d + 37) 147 (P_X7_readCase d) (EvQ ((13 * d + 37) + 1) 147 (Q_X7_readCase d))) : CMetC l (13 * d + 41) 146 (P_X7_readRowPart d) (EvQ ((13 * d + 41) + 1) 146 (Q_X7_readRowPart d)) := by sorry
theorem vs_X7_readRow (l : Launch) (d : Nat) (h_X7_readRowPart : CMetC l (13 * d + 41) 146 (P_X7_readRowPart d) (EvQ ((13 * d + 41) + 1) 146 (Q_X7_readRowPart d))) : CMetC l (13 * d + 42) 145 (P_X7_readRow d) (EvQ ((13 * d + 42) + 1) 145 (Q_X7_readRow d)) := by sorry
theorem vrecR (l : Launch) : ∀ n : Nat, CMetC l (13 * n + 31) 176 (P_X7_readCall n) (EvQ ((13 * n + 31) + 1) 176 (Q_X7_readCall n)) ∧ CMetC l (13 * n + 31) 172 (P_X7_readAlone n) (EvQ ((13 * n + 31) + 1) 172 (Q_X7_readAlone n)) ∧ CMetC l (13 * n + 31) 174 (P_X7_readBehindOpen n) (EvQ ((13 * n + 31) + 1) 174 (Q_X7_readBehindOpen n)) ∧ CMetC l (13 * n + 32) 175 (P_X7_readName n) (EvQ ((13 * n + 32) + 1) 175 (Q_X7_readName n)) ∧ CMetC l (13 * n + 33) 170 (P_X7_readOperand n) (EvQ ((13 * n + 33) + 1) 170 (Q_X7_readOperand n)) ∧ CMetC l (13 * n + 34) 171 (P_X7_readInnerOperand n) (EvQ ((13 * n + 34) + 1) 171 (Q_X7_readInnerOperand n)) ∧ CMetC l (13 * n + 34) 167 (P_X7_readChain n) (EvQ ((13 * n + 34) + 1) 167 (Q_X7_readChain n)) ∧ CMetC l (13 * n + 35) 166 (P_X7_readChoice n) (EvQ ((13 * n + 35) + 1) 166 (Q_X7_readChoice n)) ∧ CMetC l (13 * n + 35) 165 (P_X7_readAssignment n) (EvQ ((13 * n + 35) + 1) 165 (Q_X7_readAssignment n)) ∧ CMetC l (13 * n + 36) 164 (P_X7_readExp n) (EvQ ((13 * n + 36) + 1) 164 (Q_X7_readExp n)) ∧ CMetC l (13 * n + 37) 153 (P_X7_readCondition n) (EvQ ((13 * n + 37) + 1) 153 (Q_X7_readCondition n)) ∧ CMetC l (13 * n + 37) 152 (P_X7_readExpStatement n) (EvQ ((13 * n + 37) + 1) 152 (Q_X7_readExpStatement n)) ∧ CMetC l (13 * n + 37) 141 (P_X7_readVariable n) (EvQ ((13 * n + 37) + 1) 141 (Q_X7_readVariable n)) ∧ CMetC l (13 * n + 37) 158 (P_X7_readForExps n) (EvQ ((13 * n + 37) + 1) 158 (Q_X7_readForExps n)) ∧ CMetC l (13 * n + 37) 147 (P_X7_readCase n) (EvQ ((13 * n + 37) + 1) 147 (Q_X7_readCase n)) ∧ CMetC l (13 * n + 37) 148 (P_X7_readInner n) (EvQ ((13 * n + 37) + 1) 148 (Q_X7_readInner n)) ∧ CMetC l (13 * n + 37) 144 (P_X7_readBlock n) (EvQ ((13 * n + 37) + 1) 144 (Q_X7_readBlock n)) ∧ CMetC l (13 * n + 38) 143 (P_X7_readBody n) (EvQ ((13 * n + 38) + 1) 143 (Q_X7_readBody n)) ∧ CMetC l (13 * n + 38) 154 (P_X7_readIf n) (EvQ ((13 * n + 38) + 1) 154 (Q_X7_readIf n)) ∧ CMetC l (13 * n + 38) 155 (P_X7_readWhile n) (EvQ ((13 * n + 38) + 1) 155 (Q_X7_readWhile n)) ∧ CMetC l (13 * n + 38) 156 (P_X7_readDo n) (EvQ ((13 * n + 38) + 1) 156 (Q_X7_readDo n)) ∧ CMetC l (13 * n + 38) 157 (P_X7_readFor n) (EvQ ((13 * n + 38) + 1) 157 (Q_X7_readFor n)) ∧ CMetC l (13 * n + 38) 159 (P_X7_readSwitch n) (EvQ ((13 * n + 38) + 1) 159 (Q_X7_readSwitch n)) ∧ CMetC l (13 * n + 38) 150 (P_X7_readSimple n) (EvQ ((13 * n + 38) + 1) 150 (Q_X7_readSimple n)) ∧ CMetC l (13 * n + 38) 151 (P_X7_readLabel n) (EvQ ((13 * n + 38) + 1) 151 (Q_X7_readLabel n)) ∧ CMetC l (13 * n + 39) 160 (P_X7_readTry n) (EvQ ((13 * n + 39) + 1) 160 (Q_X7_readTry n)) ∧ CMetC l (13 * n + 40) 149 (P_X7_readStatement n) (EvQ ((13 * n + 40) + 1) 149 (Q_X7_readStatement n)) ∧ CMetC l (13 * n + 41) 146 (P_X7_readRowPart n) (EvQ ((13 * n + 41) + 1) 146 (Q_X7_readRowPart n)) ∧ CMetC l (13 * n + 42) 145 (P_X7_readRow n) (EvQ ((13 * n + 42) + 1) 145 (Q_X7_readRow n)) := by sorry
theorem v_X7_readCall (l : Launch) (n : Nat) : CMetC l (13 * n + 31) 176 (P_X7_readCall n) (EvQ ((13 * n + 31) + 1) 176 (Q_X7_readCall n)) := (vrecR l n).1
theorem v_X7_readAlone (l : Launch) (n : Nat) : CMetC l (13 * n + 31) 172 (P_X7_readAlone n) (EvQ ((13 * n + 31) + 1) 172 (Q_X7_readAlone n)) := (vrecR l n).2.1
theorem v_X7_readBehindOpen (l : Launch) (n : Nat) : CMetC l (13 * n + 31) 174 (P_X7_readBehindOpen n) (EvQ ((13 * n + 31) + 1) 174 (Q_X7_readBehindOpen n)) := (vrecR l n).2.2.1
theorem v_X7_readName (l : Launch) (n : Nat) : CMetC l (13 * n + 32) 175 (P_X7_readName n) (EvQ ((13 * n + 32) + 1) 175 (Q_X7_readName n)) := (vrecR l n).2.2.2.1
theorem v_X7_readOperand (l : Launch) (n : Nat) : CMetC l (13 * n + 33) 170 (P_X7_readOperand n) (EvQ ((13 * n + 33) + 1) 170 (Q_X7_readOperand n)) := (vrecR l n).2.2.2.2.1
theorem v_X7_readInnerOperand (l : Launch) (n : Nat) : CMetC l (13 * n + 34) 171 (P_X7_readInnerOperand n) (EvQ ((13 * n + 34) + 1) 171 (Q_X7_readInnerOperand n)) := (vrecR l n).2.2.2.2.2.1
theorem v_X7_readChain (l : Launch) (n : Nat) : CMetC l (13 * n + 34) 167 (P_X7_readChain n) (EvQ ((13 * n + 34) + 1) 167 (Q_X7_readChain n)) := (vrecR l n).2.2.2.2.2.2.1
theorem v_X7_readChoice (l : Launch) (n : Nat) : CMetC l (13 * n + 35) 166 (P_X7_readChoice n) (EvQ ((13 * n + 35) + 1) 166 (Q_X7_readChoice n)) := (vrecR l n).2.2.2.2.2.2.2.1
theorem v_X7_readAssignment (l : Launch) (n : Nat) : CMetC l (13 * n + 35) 165 (P_X7_readAssignment n) (EvQ ((13 * n + 35) + 1) 165 (Q_X7_readAssignment n)) := (vrecR l n).2.2.2.2.2.2.2.2.1
theorem v_X7_readExp (l : Launch) (n : Nat) : CMetC l (13 * n + 36) 164 (P_X7_readExp n) (EvQ ((13 * n + 36) + 1) 164 (Q_X7_readExp n)) := (vrecR l n).2.2.2.2.2.2.2.2.2.1
theorem v_X7_readCondition (l : Launch) (n : Nat) : CMetC l (13 * n + 37) 153 (P_X7_readCondition n) (EvQ ((13 * n + 37) + 1) 153 (Q_X7_readCondition n)) := (vrecR l n).2.2.2.2.2.2.2.2.2.2.1
theorem v_X7_readExpStatement (l : Launch) (n : Nat) : CMetC l (13 * n + 37) 152 (P_X7_readExpStatement n) (EvQ ((13 * n + 37) + 1) 152 (Q_X7_readExpStatement n)) := (vrecR l n).2.2.2.2.2.2.2.2.2.2.2.1
theorem v_X7_readVariable (l : Launch) (n : Nat) : CMetC l (13 * n + 37) 141 (P_X7_readVariable n) (EvQ ((13 * n + 37) + 1) 141 (Q_X7_readVariable n)) := (vrecR l n).2.2.2.2.2.2.2.2.2.2.2.2.1
theorem v_X7_readForExps (l : Launch) (n : Nat) : CMetC l (13 * n + 37) 158 (P_X7_readForExps n) (EvQ ((13 * n + 37) + 1) 158 (Q_X7_readForExps n)) := (vrecR l n).2.2.2.2.2.2.2.2.2.2.2.2.2.1
theorem v_X7_readCase (l : Launch) (n : Nat) : CMetC l (13 * n + 37) 147 (P_X7_readCase n) (EvQ ((13 * n + 37) + 1) 147 (Q_X7_readCase n)) := (vrecR l n).2.2.2.2.2.2.2.2.2.2.2.2.2.2.1
theorem v_X7_readInner (l : Launch) (n : Nat) : CMetC l (13 * n + 37) 148 (P_X7_readInner n) (EvQ ((13 * n + 37) + 1) 148 (Q_X7_readInner n)) := (vrecR l n).2.2.2.2.2.2.2.2.2.2.2.2.2.2.2.1
theorem v_X7_readBlock (l : Launch) (n : Nat) : CMetC l (13 * n + 37) 144 (P_X7_readBlock n) (EvQ ((13 * n + 37) + 1) 144 (Q_X7_readBlock n)) := (vrecR l n).2.2.2.2.2.2.2.2.2.2.2.2.2.2.2.2.1
theorem v_X7_readBody (l : Launch) (n : Nat) : CMetC l (13 * n + 38) 143 (P_X7_readBody n) (EvQ ((13 * n + 38) + 1) 143 (Q_X7_readBody n)) := (vrecR l n).2.2.2.2.2.2.2.2.2.2.2.2.2.2.2.2.2.1
theorem v_X7_readIf (l : Launch) (n : Nat) : CMetC l (13 * n + 38) 154 (P_X7_readIf n) (EvQ ((13 * n + 38) + 1) 154 (Q_X7_readIf n)) := (vrecR l n).2.2.2.2.2.2.2.2.2.2.2.2.2.2.2.2.2.2.1
theorem v_X7_readWhile (l : Launch) (n : Nat) : CMetC l (13 * n + 38) 155 (P_X7_readWhile n) (EvQ ((13 * n + 38) + 1) 155 (Q_X7_readWhile n)) := (vrecR l n).2.2.2.2.2.2.2.2.2.2.2.2.2.2.2.2.2.2.2.1
theorem v_X7_readDo (l : Launch) (n : Nat) : CMetC l (13 * n + 38) 156 (P_X7_readDo n) (EvQ ((13 * n + 38) + 1) 156 (Q_X7_readDo n)) := (vrecR l n).2.2.2.2.2.2.2.2.2.2.2.2.2.2.2.2.2.2.2.2.1
theorem v_X7_readFor (l : Launch) (n : Nat) : CMetC l (13 * n + 38) 157 (P_X7_readFor n) (EvQ ((13 * n + 38) + 1) 157 (Q_X7_readFor n)) := (vrecR l n).2.2.2.2.2.2.2.2.2.2.2.2.2.2.2.2.2.2.2.2.2.1
theorem v_X7_readSwitch (l : Launch) (n : Nat) : CMetC l (13 * n + 38) 159 (P_X7_readSwitch n) (EvQ ((13 * n + 38) + 1) 159 (Q_X7_readSwitch n)) := (vrecR l n).2.2.2.2.2.2.2.2.2.2.2.2.2.2.2.2.2.2.2.2.2.2.1
theorem v_X7_readSimple (l : Launch) (n : Nat) : CMetC l (13 * n + 38) 150 (P_X7_readSimple n) (EvQ ((13 * n + 38) + 1) 150 (Q_X7_readSimple n)) := (vrecR l n).2.2.2.2.2.2.2.2.2.2.2.2.2.2.2.2.2.2.2.2.2.2.2.1
theorem v_X7_readLabel (l : Launch) (n : Nat) : CMetC l (13 * n + 38) 151 (P_X7_readLabel n) (EvQ ((13 * n + 38) + 1) 151 (Q_X7_readLabel n)) := by sorry
theorem v_X7_readTry (l : Launch) (n : Nat) : CMetC l (13 * n + 39) 160 (P_X7_readTry n) (EvQ ((13 * n + 39) + 1) 160 (Q_X7_readTry n)) := by sorry
theorem v_X7_readStatement (l : Launch) (n : Nat) : CMetC l (13 * n + 40) 149 (P_X7_readStatement n) (EvQ ((13 * n + 40) + 1) 149 (Q_X7_readStatement n)) := by sorry
theorem v_X7_readRowPart (l : Launch) (n : Nat) : CMetC l (13 * n + 41) 146 (P_X7_readRowPart n) (EvQ ((13 * n + 41) + 1) 146 (Q_X7_readRowPart n)) := by sorry
theorem v_X7_readRow (l : Launch) (n : Nat) : CMetC l (13 * n + 42) 145 (P_X7_readRow n) (EvQ ((13 * n + 42) + 1) 145 (Q_X7_readRow n)) := by sorry
theorem v_X7_readParams (l : Launch) : CMetC l 13 135 P_X7_readParams (EvQ (13 + 1) 135 Q_X7_readParams) := by sorry
theorem v_X7_readMethod (l : Launch) : CMetC l 312 134 P_X7_readMethod (EvQ (312 + 1) 134 Q_X7_readMethod) := by sorry
theorem v9_readProgram (l : Launch) : CMetC l 313 123 P_X7_readProgram (EvQ (313 + 1) 123 (fun As σ w τ => Q_X7_readProgram As σ w τ ∧ U_readProgram As σ w τ)) := by sorry
theorem v9_read (l : Launch) : CMetC l 515 204 P_X11_read (EvQ (515 + 1) 204 (fun As σ w τ => Q_X11_read As σ w τ ∧ U_read As σ w τ)) := by sorry
/-! the class's reader: what it lays -/
def opA (A : Nat → Nat) (x : Int) : Option Nat := if x < 0 then none else some (A x.toNat)
theorem opA_n {A : Nat → Nat} {x : Int} (h : x < 0) : opA A x = none := if_pos h
theorem opA_s {A : Nat → Nat} {x : Int} (h : 0 ≤ x) : opA A x = some (A x.toNat) := if_neg (by omega)
theorem opA_k {A : Nat → Nat} {n : Nat} : opA A (n : Int) = some (A n) := by sorry
theorem opA_c {A A' : Nat → Nat} {n : Nat} {x : Int} (h : ∀ i, i < n → A' i = A i) (hx : x < (n : Int)) : opA A' x = opA A x := by sorry
/-- exp number i -/
def xgZ : List ItZ → Nat → XrZ
  | [], _ => recZ 0 0 0 0 0 0 0 0 0 0 0 0 []
  | .inl x :: l, i => if i = xcZ l then x else xgZ l i
  | .inr _ :: l, i => xgZ l i
def xth (z : ZS) (i : Nat) : XrZ := xgZ z.2.1 i
theorem xth_n {x : XrZ} {z : ZS} : xth (puM x z) (xnM z) = x := if_pos rfl
theorem xth_o {x : XrZ} {z : ZS} {i : Nat} (h : i < xnM z) : xth (puM x z) i = xth z i := if_neg (Nat.ne_of_lt h)
/-- variables known, as bits -/
def KbC (x : Int64) (l : List (Int × Int)) : Prop := ∀ v : Nat, v < 64 → (x.toBitVec.getLsbD v = true ↔ ∃ k, ((v : Int), k) ∈ l)
/-- what an exp's object holds, but its last token, its number and its next -/
def XbC (A : Nat → Nat) (σ : CsC) (x : XrZ) (o : Nat) : Prop := ((fIC σ o 60).toInt = x.1.1 ∧ (fIC σ o 61).toInt = x.1.2.1 ∧ (fIC σ o 62).toInt = x.1.2.2.1 ∧ (fIC σ o 63).toInt = x.2.2.1.1) ∧ ((fIC σ o 66).toInt = x.2.1.1 ∧ (fIC σ o 67).toInt = x.2.1.2.1 ∧ (fIC σ o 69).toInt = x.2.1.2.2) ∧ (fRC σ o 72 = opA A x.2.2.1.2.1 ∧ fRC σ o 73 = opA A x.2.2.1.2.2.1 ∧ fRC σ o 74 = opA A x.2.2.1.2.2.2.1 ∧ fRC σ o 76 = opA A x.2.2.1.2.2.2.2)
/-- TYPE, CONSTANT, value as they are read -/
def tyX (x : XrZ) : Int := if x.1.1 = 1 then (if x.1.2.1 = 83 then 2 else 0) else -1
def coX (x : XrZ) : Int := if x.1.1 = 0 ∨ x.1.1 = 1 then 1 else 0
def vaX (N : Int → Int) (x : XrZ) : Int := if x.1.1 = 0 ∨ x.1.1 = 1 then (if x.1.2.1 = 72 then 1 else if x.1.2.1 = 73 then 0 else N x.1.2.2.1) else 0
def XiC (N : Int → Int) (σ : CsC) (x : XrZ) (o : Nat) : Prop := (fIC σ o 68).toInt = tyX x ∧ (fIC σ o 70).toInt = coX x ∧ (fLC σ o 71).toInt = vaX N x
/-- an exp in the list -/
def XoC (N : Int → Int) (A : Nat → Nat) (σ : CsC) (x : XrZ) (i o : Nat) : Prop := XbC A σ x o ∧ XiC N σ x o ∧ (fIC σ o 64).toInt = x.1.2.2.2 ∧ (fIC σ o 65).toInt = (i : Int)
/-- arguments, one behind the other -/
def ChC (A : Nat → Nat) (σ : CsC) : List Int → Prop
  | [] => True
  | a :: l => fRC σ (A a.toNat) 75 = (match l with
    | [] => none
    | b :: _ => some (A b.toNat)) ∧ ChC A σ l
/-- what an S's object holds -/
def S0C (σ : CsC) (o : Nat) : Prop := fRC σ o 281 = none ∧ (fIC σ o 282 = 0 ∧ fIC σ o 283 = 0 ∧ fIC σ o 284 = 0) ∧ fLC σ o 287 = -1 ∧ fLC σ o 288 = -1
def SoC (A B : Nat → Nat) (σ : CsC) (x : SrZ) (o : Nat) : Prop := ((fIC σ o 270).toInt = x.1.1 ∧ (fIC σ o 271).toInt = x.1.2.1 ∧ (fIC σ o 272).toInt = x.1.2.2.1 ∧ fRC σ o 273 = opA B x.1.2.2.2) ∧ KbC (fLC σ o 274) x.2.1 ∧ (fRC σ o 275 = opA B x.2.2.1 ∧ fRC σ o 276 = opA B x.2.2.2.1 ∧ fRC σ o 277 = opA B x.2.2.2.2.1 ∧ fRC σ o 278 = opA B x.2.2.2.2.2.1 ∧ fRC σ o 279 = opA A x.2.2.2.2.2.2.1 ∧ (fIC σ o 280).toInt = x.2.2.2.2.2.2.2.1) ∧ S0C σ o
/-- a list -/
def LiC (σ : CsC) (a n : Nat) (A : Nat → Nat) : Prop := (fIC σ a 2).toInt = (n : Int) ∧ ∀ i, i < n → elC σ a i = some (A i) ∧ A i < cnC σ
/-- where all stands -/
def EnC (E : Nat → Nat) (σ : CsC) : Prop := (fRC σ (E 0) 240 = some (E 1) ∧ fRC σ (E 0) 241 = some (E 2)) ∧ (fRC σ (E 1) 211 = some (E 211) ∧ fRC σ (E 1) 212 = some (E 212) ∧ fRC σ (E 1) 213 = some (E 213) ∧ fRC σ (E 1) 214 = some (E 214)) ∧ (fRC σ (E 2) 302 = some (E 302) ∧ fRC σ (E 2) 303 = some (E 303) ∧ fRC σ (E 2) 304 = some (E 304)) ∧ (E 0 < cnC σ ∧ E 1 < cnC σ ∧ E 2 < cnC σ) ∧ (E 211 < cnC σ ∧ E 212 < cnC σ ∧ E 213 < cnC σ ∧ E 214 < cnC σ) ∧ (E 302 < cnC σ ∧ E 303 < cnC σ ∧ E 304 < cnC σ) ∧ E 302 ≠ E 303
/-- a variable's object -/
def VrC (σ : CsC) (x : Int × Int × Int × Int) (cl : Int) (o : Nat) : Prop := (fIC σ o 330).toInt = x.1 ∧ (fIC σ o 331).toInt = x.2.1 ∧ (fIC σ o 332).toInt = x.2.2.1 ∧ (fIC σ o 333).toInt = x.2.2.2 ∧ (fIC σ o 334).toInt = cl ∧ fIC σ o 335 = 0
/-- variable v of a list whose last one stands first -/
def vth (s : SpC) (v : Nat) : Int × Int × Int × Int := (zVs s).getD ((zVs s).length - 1 - v) (0, 0, 0, 0)
/-- operands of a record stand in the list -/
def oprX (x : XrZ) (n : Nat) : Prop := x.2.2.1.2.1 < (n : Int) ∧ x.2.2.1.2.2.1 < (n : Int) ∧ x.2.2.1.2.2.2.1 < (n : Int) ∧ x.2.2.1.2.2.2.2 < (n : Int)
def oprS (x : SrZ) (n m : Nat) : Prop := x.2.2.2.2.2.2.1 < (n : Int) ∧ x.1.2.2.2 < (m : Int) ∧ x.2.2.1 < (m : Int) ∧ x.2.2.2.1 < (m : Int) ∧ x.2.2.2.2.1 < (m : Int) ∧ x.2.2.2.2.2.1 < (m : Int)
theorem oprS.mo {x : SrZ} {m n k l : Nat} (h : oprS x m k) (hm : m ≤ n) (hk : k ≤ l) : oprS x n l := by sorry
theorem oprX.mo {x : XrZ} {m n : Nat} (h : oprX x m) (hm : m ≤ n) : oprX x n := by sorry
theorem XbC.ag {A A' : Nat → Nat} {σ : CsC} {x : XrZ} {o n : Nat} (h : XbC A σ x o) (hx : oprX x n) (e : ∀ i, i < n → A' i = A i) : XbC A' σ x o := by sorry
theorem SoC.ag {A A' B B' : Nat → Nat} {σ : CsC} {x : SrZ} {o n m : Nat} (h : SoC A B σ x o) (hx : oprS x n m) (e : ∀ i, i < n → A' i = A i) (e2 : ∀ i, i < m → B' i = B i) : SoC A' B' σ x o := by sorry
theorem ChC.ua {A A' : Nat → Nat} {σ : CsC} : ∀ {l : List Int}, (∀ a ∈ l, A' a.toNat = A a.toNat) → ChC A σ l → ChC A' σ l := by sorry
/-- a heap shows what is laid -/
def ZC (N : Int → Int) (E A B V : Nat → Nat) (σ : CsC) (z : ZS) : Prop :=
  EnC E σ ∧
  (((fIC σ (E 0) 242).toInt = zAt z.1 ∧ (fIC σ (E 0) 243).toInt = zFt z.1) ∧ KbC (fLC σ (E 0) 245) z.2.2.2.1.1 ∧ fRC σ (E 0) 246 = opA B z.2.2.2.1.2 ∧ z.2.2.2.1.2 < (snM z : Int)) ∧
  ((∀ j, (eIC σ (E 302) j).toInt = zK z.1 j) ∧ ∀ j : Nat, (eLC σ (E 304) j).toInt = N j) ∧
  (LiC σ (E 213) (xnM z) A ∧ LiC σ (E 214) (snM z) B ∧ LiC σ (E 212) (zVs z.1).length V ∧ LiC σ (E 211) (zMs z.1).length (fun k => E (1000 + k))) ∧
  ((∀ i, i < xnM z → XoC N A σ (xth z i) i (A i) ∧ oprX (xth z i) (xnM z)) ∧ ∀ i, i < xnM z → (∀ a ∈ (xth z i).2.2.2, (xth z i).2.2.1.1 ≤ a ∧ 0 ≤ a ∧ a < (i : Int)) ∧ ChC A σ (xth z i).2.2.2) ∧
  ((∀ j, j < snM z → SoC A B σ (reS z j) (B j) ∧ oprS (reS z j) (xnM z) (snM z)) ∧ ∀ i j, i < j → j < snM z → B i < B j) ∧
  (∀ v, v < (zVs z.1).length → VrC σ (vth z.1 v) (z.2.2.2.2.2.1 v) (V v)) ∧
  (∀ q ∈ z.2.2.2.1.1, 0 ≤ q.1 ∧ q.1 < ((zVs z.1).length : Int) ∧ q.2 = (vth z.1 q.1.toNat).1) ∧ List.Pairwise (fun a b => b.1 < a.1) z.2.2.2.1.1 ∧ (zVs z.1).length ≤ 60 ∧ ∀ i j, i < j → j < (zVs z.1).length → V i < V j
/-- fields of exps and of S's -/
def xsF (k : Nat) : Bool := (Nat.ble 60 k && Nat.ble k 77) || (Nat.ble 270 k && Nat.ble k 290)
theorem xsF_r {k : Nat} (h : xsF k = true) : (60 ≤ k ∧ k ≤ 77) ∨ (270 ≤ k ∧ k ≤ 290) := by sorry
/-- what reading leaves alone: objects below n -/
def FzC (n m : Nat) (E A A' B B' V V' : Nat → Nat) (z z' : ZS) (σ τ : CsC) : Prop :=
  cnC σ ≤ cnC τ ∧
  (∀ o, o < n → ∀ k, xsF k = true → fIC τ o k = fIC σ o k ∧ fLC τ o k = fLC σ o k ∧ fRC τ o k = fRC σ o k) ∧
  ((xnM z ≤ xnM z' ∧ ∀ i, i < xnM z → A' i = A i ∧ xth z' i = xth z i) ∧ ∀ i, xnM z ≤ i → i < xnM z' → n ≤ A' i ∧ (m : Int) ≤ (xth z' i).2.2.1.1) ∧
  ((snM z ≤ snM z' ∧ ∀ j, j < snM z → B' j = B j ∧ (reS z' j).1 = (reS z j).1 ∧ (reS z' j).2.1 = (reS z j).2.1) ∧ ∀ j, snM z ≤ j → j < snM z' → n ≤ B' j) ∧
  ((zVs z.1).length ≤ (zVs z'.1).length ∧ ∀ v, v < (zVs z.1).length → V' v = V v ∧ vth z'.1 v = vth z.1 v) ∧
  (zAt z.1 ≤ zAt z'.1 ∧ ∀ j : Nat, (j : Int) < zAt z.1 → eIC τ (E 303) j = eIC σ (E 303) j)
theorem FzC.rf {n m : Nat} {E A B V : Nat → Nat} {z : ZS} {σ : CsC} : FzC n m E A A B B V V z z σ σ := by sorry
theorem FzC.mo {n m n' m' : Nat} {E A A' B B' V V' : Nat → Nat} {z z' : ZS} {σ τ : CsC} (h : FzC n m E A A' B B' V V' z z' σ τ) (hn : n' ≤ n) (hm : m' ≤ m) : FzC n' m' E A A' B B' V V' z z' σ τ := by sorry
theorem FzC.tr {n m : Nat} {E A A' A'' B B' B'' V V' V'' : Nat → Nat} {x y z : ZS} {σ τ υ : CsC} (p : FzC n m E A A' B B' V V' x y σ τ) (q : FzC n m E A' A'' B' B'' V' V'' y z τ υ) : FzC n m E A A'' B B'' V V'' x z σ υ := by sorry
/-- exps' fields alone have changed, and none of a listed one -/
def XfE (σ τ : CsC) : Prop := (∀ a k, ¬ (60 ≤ k ∧ k ≤ 77) → fIC τ a k = fIC σ a k ∧ fLC τ a k = fLC σ a k ∧ fRC τ a k = fRC σ a k) ∧ (eIC τ = eIC σ ∧ eLC τ = eLC σ ∧ eRC τ = eRC σ) ∧ cnC τ = cnC σ
theorem XfE.pI {σ : CsC} {a k : Nat} {v : Int32} (h : 60 ≤ k ∧ k ≤ 77) : XfE σ (pIC σ a k v) := by sorry
theorem XfE.pL {σ : CsC} {a k : Nat} {v : Int64} (h : 60 ≤ k ∧ k ≤ 77) : XfE σ (pLC σ a k v) := by sorry
theorem XfE.pR {σ : CsC} {a k : Nat} {v : Option Nat} (h : 60 ≤ k ∧ k ≤ 77) : XfE σ (pRC σ a k v) := by sorry
theorem el_cg {σ τ : CsC} {a j : Nat} (h1 : fRC τ a 1 = fRC σ a 1) (h2 : eRC τ = eRC σ) : elC τ a j = elC σ a j := by sorry
theorem LiC.cg {σ τ : CsC} {a n : Nat} {A : Nat → Nat} (h : LiC σ a n A) (h1 : fRC τ a 1 = fRC σ a 1) (h2 : eRC τ = eRC σ) (h3 : fIC τ a 2 = fIC σ a 2) (h4 : cnC σ ≤ cnC τ) : LiC τ a n A := by sorry
theorem SoC.cg {A B : Nat → Nat} {σ τ : CsC} {x : SrZ} {o : Nat} (h : SoC A B σ x o) (f : ∀ k, 270 ≤ k ∧ k ≤ 290 → fIC τ o k = fIC σ o k ∧ fLC τ o k = fLC σ o k ∧ fRC τ o k = fRC σ o k) : SoC A B τ x o := by sorry
theorem XbC.cg {A : Nat → Nat} {σ τ : CsC} {x : XrZ} {o : Nat} (h : XbC A σ x o) (f : ∀ k, 60 ≤ k ∧ k ≤ 77 → fIC τ o k = fIC σ o k ∧ fLC τ o k = fLC σ o k ∧ fRC τ o k = fRC σ o k) : XbC A τ x o := by sorry
theorem XiC.cg {N : Int → Int} {σ τ : CsC} {x : XrZ} {o : Nat} (h : XiC N σ x o) (f : ∀ k, 60 ≤ k ∧ k ≤ 77 → fIC τ o k = fIC σ o k ∧ fLC τ o k = fLC σ o k ∧ fRC τ o k = fRC σ o k) : XiC N τ x o := by sorry
theorem XoC.cg {N : Int → Int} {A : Nat → Nat} {σ τ : CsC} {x : XrZ} {i o : Nat} (h : XoC N A σ x i o) (f : ∀ k, 60 ≤ k ∧ k ≤ 77 → fIC τ o k = fIC σ o k ∧ fLC τ o k = fLC σ o k ∧ fRC τ o k = fRC σ o k) : XoC N A τ x i o := by sorry
theorem ChC.cg {A : Nat → Nat} {σ τ : CsC} : ∀ {l : List Int}, (∀ a ∈ l, fRC τ (A a.toNat) 75 = fRC σ (A a.toNat) 75) → ChC A σ l → ChC A τ l := by sorry
theorem VrC.cg {σ τ : CsC} {x : Int × Int × Int × Int} {c : Int} {o : Nat} (h : VrC σ x c o) (f : ∀ k, 330 ≤ k ∧ k ≤ 335 → fIC τ o k = fIC σ o k) : VrC τ x c o := by sorry
theorem EnC.cg {E : Nat → Nat} {σ τ : CsC} (h : EnC E σ) (f : ∀ a k, a < cnC σ → k = 211 ∨ k = 212 ∨ k = 213 ∨ k = 214 ∨ k = 240 ∨ k = 241 ∨ k = 302 ∨ k = 303 ∨ k = 304 → fRC τ a k = fRC σ a k) (hc : cnC σ ≤ cnC τ) : EnC E τ := by sorry
/-- an exp that is not listed changes -/
theorem ZC.xf {N : Int → Int} {E A B V : Nat → Nat} {σ τ : CsC} {z : ZS} (h : ZC N E A B V σ z) (f : XfE σ τ) (hA : ∀ i, i < xnM z → ∀ k, fIC τ (A i) k = fIC σ (A i) k ∧ fLC τ (A i) k = fLC σ (A i) k ∧ fRC τ (A i) k = fRC σ (A i) k) : ZC N E A B V τ z := by sorry
/-- nothing but a new object -/
theorem ZC.nw {N : Int → Int} {E A B V : Nat → Nat} {σ τ : CsC} {z : ZS} (h : ZC N E A B V σ z) (f1 : ∀ a, a < cnC σ → ∀ k, fIC τ a k = fIC σ a k ∧ fLC τ a k = fLC σ a k ∧ fRC τ a k = fRC σ a k) (f2 : eIC τ = eIC σ ∧ eLC τ = eLC σ ∧ eRC τ = eRC σ) (hc : cnC σ ≤ cnC τ) : ZC N E A B V τ z := by sorry
/-- reading goes on: the reader's place alone -/
theorem ZC.rd {N : Int → Int} {E A B V : Nat → Nat} {σ τ : CsC} {z z' : ZS} (h : ZC N E A B V σ z) (f : ∀ a k, k ≠ 242 → k ≠ 243 → k ≠ 244 → fIC τ a k = fIC σ a k) (f2 : fLC τ = fLC σ ∧ fRC τ = fRC σ) (f3 : eIC τ = eIC σ ∧ eLC τ = eLC σ ∧ eRC τ = eRC σ) (hc : cnC τ = cnC σ) (e : z'.2 = z.2) (e1 : (fIC τ (E 0) 242).toInt = zAt z'.1) (e2 : (fIC τ (E 0) 243).toInt = zFt z'.1) (e3 : z'.1.2 = z.1.2) : ZC N E A B V τ z' := by sorry
/-- exps that stand in no list yet: where, what they hold, what is next of them -/
abbrev LoT : Type := List (Nat × XrZ × Option Nat)
def LsX (N : Int → Int) (A : Nat → Nat) (n0 : Nat) (σ : CsC) (z : ZS) (X : LoT) : Prop := (∀ q ∈ X, (n0 ≤ q.1 ∧ q.1 < cnC σ ∧ oprX q.2.1 (xnM z) ∧ ∀ i, i < xnM z → A i ≠ q.1) ∧ XbC A σ q.2.1 q.1 ∧ XiC N σ q.2.1 q.1 ∧ fRC σ q.1 75 = q.2.2) ∧ X.Pairwise (fun a b => a.1 ≠ b.1)
theorem LsX.nil {N : Int → Int} {A : Nat → Nat} {n0 : Nat} {σ : CsC} {z : ZS} : LsX N A n0 σ z [] := ⟨fun q h => absurd h List.not_mem_nil, List.Pairwise.nil⟩
/-- what was loose stays so, while others are read -/
theorem LsX.fz {N : Int → Int} {E A A' B B' V V' : Nat → Nat} {n0 : Nat} {σ τ : CsC} {z z' : ZS} {X : LoT} {m : Nat} (h : LsX N A n0 σ z X) (f : FzC (cnC σ) m E A A' B B' V V' z z' σ τ) : LsX N A' n0 τ z' X := by sorry
theorem LsX.hd {N : Int → Int} {A : Nat → Nat} {n0 : Nat} {σ : CsC} {z : ZS} {q : Nat × XrZ × Option Nat} {X : LoT} (h : LsX N A n0 σ z (q :: X)) : ((n0 ≤ q.1 ∧ q.1 < cnC σ ∧ oprX q.2.1 (xnM z) ∧ ∀ i, i < xnM z → A i ≠ q.1) ∧ XbC A σ q.2.1 q.1 ∧ XiC N σ q.2.1 q.1 ∧ fRC σ q.1 75 = q.2.2) ∧ LsX N A n0 σ z X ∧ ∀ p ∈ X, p.1 ≠ q.1 := by sorry
theorem LsX.cn {N : Int → Int} {A : Nat → Nat} {n0 : Nat} {σ : CsC} {z : ZS} {q : Nat × XrZ × Option Nat} {X : LoT} (h : LsX N A n0 σ z X) (hq : (n0 ≤ q.1 ∧ q.1 < cnC σ ∧ oprX q.2.1 (xnM z) ∧ ∀ i, i < xnM z → A i ≠ q.1) ∧ XbC A σ q.2.1 q.1 ∧ XiC N σ q.2.1 q.1 ∧ fRC σ q.1 75 = q.2.2) (hn : ∀ p ∈ X, p.1 ≠ q.1) : LsX N A n0 σ z (q :: X) := by sorry
/-- another object's fields change -/
theorem LsX.xf {N : Int → Int} {A : Nat → Nat} {n0 : Nat} {σ τ : CsC} {z : ZS} {X : LoT} (h : LsX N A n0 σ z X) (f : ∀ q ∈ X, ∀ k, fIC τ q.1 k = fIC σ q.1 k ∧ fLC τ q.1 k = fLC σ q.1 k ∧ fRC τ q.1 k = fRC σ q.1 k) (hc : cnC σ ≤ cnC τ) : LsX N A n0 τ z X := by sorry
def upA (A : Nat → Nat) (i o : Nat) : Nat → Nat := fun j => if j = i then o else A j
theorem upA_e {A : Nat → Nat} {i o : Nat} : upA A i o i = o := if_pos rfl
theorem upA_n {A : Nat → Nat} {i o j : Nat} (h : j ≠ i) : upA A i o j = A j := if_neg h
/-- an exp comes into the list -/
def PuX (E : Nat → Nat) (o : Nat) (σ τ : CsC) : Prop := cnC σ ≤ cnC τ ∧ (∀ a, a < cnC σ → ∀ k, (a ≠ o ∨ (k ≠ 64 ∧ k ≠ 65)) → 3 ≤ k ∧ k < 900 → fIC τ a k = fIC σ a k ∧ fLC τ a k = fLC σ a k ∧ fRC τ a k = fRC σ a k) ∧ (∀ a, a < cnC σ → eIC τ a = eIC σ a ∧ eLC τ a = eLC σ a)
theorem ZC.pu {N : Int → Int} {E A B V : Nat → Nat} {σ τ : CsC} {z : ZS} {x : XrZ} {o : Nat} (h : ZC N E A B V σ z) (f : PuX E o σ τ) (hl : (o < cnC σ ∧ oprX x (xnM z) ∧ ∀ i, i < xnM z → A i ≠ o) ∧ XbC A σ x o ∧ XiC N σ x o) (e4 : (fIC τ o 64).toInt = x.1.2.2.2) (e5 : (fIC τ o 65).toInt = (xnM z : Int)) (l1 : LiC τ (E 213) (xnM z + 1) (upA A (xnM z) o)) (l2 : LiC τ (E 214) (snM z) B) (l3 : LiC τ (E 212) (zVs z.1).length V) (l4 : LiC τ (E 211) (zMs z.1).length (fun k => E (1000 + k))) (ha : (∀ a ∈ x.2.2.2, x.2.2.1.1 ≤ a ∧ 0 ≤ a ∧ a < (xnM z : Int)) ∧ ChC A σ x.2.2.2) : ZC N E (upA A (xnM z) o) B V τ (puM x z) := by sorry
/-- one object alone, and lists -/
def PoX (o : Nat) (σ τ : CsC) : Prop := cnC σ ≤ cnC τ ∧ (∀ a, a < cnC σ → a ≠ o → ∀ k, 3 ≤ k ∧ k < 900 → fIC τ a k = fIC σ a k ∧ fLC τ a k = fLC σ a k ∧ fRC τ a k = fRC σ a k) ∧ (∀ a, a < cnC σ → eIC τ a = eIC σ a ∧ eLC τ a = eLC σ a)
theorem PuX.po {E : Nat → Nat} {o : Nat} {σ τ : CsC} (h : PuX E o σ τ) : PoX o σ τ := by sorry
theorem PoX.tr {o : Nat} {σ τ υ : CsC} (h : PoX o σ τ) (g : PoX o τ υ) : PoX o σ υ := by sorry
theorem PoX.pI {o k : Nat} {v : Int32} {σ : CsC} : PoX o σ (pIC σ o k v) := by sorry
theorem PoX.pL {o k : Nat} {v : Int64} {σ : CsC} : PoX o σ (pLC σ o k v) := by sorry
theorem PoX.pR {o k : Nat} {v : Option Nat} {σ : CsC} : PoX o σ (pRC σ o k v) := by sorry
theorem FzC.pu {n m : Nat} {E A B V : Nat → Nat} {z : ZS} {x : XrZ} {o : Nat} {σ τ : CsC} (f : PoX o σ τ) (hn : n ≤ o) (hc : n ≤ cnC σ) (hm : (m : Int) ≤ x.2.2.1.1) (h3 : E 303 < cnC σ) : FzC n m E A (upA A (xnM z) o) B B V V z (puM x z) σ τ := by sorry
theorem LsX.pu {N : Int → Int} {A : Nat → Nat} {n0 : Nat} {σ τ : CsC} {z : ZS} {x : XrZ} {o : Nat} {X : LoT} (h : LsX N A n0 σ z X) (f : PoX o σ τ) (hn : ∀ q ∈ X, q.1 ≠ o) : LsX N (upA A (xnM z) o) n0 τ (puM x z) X := by sorry
theorem EnC.ls {E : Nat → Nat} {σ : CsC} (h : EnC E σ) (H : HI0 σ) (t : TyC σ (E 0) 8) : (tgC σ (E 211) = 0 ∧ tgC σ (E 212) = 0 ∧ tgC σ (E 213) = 0 ∧ tgC σ (E 214) = 0) ∧ (E 211 ≠ E 212 ∧ E 211 ≠ E 213 ∧ E 211 ≠ E 214) ∧ (E 212 ≠ E 213 ∧ E 212 ≠ E 214) ∧ E 213 ≠ E 214 := by sorry
/-- the latest exp changes -/
theorem ZC.tp {N : Int → Int} {E A B V : Nat → Nat} {σ τ : CsC} {z : ZS} {x x' : XrZ} {l : List ItZ} (h : ZC N E A B V σ z) (ez : z.2.1 = .inl x :: l) (f : XfE σ τ) (hA : ∀ i, i < xcZ l → ∀ k, fIC τ (A i) k = fIC σ (A i) k ∧ fLC τ (A i) k = fLC σ (A i) k ∧ fRC τ (A i) k = fRC σ (A i) k) (hx : XoC N A τ x' (xcZ l) (A (xcZ l)) ∧ oprX x' (xcZ l + 1)) (ha : x'.2.2.2 = x.2.2.2 ∧ x'.2.2.1.1 = x.2.2.1.1) : ZC N E A B V τ (z.1, .inl x' :: l, z.2.2) := by sorry
/-! the class's reader: its leaves -/
theorem zg0 (σ : CsC) (a : Nat) : gtC σ a 0 = .inl (fIC σ a 0) := rfl
theorem zg1 (σ : CsC) (a : Nat) : gtC σ a 1 = .inr (.inr (fRC σ a 1)) := rfl
theorem zg2 (σ : CsC) (a : Nat) : gtC σ a 2 = .inl (fIC σ a 2) := rfl
theorem zg30 (σ : CsC) (a : Nat) : gtC σ a 30 = .inr (.inr (fRC σ a 30)) := rfl
theorem zg31 (σ : CsC) (a : Nat) : gtC σ a 31 = .inr (.inr (fRC σ a 31)) := rfl
theorem zg32 (σ : CsC) (a : Nat) : gtC σ a 32 = .inr (.inr (fRC σ a 32)) := rfl
theorem zg33 (σ : CsC) (a : Nat) : gtC σ a 33 = .inr (.inr (fRC σ a 33)) := rfl
theorem zg34 (σ : CsC) (a : Nat) : gtC σ a 34 = .inl (fIC σ a 34) := rfl
theorem zg35 (σ : CsC) (a : Nat) : gtC σ a 35 = .inr (.inr (fRC σ a 35)) := rfl
theorem zg36 (σ : CsC) (a : Nat) : gtC σ a 36 = .inr (.inr (fRC σ a 36)) := rfl
theorem zg60 (σ : CsC) (a : Nat) : gtC σ a 60 = .inl (fIC σ a 60) := rfl
theorem zg61 (σ : CsC) (a : Nat) : gtC σ a 61 = .inl (fIC σ a 61) := rfl
theorem zg62 (σ : CsC) (a : Nat) : gtC σ a 62 = .inl (fIC σ a 62) := rfl
theorem zg63 (σ : CsC) (a : Nat) : gtC σ a 63 = .inl (fIC σ a 63) := rfl
theorem zg64 (σ : CsC) (a : Nat) : gtC σ a 64 = .inl (fIC σ a 64) := rfl
theorem zg65 (σ : CsC) (a : Nat) : gtC σ a 65 = .inl (fIC σ a 65) := rfl
theorem zg66 (σ : CsC) (a : Nat) : gtC σ a 66 = .inl (fIC σ a 66) := rfl
theorem zg67 (σ : CsC) (a : Nat) : gtC σ a 67 = .inl (fIC σ a 67) := rfl
theorem zg68 (σ : CsC) (a : Nat) : gtC σ a 68 = .inl (fIC σ a 68) := rfl
theorem zg69 (σ : CsC) (a : Nat) : gtC σ a 69 = .inl (fIC σ a 69) := rfl
theorem zg70 (σ : CsC) (a : Nat) : gtC σ a 70 = .inl (fIC σ a 70) := rfl
theorem zg71 (σ : CsC) (a : Nat) : gtC σ a 71 = .inr (.inl (fLC σ a 71)) := rfl
theorem zg72 (σ : CsC) (a : Nat) : gtC σ a 72 = .inr (.inr (fRC σ a 72)) := rfl
theorem zg73 (σ : CsC) (a : Nat) : gtC σ a 73 = .inr (.inr (fRC σ a 73)) := rfl
theorem zg74 (σ : CsC) (a : Nat) : gtC σ a 74 = .inr (.inr (fRC σ a 74)) := rfl
theorem zg75 (σ : CsC) (a : Nat) : gtC σ a 75 = .inr (.inr (fRC σ a 75)) := rfl
theorem zg76 (σ : CsC) (a : Nat) : gtC σ a 76 = .inr (.inr (fRC σ a 76)) := rfl
theorem zg77 (σ : CsC) (a : Nat) : gtC σ a 77 = .inl (fIC σ a 77) := rfl
theorem zg90 (σ : CsC) (a : Nat) : gtC σ a 90 = .inr (.inr (fRC σ a 90)) := rfl
theorem zg91 (σ : CsC) (a : Nat) : gtC σ a 91 = .inr (.inl (fLC σ a 91)) := rfl
theorem zg92 (σ : CsC) (a : Nat) : gtC σ a 92 = .inr (.inl (fLC σ a 92)) := rfl
theorem zg93 (σ : CsC) (a : Nat) : gtC σ a 93 = .inr (.inr (fRC σ a 93)) := rfl
theorem zg94 (σ : CsC) (a : Nat) : gtC σ a 94 = .inl (fIC σ a 94) := rfl
theorem zg120 (σ : CsC) (a : Nat) : gtC σ a 120 = .inr (.inr (fRC σ a 120)) := rfl
theorem zg121 (σ : CsC) (a : Nat) : gtC σ a 121 = .inr (.inr (fRC σ a 121)) := rfl
theorem zg150 (σ : CsC) (a : Nat) : gtC σ a 150 = .inr (.inr (fRC σ a 150)) := rfl
theorem zg151 (σ : CsC) (a : Nat) : gtC σ a 151 = .inr (.inr (fRC σ a 151)) := rfl
theorem zg152 (σ : CsC) (a : Nat) : gtC σ a 152 = .inr (.inr (fRC σ a 152)) := rfl
theorem zg153 (σ : CsC) (a : Nat) : gtC σ a 153 = .inr (.inr (fRC σ a 153)) := rfl
theorem zg154 (σ : CsC) (a : Nat) : gtC σ a 154 = .inr (.inr (fRC σ a 154)) := rfl
theorem zg155 (σ : CsC) (a : Nat) : gtC σ a 155 = .inr (.inr (fRC σ a 155)) := rfl
theorem zg156 (σ : CsC) (a : Nat) : gtC σ a 156 = .inr (.inr (fRC σ a 156)) := rfl
theorem zg157 (σ : CsC) (a : Nat) : gtC σ a 157 = .inr (.inr (fRC σ a 157)) := rfl
theorem zg158 (σ : CsC) (a : Nat) : gtC σ a 158 = .inr (.inr (fRC σ a 158)) := rfl
theorem zg159 (σ : CsC) (a : Nat) : gtC σ a 159 = .inr (.inr (fRC σ a 159)) := rfl
theorem zg160 (σ : CsC) (a : Nat) : gtC σ a 160 = .inl (fIC σ a 160) := rfl
theorem zg161 (σ : CsC) (a : Nat) : gtC σ a 161 = .inl (fIC σ a 161) := rfl
theorem zg162 (σ : CsC) (a : Nat) : gtC σ a 162 = .inl (fIC σ a 162) := rfl
theorem zg163 (σ : CsC) (a : Nat) : gtC σ a 163 = .inl (fIC σ a 163) := rfl
theorem zg164 (σ : CsC) (a : Nat) : gtC σ a 164 = .inl (fIC σ a 164) := rfl
theorem zg165 (σ : CsC) (a : Nat) : gtC σ a 165 = .inl (fIC σ a 165) := rfl
theorem zg166 (σ : CsC) (a : Nat) : gtC σ a 166 = .inl (fIC σ a 166) := rfl
theorem zg167 (σ : CsC) (a : Nat) : gtC σ a 167 = .inl (fIC σ a 167) := rfl
theorem zg168 (σ : CsC) (a : Nat) : gtC σ a 168 = .inl (fIC σ a 168) := rfl
theorem zg169 (σ : CsC) (a : Nat) : gtC σ a 169 = .inl (fIC σ a 169) := rfl
theorem zg170 (σ : CsC) (a : Nat) : gtC σ a 170 = .inr (.inl (fLC σ a 170)) := rfl
theorem zg180 (σ : CsC) (a : Nat) : gtC σ a 180 = .inl (fIC σ a 180) := rfl
theorem zg181 (σ : CsC) (a : Nat) : gtC σ a 181 = .inr (.inl (fLC σ a 181)) := rfl
theorem zg182 (σ : CsC) (a : Nat) : gtC σ a 182 = .inl (fIC σ a 182) := rfl
theorem zg183 (σ : CsC) (a : Nat) : gtC σ a 183 = .inr (.inr (fRC σ a 183)) := rfl
theorem zg184 (σ : CsC) (a : Nat) : gtC σ a 184 = .inl (fIC σ a 184) := rfl
theorem zg185 (σ : CsC) (a : Nat) : gtC σ a 185 = .inl (fIC σ a 185) := rfl
theorem zg186 (σ : CsC) (a : Nat) : gtC σ a 186 = .inr (.inr (fRC σ a 186)) := rfl
theorem zg210 (σ : CsC) (a : Nat) : gtC σ a 210 = .inr (.inr (fRC σ a 210)) := rfl
theorem zg211 (σ : CsC) (a : Nat) : gtC σ a 211 = .inr (.inr (fRC σ a 211)) := rfl
theorem zg212 (σ : CsC) (a : Nat) : gtC σ a 212 = .inr (.inr (fRC σ a 212)) := rfl
theorem zg213 (σ : CsC) (a : Nat) : gtC σ a 213 = .inr (.inr (fRC σ a 213)) := rfl
theorem zg214 (σ : CsC) (a : Nat) : gtC σ a 214 = .inr (.inr (fRC σ a 214)) := rfl
theorem zg215 (σ : CsC) (a : Nat) : gtC σ a 215 = .inr (.inr (fRC σ a 215)) := rfl
theorem zg216 (σ : CsC) (a : Nat) : gtC σ a 216 = .inr (.inr (fRC σ a 216)) := rfl
theorem zg217 (σ : CsC) (a : Nat) : gtC σ a 217 = .inl (fIC σ a 217) := rfl
theorem zg218 (σ : CsC) (a : Nat) : gtC σ a 218 = .inl (fIC σ a 218) := rfl
theorem zg240 (σ : CsC) (a : Nat) : gtC σ a 240 = .inr (.inr (fRC σ a 240)) := rfl
theorem zg241 (σ : CsC) (a : Nat) : gtC σ a 241 = .inr (.inr (fRC σ a 241)) := rfl
theorem zg242 (σ : CsC) (a : Nat) : gtC σ a 242 = .inl (fIC σ a 242) := rfl
theorem zg243 (σ : CsC) (a : Nat) : gtC σ a 243 = .inl (fIC σ a 243) := rfl
theorem zg244 (σ : CsC) (a : Nat) : gtC σ a 244 = .inl (fIC σ a 244) := rfl
theorem zg245 (σ : CsC) (a : Nat) : gtC σ a 245 = .inr (.inl (fLC σ a 245)) := rfl
theorem zg246 (σ : CsC) (a : Nat) : gtC σ a 246 = .inr (.inr (fRC σ a 246)) := rfl
theorem zg270 (σ : CsC) (a : Nat) : gtC σ a 270 = .inl (fIC σ a 270) := rfl
theorem zg271 (σ : CsC) (a : Nat) : gtC σ a 271 = .inl (fIC σ a 271) := rfl
theorem zg272 (σ : CsC) (a : Nat) : gtC σ a 272 = .inl (fIC σ a 272) := rfl
theorem zg273 (σ : CsC) (a : Nat) : gtC σ a 273 = .inr (.inr (fRC σ a 273)) := rfl
theorem zg274 (σ : CsC) (a : Nat) : gtC σ a 274 = .inr (.inl (fLC σ a 274)) := rfl
theorem zg275 (σ : CsC) (a : Nat) : gtC σ a 275 = .inr (.inr (fRC σ a 275)) := rfl
theorem zg276 (σ : CsC) (a : Nat) : gtC σ a 276 = .inr (.inr (fRC σ a 276)) := rfl
theorem zg277 (σ : CsC) (a : Nat) : gtC σ a 277 = .inr (.inr (fRC σ a 277)) := rfl
theorem zg278 (σ : CsC) (a : Nat) : gtC σ a 278 = .inr (.inr (fRC σ a 278)) := rfl
theorem zg279 (σ : CsC) (a : Nat) : gtC σ a 279 = .inr (.inr (fRC σ a 279)) := rfl
theorem zg280 (σ : CsC) (a : Nat) : gtC σ a 280 = .inl (fIC σ a 280) := rfl
theorem zg281 (σ : CsC) (a : Nat) : gtC σ a 281 = .inr (.inr (fRC σ a 281)) := rfl
theorem zg282 (σ : CsC) (a : Nat) : gtC σ a 282 = .inl (fIC σ a 282) := rfl
theorem zg283 (σ : CsC) (a : Nat) : gtC σ a 283 = .inl (fIC σ a 283) := rfl
theorem zg284 (σ : CsC) (a : Nat) : gtC σ a 284 = .inl (fIC σ a 284) := rfl
theorem zg285 (σ : CsC) (a : Nat) : gtC σ a 285 = .inr (.inl (fLC σ a 285)) := rfl
theorem zg286 (σ : CsC) (a : Nat) : gtC σ a 286 = .inr (.inl (fLC σ a 286)) := rfl
theorem zg287 (σ : CsC) (a : Nat) : gtC σ a 287 = .inr (.inl (fLC σ a 287)) := rfl
theorem zg288 (σ : CsC) (a : Nat) : gtC σ a 288 = .inr (.inl (fLC σ a 288)) := rfl
theorem zg289 (σ : CsC) (a : Nat) : gtC σ a 289 = .inl (fIC σ a 289) := rfl
theorem zg290 (σ : CsC) (a : Nat) : gtC σ a 290 = .inl (fIC σ a 290) := rfl
theorem zg300 (σ : CsC) (a : Nat) : gtC σ a 300 = .inr (.inr (fRC σ a 300)) := rfl
theorem zg301 (σ : CsC) (a : Nat) : gtC σ a 301 = .inr (.inr (fRC σ a 301)) := rfl
theorem zg302 (σ : CsC) (a : Nat) : gtC σ a 302 = .inr (.inr (fRC σ a 302)) := rfl
theorem zg303 (σ : CsC) (a : Nat) : gtC σ a 303 = .inr (.inr (fRC σ a 303)) := rfl
theorem zg304 (σ : CsC) (a : Nat) : gtC σ a 304 = .inr (.inr (fRC σ a 304)) := rfl
theorem zg305 (σ : CsC) (a : Nat) : gtC σ a 305 = .inl (fIC σ a 305) := rfl
theorem zg306 (σ : CsC) (a : Nat) : gtC σ a 306 = .inr (.inr (fRC σ a 306)) := rfl
theorem zg307 (σ : CsC) (a : Nat) : gtC σ a 307 = .inr (.inr (fRC σ a 307)) := rfl
theorem zg308 (σ : CsC) (a : Nat) : gtC σ a 308 = .inl (fIC σ a 308) := rfl
theorem zg330 (σ : CsC) (a : Nat) : gtC σ a 330 = .inl (fIC σ a 330) := rfl
theorem zg331 (σ : CsC) (a : Nat) : gtC σ a 331 = .inl (fIC σ a 331) := rfl
theorem zg332 (σ : CsC) (a : Nat) : gtC σ a 332 = .inl (fIC σ a 332) := rfl
theorem zg333 (σ : CsC) (a : Nat) : gtC σ a 333 = .inl (fIC σ a 333) := rfl
theorem zg334 (σ : CsC) (a : Nat) : gtC σ a 334 = .inl (fIC σ a 334) := rfl
theorem zg335 (σ : CsC) (a : Nat) : gtC σ a 335 = .inl (fIC σ a 335) := rfl
theorem zg336 (σ : CsC) (a : Nat) : gtC σ a 336 = .inr (.inl (fLC σ a 336)) := rfl
theorem zg360 (σ : CsC) (a : Nat) : gtC σ a 360 = .inr (.inr (fRC σ a 360)) := rfl
theorem zg361 (σ : CsC) (a : Nat) : gtC σ a 361 = .inr (.inr (fRC σ a 361)) := rfl
theorem zg362 (σ : CsC) (a : Nat) : gtC σ a 362 = .inr (.inr (fRC σ a 362)) := rfl
theorem zg363 (σ : CsC) (a : Nat) : gtC σ a 363 = .inr (.inr (fRC σ a 363)) := rfl
theorem zg364 (σ : CsC) (a : Nat) : gtC σ a 364 = .inr (.inr (fRC σ a 364)) := rfl
theorem zg365 (σ : CsC) (a : Nat) : gtC σ a 365 = .inr (.inr (fRC σ a 365)) := rfl
theorem zg366 (σ : CsC) (a : Nat) : gtC σ a 366 = .inr (.inr (fRC σ a 366)) := rfl
theorem zg367 (σ : CsC) (a : Nat) : gtC σ a 367 = .inr (.inr (fRC σ a 367)) := rfl
theorem zg368 (σ : CsC) (a : Nat) : gtC σ a 368 = .inr (.inr (fRC σ a 368)) := rfl
theorem zg369 (σ : CsC) (a : Nat) : gtC σ a 369 = .inl (fIC σ a 369) := rfl
theorem zg370 (σ : CsC) (a : Nat) : gtC σ a 370 = .inl (fIC σ a 370) := rfl
theorem zg371 (σ : CsC) (a : Nat) : gtC σ a 371 = .inl (fIC σ a 371) := rfl
theorem zg372 (σ : CsC) (a : Nat) : gtC σ a 372 = .inl (fIC σ a 372) := rfl

theorem FzC.rd {n m : Nat} {E A B V : Nat → Nat} {z z' : ZS} {σ τ : CsC} (hc : cnC τ = cnC σ) (hf : ∀ o, o < cnC σ → ∀ k, xsF k = true → fIC τ o k = fIC σ o k ∧ fLC τ o k = fLC σ o k ∧ fRC τ o k = fRC σ o k) (hn : n ≤ cnC σ) (he : eIC τ = eIC σ) (e : z'.2 = z.2) (e3 : z'.1.2 = z.1.2) (ha : zAt z.1 ≤ zAt z'.1) : FzC n m E A A B B V V z z' σ τ := by sorry
theorem ZC.we {N : Int → Int} {E A B V : Nat → Nat} {σ τ : CsC} {z : ZS} (h : ZC N E A B V σ z) (w : WeC σ τ) : ZC N E A B V τ z := by sorry
theorem FzC.we {n m : Nat} {E A A' B B' V V' : Nat → Nat} {z z' : ZS} {σ τ υ : CsC} (h : FzC n m E A A' B B' V V' z z' σ τ) (w : WeC τ υ) : FzC n m E A A' B B' V V' z z' σ υ := by sorry
theorem acc_n {s : SpC} (h : zFt (accY s) = 0) : zAt s < 500 ∧ zFt s = 0 ∧ accY s = ((zAt s + 1, zFt s, zPl s), s.2) := by sorry
theorem xp_nz {c : Int} {s : SpC} (h : zFt (xpY c s) = 0) : codY s = c ∧ xpY c s = accY s := by sorry
theorem typ_nz {s : SpC} (h : zFt (typY s) = 0) : (50 ≤ codY s ∧ codY s ≤ 54) ∧ typY s = accY s := by sorry
theorem ZC.at0 {N : Int → Int} {E A B V : Nat → Nat} {σ : CsC} {z : ZS} (h : ZC N E A B V σ z) (H : HI0 σ ∧ TyC σ (E 0) 8) : 0 ≤ zAt z.1 ∧ zAt z.1 ≤ 500 := by sorry
abbrev Pz_code : ((Int → Int) × (Nat → Nat) × (Nat → Nat) × (Nat → Nat) × (Nat → Nat) × ZS) → CpC := fun y As σ => match y with
  | (N, E, A, B, V, z) => As = [.inr (.inr (some (E 0)))] ∧ (ZC N E A B V σ z)
abbrev Qz_code : ((Int → Int) × (Nat → Nat) × (Nat → Nat) × (Nat → Nat) × (Nat → Nat) × ZS) → CqC := fun y As σ w τ => match y, As with
  | (N, E, A, B, V, z), [_] => ∃ c, w = some (.inl c) ∧ c.toInt = codY z.1 ∧ σ = τ
  | _, _ => True
abbrev Uz_code : CqC := fun As σ w τ => ∀ y, Pz_code y As σ → Qz_code y As σ w τ
set_option maxHeartbeats 4000000 in
theorem pz_code (y : (Int → Int) × (Nat → Nat) × (Nat → Nat) × (Nat → Nat) × (Nat → Nat) × ZS) : PbC KX7_code [] [] (fun As σ => Pz_code y As σ ∧ cnC σ ≤ 1000000 ∧ ∃ w τ, uqC quL 125 As σ w τ) (Qz_code y) := by sorry
theorem wz_code : ∀ (L : Nat) (As : List AvC) (σ : CsC) (w : Option AvC) (τ : CsC), EvF L 125 As σ w τ → Uz_code As σ w τ := by sorry
abbrev Pz_codeBehind : ((Int → Int) × (Nat → Nat) × (Nat → Nat) × (Nat → Nat) × (Nat → Nat) × ZS) → CpC := fun y As σ => match y with
  | (N, E, A, B, V, z) => As = [.inr (.inr (some (E 0)))] ∧ (ZC N E A B V σ z)
abbrev Qz_codeBehind : ((Int → Int) × (Nat → Nat) × (Nat → Nat) × (Nat → Nat) × (Nat → Nat) × ZS) → CqC := fun y As σ w τ => match y, As with
  | (N, E, A, B, V, z), [_] => ∃ c, w = some (.inl c) ∧ c.toInt = cobY z.1 ∧ σ = τ
  | _, _ => True
abbrev Uz_codeBehind : CqC := fun As σ w τ => ∀ y, Pz_codeBehind y As σ → Qz_codeBehind y As σ w τ
set_option maxHeartbeats 4000000 in
theorem pz_codeBehind (y : (Int → Int) × (Nat → Nat) × (Nat → Nat) × (Nat → Nat) × (Nat → Nat) × ZS) : PbC KX7_codeBehind [] [] (fun As σ => Pz_codeBehind y As σ ∧ cnC σ ≤ 1000000 ∧ ∃ w τ, uqC quL 126 As σ w τ) (Qz_codeBehind y) := by sorry
theorem wz_codeBehind : ∀ (L : Nat) (As : List AvC) (σ : CsC) (w : Option AvC) (τ : CsC), EvF L 126 As σ w τ → Uz_codeBehind As σ w τ := by sorry
abbrev Pz_accept : ((Int → Int) × (Nat → Nat) × (Nat → Nat) × (Nat → Nat) × (Nat → Nat) × ZS) → CpC := fun y As σ => match y with
  | (N, E, A, B, V, z) => As = [.inr (.inr (some (E 0)))] ∧ (ZC N E A B V σ z) ∧ (zFt (accM z).1 = 0)
abbrev Qz_accept : ((Int → Int) × (Nat → Nat) × (Nat → Nat) × (Nat → Nat) × (Nat → Nat) × ZS) → CqC := fun y As σ w τ => match y, As with
  | (N, E, A, B, V, z), [_] => w = none ∧ ZC N E A B V τ (accM z) ∧ FzC (cnC σ) (xnM z) E A A B B V V z (accM z) σ τ
  | _, _ => True
abbrev Uz_accept : CqC := fun As σ w τ => ∀ y, Pz_accept y As σ → Qz_accept y As σ w τ
set_option maxHeartbeats 4000000 in
theorem pz_accept (y : (Int → Int) × (Nat → Nat) × (Nat → Nat) × (Nat → Nat) × (Nat → Nat) × ZS) : PbC KX7_accept [(127, TrP, EqC 127)] [] (fun As σ => Pz_accept y As σ ∧ cnC σ ≤ 1000000 ∧ ∃ w τ, uqC quL 128 As σ w τ) (Qz_accept y) := by sorry
theorem wz_accept : ∀ (L : Nat) (As : List AvC) (σ : CsC) (w : Option AvC) (τ : CsC), EvF L 128 As σ w τ → Uz_accept As σ w τ := by sorry
abbrev Pz_expect : ((Int → Int) × (Nat → Nat) × (Nat → Nat) × (Nat → Nat) × (Nat → Nat) × ZS × Int) → CpC := fun y As σ => match y with
  | (N, E, A, B, V, z, c) => ∃ (p1 : Int32), As = [.inr (.inr (some (E 0))), .inl p1] ∧ (ZC N E A B V σ z) ∧ (p1.toInt = c) ∧ (zFt (xpM c z).1 = 0)
abbrev Qz_expect : ((Int → Int) × (Nat → Nat) × (Nat → Nat) × (Nat → Nat) × (Nat → Nat) × ZS × Int) → CqC := fun y As σ w τ => match y, As with
  | (N, E, A, B, V, z, c), [_, .inl p1] => w = none ∧ ZC N E A B V τ (xpM c z) ∧ FzC (cnC σ) (xnM z) E A A B B V V z (xpM c z) σ τ
  | _, _ => True
abbrev Uz_expect : CqC := fun As σ w τ => ∀ y, Pz_expect y As σ → Qz_expect y As σ w τ
set_option maxHeartbeats 4000000 in
theorem pz_expect (y : (Int → Int) × (Nat → Nat) × (Nat → Nat) × (Nat → Nat) × (Nat → Nat) × ZS × Int) : PbC KX7_expect [(125, TrP, EqC 125), (127, TrP, EqC 127), (128, TrP, EqC 128)] [(125, Uz_code), (128, Uz_accept)] (fun As σ => Pz_expect y As σ ∧ cnC σ ≤ 1000000 ∧ ∃ w τ, uqC quL 129 As σ w τ) (Qz_expect y) := by sorry
theorem wz_expect : ∀ (L : Nat) (As : List AvC) (σ : CsC) (w : Option AvC) (τ : CsC), EvF L 129 As σ w τ → Uz_expect As σ w τ := by sorry
abbrev Pz_takes : ((Int → Int) × (Nat → Nat) × (Nat → Nat) × (Nat → Nat) × (Nat → Nat) × ZS × Int) → CpC := fun y As σ => match y with
  | (N, E, A, B, V, z, c) => ∃ (p1 : Int32), As = [.inr (.inr (some (E 0))), .inl p1] ∧ (ZC N E A B V σ z) ∧ (p1.toInt = c) ∧ (codY z.1 = c → zFt (accM z).1 = 0)
abbrev Qz_takes : ((Int → Int) × (Nat → Nat) × (Nat → Nat) × (Nat → Nat) × (Nat → Nat) × ZS × Int) → CqC := fun y As σ w τ => match y, As with
  | (N, E, A, B, V, z, c), [_, .inl p1] => (∃ r, w = some (.inl r) ∧ r.toInt = 1 ∧ codY z.1 = c ∧ ZC N E A B V τ (accM z) ∧ FzC (cnC σ) (xnM z) E A A B B V V z (accM z) σ τ) ∨ (∃ r, w = some (.inl r) ∧ r.toInt = 0 ∧ ¬ codY z.1 = c ∧ σ = τ)
  | _, _ => True
abbrev Uz_takes : CqC := fun As σ w τ => ∀ y, Pz_takes y As σ → Qz_takes y As σ w τ
set_option maxHeartbeats 4000000 in
theorem pz_takes (y : (Int → Int) × (Nat → Nat) × (Nat → Nat) × (Nat → Nat) × (Nat → Nat) × ZS × Int) : PbC KX7_takes [(125, TrP, EqC 125), (128, TrP, EqC 128)] [(125, Uz_code), (128, Uz_accept)] (fun As σ => Pz_takes y As σ ∧ cnC σ ≤ 1000000 ∧ ∃ w τ, uqC quL 130 As σ w τ) (Qz_takes y) := by sorry
theorem wz_takes : ∀ (L : Nat) (As : List AvC) (σ : CsC) (w : Option AvC) (τ : CsC), EvF L 130 As σ w τ → Uz_takes As σ w τ := by sorry
abbrev Pz_isTooDeep : ((Int → Int) × (Nat → Nat) × (Nat → Nat) × (Nat → Nat) × (Nat → Nat) × ZS) → CpC := fun y As σ => match y with
  | (N, E, A, B, V, z) => ∃ (p1 : Int32), As = [.inr (.inr (some (E 0))), .inl p1] ∧ (ZC N E A B V σ z) ∧ (p1.toInt ≤ 20)
abbrev Qz_isTooDeep : ((Int → Int) × (Nat → Nat) × (Nat → Nat) × (Nat → Nat) × (Nat → Nat) × ZS) → CqC := fun y As σ w τ => match y, As with
  | (N, E, A, B, V, z), [_, .inl p1] => ∃ r, w = some (.inl r) ∧ r.toInt = 0 ∧ σ = τ
  | _, _ => True
abbrev Uz_isTooDeep : CqC := fun As σ w τ => ∀ y, Pz_isTooDeep y As σ → Qz_isTooDeep y As σ w τ
set_option maxHeartbeats 4000000 in
theorem pz_isTooDeep (y : (Int → Int) × (Nat → Nat) × (Nat → Nat) × (Nat → Nat) × (Nat → Nat) × ZS) : PbC KX7_isTooDeep [(127, TrP, EqC 127)] [] (fun As σ => Pz_isTooDeep y As σ ∧ cnC σ ≤ 1000000 ∧ ∃ w τ, uqC quL 131 As σ w τ) (Qz_isTooDeep y) := by sorry
theorem wz_isTooDeep : ∀ (L : Nat) (As : List AvC) (σ : CsC) (w : Option AvC) (τ : CsC), EvF L 131 As σ w τ → Uz_isTooDeep As σ w τ := by sorry
abbrev Pz_isType : ((Int → Int) × (Nat → Nat) × (Nat → Nat) × (Nat → Nat) × (Nat → Nat) × ZS) → CpC := fun y As σ => match y with
  | (N, E, A, B, V, z) => ∃ (p0 : Int32), As = [.inl p0]
abbrev Qz_isType : ((Int → Int) × (Nat → Nat) × (Nat → Nat) × (Nat → Nat) × (Nat → Nat) × ZS) → CqC := fun y As σ w τ => match y, As with
  | (N, E, A, B, V, z), [.inl p0] => (∃ r, w = some (.inl r) ∧ r.toInt = 1 ∧ (50 ≤ p0.toInt ∧ p0.toInt ≤ 54) ∧ σ = τ) ∨ (∃ r, w = some (.inl r) ∧ r.toInt = 0 ∧ ¬ (50 ≤ p0.toInt ∧ p0.toInt ≤ 54) ∧ σ = τ)
  | _, _ => True
abbrev Uz_isType : CqC := fun As σ w τ => ∀ y, Pz_isType y As σ → Qz_isType y As σ w τ
set_option maxHeartbeats 4000000 in
theorem pz_isType (y : (Int → Int) × (Nat → Nat) × (Nat → Nat) × (Nat → Nat) × (Nat → Nat) × ZS) : PbC KX7_isType [] [] (fun As σ => Pz_isType y As σ ∧ cnC σ ≤ 1000000 ∧ ∃ w τ, uqC quL 132 As σ w τ) (Qz_isType y) := by sorry
theorem wz_isType : ∀ (L : Nat) (As : List AvC) (σ : CsC) (w : Option AvC) (τ : CsC), EvF L 132 As σ w τ → Uz_isType As σ w τ := by sorry
abbrev Pz_isAssign : ((Int → Int) × (Nat → Nat) × (Nat → Nat) × (Nat → Nat) × (Nat → Nat) × ZS) → CpC := fun y As σ => match y with
  | (N, E, A, B, V, z) => ∃ (p0 : Int32), As = [.inl p0]
abbrev Qz_isAssign : ((Int → Int) × (Nat → Nat) × (Nat → Nat) × (Nat → Nat) × (Nat → Nat) × ZS) → CqC := fun y As σ w τ => match y, As with
  | (N, E, A, B, V, z), [.inl p0] => (∃ r, w = some (.inl r) ∧ r.toInt = 1 ∧ (8 ≤ p0.toInt ∧ p0.toInt ≤ 19) ∧ σ = τ) ∨ (∃ r, w = some (.inl r) ∧ r.toInt = 0 ∧ ¬ (8 ≤ p0.toInt ∧ p0.toInt ≤ 19) ∧ σ = τ)
  | _, _ => True
abbrev Uz_isAssign : CqC := fun As σ w τ => ∀ y, Pz_isAssign y As σ → Qz_isAssign y As σ w τ
set_option maxHeartbeats 4000000 in
theorem pz_isAssign (y : (Int → Int) × (Nat → Nat) × (Nat → Nat) × (Nat → Nat) × (Nat → Nat) × ZS) : PbC KX7_isAssign [] [] (fun As σ => Pz_isAssign y As σ ∧ cnC σ ≤ 1000000 ∧ ∃ w τ, uqC quL 133 As σ w τ) (Qz_isAssign y) := by sorry
theorem wz_isAssign : ∀ (L : Nat) (As : List AvC) (σ : CsC) (w : Option AvC) (τ : CsC), EvF L 133 As σ w τ → Uz_isAssign As σ w τ := by sorry
abbrev Pz_readType : ((Int → Int) × (Nat → Nat) × (Nat → Nat) × (Nat → Nat) × (Nat → Nat) × ZS) → CpC := fun y As σ => match y with
  | (N, E, A, B, V, z) => As = [.inr (.inr (some (E 0)))] ∧ (ZC N E A B V σ z) ∧ (zFt (typM z).1 = 0)
abbrev Qz_readType : ((Int → Int) × (Nat → Nat) × (Nat → Nat) × (Nat → Nat) × (Nat → Nat) × ZS) → CqC := fun y As σ w τ => match y, As with
  | (N, E, A, B, V, z), [_] => ∃ r, w = some (.inl r) ∧ r.toInt = codY z.1 - 50 ∧ (50 ≤ codY z.1 ∧ codY z.1 ≤ 54) ∧ ZC N E A B V τ (typM z) ∧ FzC (cnC σ) (xnM z) E A A B B V V z (typM z) σ τ
  | _, _ => True
abbrev Uz_readType : CqC := fun As σ w τ => ∀ y, Pz_readType y As σ → Qz_readType y As σ w τ
set_option maxHeartbeats 4000000 in
theorem pz_readType (y : (Int → Int) × (Nat → Nat) × (Nat → Nat) × (Nat → Nat) × (Nat → Nat) × ZS) : PbC KX7_readType [(125, TrP, EqC 125), (132, TrP, EqC 132), (127, TrP, EqC 127), (128, TrP, EqC 128)] [(125, Uz_code), (132, Uz_isType), (128, Uz_accept)] (fun As σ => Pz_readType y As σ ∧ cnC σ ≤ 1000000 ∧ ∃ w τ, uqC quL 136 As σ w τ) (Qz_readType y) := by sorry
theorem wz_readType : ∀ (L : Nat) (As : List AvC) (σ : CsC) (w : Option AvC) (τ : CsC), EvF L 136 As σ w τ → Uz_readType As σ w τ := by sorry
/-! the class's reader: exps made and put -/
/-- an exp is new -/
def InX (p0 : Nat) (k sg f st : Int32) (σ τ : CsC) : Prop := (∀ a j, a ≠ p0 → fIC τ a j = fIC σ a j) ∧ (fLC τ = fLC σ ∧ fRC τ = fRC σ) ∧ (eIC τ = eIC σ ∧ eLC τ = eLC σ ∧ eRC τ = eRC σ) ∧ cnC τ = cnC σ ∧ (fIC τ p0 60 = k ∧ fIC τ p0 61 = sg ∧ fIC τ p0 62 = f ∧ fIC τ p0 63 = st ∧ fIC τ p0 66 = f ∧ (fIC τ p0 67).toInt = -1 ∧ (fIC τ p0 68).toInt = -1) ∧ ∀ j, ¬ (60 ≤ j ∧ j ≤ 63) → ¬ (66 ≤ j ∧ j ≤ 68) → fIC τ p0 j = fIC σ p0 j
/-- an exp as it is made -/
def ofX (k sg f st : Int) : XrZ := recZ k sg f 0 f (-1) 0 st (-1) (-1) (-1) (-1) []
def opX (k sg : Int) (z : ZS) : XrZ := ofX k sg (zAt z.1) (xnM z)
/-- a new exp, in no list -/
def NwX (A : Nat → Nat) (x : XrZ) (σ τ : CsC) (o : Nat) : Prop := (o = cnC σ ∧ cnC τ = cnC σ + 1) ∧ XbC A τ x o ∧ ((fIC τ o 68).toInt = -1 ∧ (fIC τ o 70).toInt = 0 ∧ (fLC τ o 71).toInt = 0) ∧ fRC τ o 75 = none
theorem nO_v {σ : CsC} {t M g k : Nat} : fIC (nOC σ t M g) (cnC σ) k = 0 ∧ fLC (nOC σ t M g) (cnC σ) k = 0 ∧ fRC (nOC σ t M g) (cnC σ) k = none := by sorry
theorem nO_a {σ : CsC} {t M g a k : Nat} (h : a ≠ cnC σ) : fIC (nOC σ t M g) a k = fIC σ a k ∧ fLC (nOC σ t M g) a k = fLC σ a k ∧ fRC (nOC σ t M g) a k = fRC σ a k := by sorry
/-- new, and its constructor behind it -/
theorem NwX.mk {A : Nat → Nat} {kk ss ff tt : Int} {σ s τ : CsC} {t M g : Nat} {k sg f st : Int32} (hs : nOC σ t M g = s) (h : InX (cnC σ) k sg f st s τ) (ek : k.toInt = kk) (eg : sg.toInt = ss) (ef : f.toInt = ff) (es : st.toInt = tt) : NwX A (ofX kk ss ff tt) σ τ (cnC σ) ∧ (∀ a, a < cnC σ → ∀ j, fIC τ a j = fIC σ a j ∧ fLC τ a j = fLC σ a j ∧ fRC τ a j = fRC σ a j) ∧ (eIC τ = eIC σ ∧ eLC τ = eLC σ ∧ eRC τ = eRC σ) := by sorry
theorem FzC.nw {n m : Nat} {E A B V : Nat → Nat} {z : ZS} {σ τ : CsC} (f1 : ∀ a, a < cnC σ → ∀ k, fIC τ a k = fIC σ a k ∧ fLC τ a k = fLC σ a k ∧ fRC τ a k = fRC σ a k) (f2 : eIC τ = eIC σ) (hc : cnC σ ≤ cnC τ) (hn : n ≤ cnC σ) : FzC n m E A A B B V V z z σ τ := by sorry
/-- a new one among those that are loose -/
theorem LsX.nw {N : Int → Int} {A : Nat → Nat} {n0 : Nat} {σ τ : CsC} {z : ZS} {x : XrZ} {o : Nat} {X : LoT} (h : LsX N A n0 τ z X) (hX : ∀ q ∈ X, q.1 < cnC σ) (f : NwX A x σ τ o) (hn : n0 ≤ cnC σ) (hx : oprX x (xnM z)) (hk : ¬ (x.1.1 = 0 ∨ x.1.1 = 1)) (hA : ∀ i, i < xnM z → A i < cnC σ) : LsX N A n0 τ z ((o, x, none) :: X) := by sorry
abbrev Pz_Exp : ((Int → Int) × (Nat → Nat) × (Nat → Nat) × (Nat → Nat) × (Nat → Nat) × ZS) → CpC := fun y As σ => match y with
  | (N, E, A, B, V, z) => ∃ (p0 : Nat) (p1 : Int32) (p2 : Int32) (p3 : Int32) (p4 : Int32), As = [.inr (.inr (some p0)), .inl p1, .inl p2, .inl p3, .inl p4]
abbrev Qz_Exp : ((Int → Int) × (Nat → Nat) × (Nat → Nat) × (Nat → Nat) × (Nat → Nat) × ZS) → CqC := fun y As σ w τ => match y, As with
  | (N, E, A, B, V, z), [.inr (.inr (some p0)), .inl p1, .inl p2, .inl p3, .inl p4] => w = none ∧ InX p0 p1 p2 p3 p4 σ τ
  | _, _ => True
abbrev Uz_Exp : CqC := fun As σ w τ => ∀ y, Pz_Exp y As σ → Qz_Exp y As σ w τ
set_option maxHeartbeats 4000000 in
theorem pz_Exp (y : (Int → Int) × (Nat → Nat) × (Nat → Nat) × (Nat → Nat) × (Nat → Nat) × ZS) : PbC KX1_init [] [] (fun As σ => Pz_Exp y As σ ∧ cnC σ ≤ 1000000 ∧ ∃ w τ, uqC quL 17 As σ w τ) (Qz_Exp y) := by sorry
theorem wz_Exp : ∀ (L : Nat) (As : List AvC) (σ : CsC) (w : Option AvC) (τ : CsC), EvF L 17 As σ w τ → Uz_Exp As σ w τ := by sorry
abbrev Pz_opened : ((Int → Int) × (Nat → Nat) × (Nat → Nat) × (Nat → Nat) × (Nat → Nat) × ZS × Int × Int) → CpC := fun y As σ => match y with
  | (N, E, A, B, V, z, k, sg) => ∃ (p1 : Int32) (p2 : Int32), As = [.inr (.inr (some (E 0))), .inl p1, .inl p2] ∧ (ZC N E A B V σ z) ∧ (p1.toInt = k) ∧ (p2.toInt = sg)
abbrev Qz_opened : ((Int → Int) × (Nat → Nat) × (Nat → Nat) × (Nat → Nat) × (Nat → Nat) × ZS × Int × Int) → CqC := fun y As σ w τ => match y, As with
  | (N, E, A, B, V, z, k, sg), [_, .inl p1, .inl p2] => w = some (.inr (.inr (some (cnC σ)))) ∧ ZC N E A B V τ z ∧ FzC (cnC σ) (xnM z) E A A B B V V z z σ τ ∧ NwX A (opX k sg z) σ τ (cnC σ)
  | _, _ => True
abbrev Uz_opened : CqC := fun As σ w τ => ∀ y, Pz_opened y As σ → Qz_opened y As σ w τ
set_option maxHeartbeats 4000000 in
theorem pz_opened (y : (Int → Int) × (Nat → Nat) × (Nat → Nat) × (Nat → Nat) × (Nat → Nat) × ZS × Int × Int) : PbC KX7_opened [(234, TrP, EqC 234), (17, TrP, EqC 17)] [(17, Uz_Exp)] (fun As σ => Pz_opened y As σ ∧ cnC σ ≤ 1000000 ∧ ∃ w τ, uqC quL 162 As σ w τ) (Qz_opened y) := by sorry
theorem wz_opened : ∀ (L : Nat) (As : List AvC) (σ : CsC) (w : Option AvC) (τ : CsC), EvF L 162 As σ w τ → Uz_opened As σ w τ := by sorry
abbrev Pz_put : ((Int → Int) × (Nat → Nat) × (Nat → Nat) × (Nat → Nat) × (Nat → Nat) × ZS × XrZ) → CpC := fun y As σ => match y with
  | (N, E, A, B, V, z, x) => ∃ (p1 : Nat), As = [.inr (.inr (some (E 0))), .inr (.inr (some p1))] ∧ (ZC N E A B V σ z) ∧ ((p1 < cnC σ ∧ oprX x (xnM z) ∧ ∀ i, i < xnM z → A i ≠ p1) ∧ XbC A σ x p1 ∧ XiC N σ x p1) ∧ (x.1.2.2.2 = zAt z.1 - 1) ∧ ((∀ a ∈ x.2.2.2, x.2.2.1.1 ≤ a ∧ 0 ≤ a ∧ a < (xnM z : Int)) ∧ ChC A σ x.2.2.2)
abbrev Qz_put : ((Int → Int) × (Nat → Nat) × (Nat → Nat) × (Nat → Nat) × (Nat → Nat) × ZS × XrZ) → CqC := fun y As σ w τ => match y, As with
  | (N, E, A, B, V, z, x), [_, .inr (.inr (some p1))] => w = some (.inr (.inr (some p1))) ∧ ZC N E (upA A (xnM z) p1) B V τ (puM x z) ∧ PoX p1 σ τ ∧ fRC τ p1 75 = fRC σ p1 75
  | _, _ => True
abbrev Uz_put : CqC := fun As σ w τ => ∀ y, Pz_put y As σ → Qz_put y As σ w τ
set_option maxHeartbeats 4000000 in
theorem pz_put (y : (Int → Int) × (Nat → Nat) × (Nat → Nat) × (Nat → Nat) × (Nat → Nat) × ZS × XrZ) : PbC KX7_put [(234, TrP, EqC 234), (236, TrP, EqC 236)] [] (fun As σ => Pz_put y As σ ∧ cnC σ ≤ 1000000 ∧ ∃ w τ, uqC quL 161 As σ w τ) (Qz_put y) := by sorry
theorem wz_put : ∀ (L : Nat) (As : List AvC) (σ : CsC) (w : Option AvC) (τ : CsC), EvF L 161 As σ w τ → Uz_put As σ w τ := by sorry
/-! loose exps -/
theorem opX_o {k sg : Int} {z : ZS} {n : Nat} : oprX (opX k sg z) n := by sorry
theorem LsX.up {N : Int → Int} {A : Nat → Nat} {n0 : Nat} {σ τ : CsC} {z : ZS} {X : LoT} {o : Nat} {x x' : XrZ} {nx nx' : Option Nat} (h : LsX N A n0 σ z ((o, x, nx) :: X)) (f : ∀ a, a ≠ o → ∀ k, fIC τ a k = fIC σ a k ∧ fLC τ a k = fLC σ a k ∧ fRC τ a k = fRC σ a k) (hc : cnC τ = cnC σ) (hx : oprX x' (xnM z)) (hb : XbC A τ x' o) (hi : XiC N τ x' o) (hn : fRC τ o 75 = nx') : LsX N A n0 τ z ((o, x', nx') :: X) := by sorry
theorem ZC.lo {N : Int → Int} {E A B V : Nat → Nat} {n0 : Nat} {σ τ : CsC} {z : ZS} {X : LoT} {o : Nat} {x : XrZ} {nx : Option Nat} (h : ZC N E A B V σ z) (L : LsX N A n0 σ z ((o, x, nx) :: X)) (f : XfE σ τ) (hf : ∀ a, a ≠ o → ∀ k, fIC τ a k = fIC σ a k ∧ fLC τ a k = fLC σ a k ∧ fRC τ a k = fRC σ a k) : ZC N E A B V τ z := h.xf f (fun i hi k => hf _ (L.hd.1.1.2.2.2 i hi) k)
theorem FzC.lo {n m n0 : Nat} {N : Int → Int} {E A B V : Nat → Nat} {σ τ : CsC} {z : ZS} {X : LoT} {o : Nat} {x : XrZ} {nx : Option Nat} (L : LsX N A n0 σ z ((o, x, nx) :: X)) (hn : n ≤ n0) (f : XfE σ τ) (hf : ∀ a, a ≠ o → ∀ k, fIC τ a k = fIC σ a k ∧ fLC τ a k = fLC σ a k ∧ fRC τ a k = fRC σ a k) : FzC n m E A A B B V V z z σ τ := by sorry
theorem rI_a {σ : CsC} {o k : Nat} {v : Int32} : ∀ a, a ≠ o → ∀ j, fIC (pIC σ o k v) a j = fIC σ a j ∧ fLC (pIC σ o k v) a j = fLC σ a j ∧ fRC (pIC σ o k v) a j = fRC σ a j := fun a ha j => ⟨u2C_na ha, rfl, rfl⟩
theorem rR_a {σ : CsC} {o k : Nat} {v : Option Nat} : ∀ a, a ≠ o → ∀ j, fIC (pRC σ o k v) a j = fIC σ a j ∧ fLC (pRC σ o k v) a j = fLC σ a j ∧ fRC (pRC σ o k v) a j = fRC σ a j := fun a ha j => ⟨rfl, rfl, u2C_na ha⟩
theorem pR_n {σ : CsC} {o k j : Nat} {v : Option Nat} (h : j ≠ k) : fRC (pRC σ o k v) o j = fRC σ o j := u2C_nk h
theorem pR_e {σ : CsC} {o k : Nat} {v : Option Nat} : fRC (pRC σ o k v) o k = v := u2C_eq
theorem pI_n {σ : CsC} {o k j : Nat} {v : Int32} (h : j ≠ k) : fIC (pIC σ o k v) o j = fIC σ o j := u2C_nk h
theorem pI_e {σ : CsC} {o k : Nat} {v : Int32} : fIC (pIC σ o k v) o k = v := u2C_eq
theorem LsX.s72 {N : Int → Int} {A : Nat → Nat} {n0 : Nat} {σ : CsC} {z : ZS} {X : LoT} {o : Nat} {nx : Option Nat} {k sg f l nm lk wk st a b c mk v : Int} {ar : List Int} {w : Option Nat} (h : LsX N A n0 σ z ((o, recZ k sg f l nm lk wk st a b c mk ar, nx) :: X)) (hw : w = opA A v) (hv : v < (xnM z : Int)) : LsX N A n0 (pRC σ o 72 w) z ((o, recZ k sg f l nm lk wk st v b c mk ar, nx) :: X) := by sorry
theorem LsX.s73 {N : Int → Int} {A : Nat → Nat} {n0 : Nat} {σ : CsC} {z : ZS} {X : LoT} {o : Nat} {nx : Option Nat} {k sg f l nm lk wk st a b c mk v : Int} {ar : List Int} {w : Option Nat} (h : LsX N A n0 σ z ((o, recZ k sg f l nm lk wk st a b c mk ar, nx) :: X)) (hw : w = opA A v) (hv : v < (xnM z : Int)) : LsX N A n0 (pRC σ o 73 w) z ((o, recZ k sg f l nm lk wk st a v c mk ar, nx) :: X) := by sorry
theorem LsX.s74 {N : Int → Int} {A : Nat → Nat} {n0 : Nat} {σ : CsC} {z : ZS} {X : LoT} {o : Nat} {nx : Option Nat} {k sg f l nm lk wk st a b c mk v : Int} {ar : List Int} {w : Option Nat} (h : LsX N A n0 σ z ((o, recZ k sg f l nm lk wk st a b c mk ar, nx) :: X)) (hw : w = opA A v) (hv : v < (xnM z : Int)) : LsX N A n0 (pRC σ o 74 w) z ((o, recZ k sg f l nm lk wk st a b v mk ar, nx) :: X) := by sorry
theorem LsX.s76 {N : Int → Int} {A : Nat → Nat} {n0 : Nat} {σ : CsC} {z : ZS} {X : LoT} {o : Nat} {nx : Option Nat} {k sg f l nm lk wk st a b c mk v : Int} {ar : List Int} {w : Option Nat} (h : LsX N A n0 σ z ((o, recZ k sg f l nm lk wk st a b c mk ar, nx) :: X)) (hw : w = opA A v) (hv : v < (xnM z : Int)) : LsX N A n0 (pRC σ o 76 w) z ((o, recZ k sg f l nm lk wk st a b c v ar, nx) :: X) := by sorry
theorem LsX.s75 {N : Int → Int} {A : Nat → Nat} {n0 : Nat} {σ : CsC} {z : ZS} {X : LoT} {o : Nat} {nx : Option Nat} {k sg f l nm lk wk st a b c mk : Int} {ar : List Int} {w : Option Nat} (h : LsX N A n0 σ z ((o, recZ k sg f l nm lk wk st a b c mk ar, nx) :: X)) : LsX N A n0 (pRC σ o 75 w) z ((o, recZ k sg f l nm lk wk st a b c mk ar, w) :: X) := by sorry
theorem LsX.s66 {N : Int → Int} {A : Nat → Nat} {n0 : Nat} {σ : CsC} {z : ZS} {X : LoT} {o : Nat} {nx : Option Nat} {k sg f l nm lk wk st a b c mk v : Int} {ar : List Int} {w : Int32} (h : LsX N A n0 σ z ((o, recZ k sg f l nm lk wk st a b c mk ar, nx) :: X)) (hw : w.toInt = v) : LsX N A n0 (pIC σ o 66 w) z ((o, recZ k sg f l v lk wk st a b c mk ar, nx) :: X) := by sorry
theorem LsX.s67 {N : Int → Int} {A : Nat → Nat} {n0 : Nat} {σ : CsC} {z : ZS} {X : LoT} {o : Nat} {nx : Option Nat} {k sg f l nm lk wk st a b c mk v : Int} {ar : List Int} {w : Int32} (h : LsX N A n0 σ z ((o, recZ k sg f l nm lk wk st a b c mk ar, nx) :: X)) (hw : w.toInt = v) : LsX N A n0 (pIC σ o 67 w) z ((o, recZ k sg f l nm v wk st a b c mk ar, nx) :: X) := by sorry
theorem LsX.s69 {N : Int → Int} {A : Nat → Nat} {n0 : Nat} {σ : CsC} {z : ZS} {X : LoT} {o : Nat} {nx : Option Nat} {k sg f l nm lk wk st a b c mk v : Int} {ar : List Int} {w : Int32} (h : LsX N A n0 σ z ((o, recZ k sg f l nm lk wk st a b c mk ar, nx) :: X)) (hw : w.toInt = v) : LsX N A n0 (pIC σ o 69 w) z ((o, recZ k sg f l nm lk v st a b c mk ar, nx) :: X) := by sorry
/-- a mark -/
def mkX (k sg : Int) (z : ZS) : XrZ := recZ k sg (zAt z.1) (zAt z.1 - 1) (zAt z.1) (-1) 0 (xnM z) (-1) (-1) (-1) (-1) []
abbrev Pz_putMark : ((Int → Int) × (Nat → Nat) × (Nat → Nat) × (Nat → Nat) × (Nat → Nat) × ZS × Int × Int) → CpC := fun y As σ => match y with
  | (N, E, A, B, V, z, k, sg) => ∃ (p1 : Int32) (p2 : Int32), As = [.inr (.inr (some (E 0))), .inl p1, .inl p2] ∧ (ZC N E A B V σ z) ∧ (p1.toInt = k) ∧ (p2.toInt = sg) ∧ (¬ (k = 0 ∨ k = 1))
abbrev Qz_putMark : ((Int → Int) × (Nat → Nat) × (Nat → Nat) × (Nat → Nat) × (Nat → Nat) × ZS × Int × Int) → CqC := fun y As σ w τ => match y, As with
  | (N, E, A, B, V, z, k, sg), [_, .inl p1, .inl p2] => w = some (.inr (.inr (some (cnC σ)))) ∧ ZC N E (upA A (xnM z) (cnC σ)) B V τ (puM (mkX k sg z) z) ∧ FzC (cnC σ) (xnM z) E A (upA A (xnM z) (cnC σ)) B B V V z (puM (mkX k sg z) z) σ τ ∧ fRC τ (cnC σ) 75 = none
  | _, _ => True
abbrev Uz_putMark : CqC := fun As σ w τ => ∀ y, Pz_putMark y As σ → Qz_putMark y As σ w τ
set_option maxHeartbeats 4000000 in
theorem pz_putMark (y : (Int → Int) × (Nat → Nat) × (Nat → Nat) × (Nat → Nat) × (Nat → Nat) × ZS × Int × Int) : PbC KX7_putMark [(162, TrP, EqC 162), (161, TrP, EqC 161)] [(162, Uz_opened), (161, Uz_put)] (fun As σ => Pz_putMark y As σ ∧ cnC σ ≤ 1000000 ∧ ∃ w τ, uqC quL 163 As σ w τ) (Qz_putMark y) := by sorry
theorem wz_putMark : ∀ (L : Nat) (As : List AvC) (σ : CsC) (w : Option AvC) (τ : CsC), EvF L 163 As σ w τ → Uz_putMark As σ w τ := by sorry
/-! what NAMES mean -/
theorem has_b {x : Int64} {y : Int32} {v : Nat} (hy : y.toInt = (v : Int)) (hv : v < 64) : (((x.toUInt64 >>> (y.toInt64.toUInt64 &&& Int64.toUInt64 63)).toInt64) &&& (Int64.ofNat ((1 : Fin 2) : Nat)) = (Int64.ofNat ((0 : Fin 2) : Nat))) ↔ x.toBitVec.getLsbD v = false := by sorry
/-- the latest one of its NAME -/
theorem lk_f {N : Int → Int} {i k t : Int} : ∀ {l : List (Int × Int)}, List.Pairwise (fun a b => b.1 < a.1) l → (i, k) ∈ l → N k = N t → (∀ q ∈ l, i < q.1 → ¬ N q.2 = N t) → (∀ q ∈ l, q.1 = i → q.2 = k) → lkZ N l t = i := by sorry
theorem lk_n {N : Int → Int} {t : Int} : ∀ {l : List (Int × Int)}, (∀ q ∈ l, ¬ N q.2 = N t) → lkZ N l t = -1 := by sorry
/-- one row of ints alone, at one place -/
theorem ZC.mn {N : Int → Int} {E A B V : Nat → Nat} {σ : CsC} {z : ZS} {f : Nat → Int32} (h : ZC N E A B V σ z) : ZC N E A B V (qIC σ (E 303) f) z := by sorry
theorem FzC.mn {n m : Nat} {E A B V : Nat → Nat} {z : ZS} {σ : CsC} {w : Int32} {t : Nat} (ht : zAt z.1 ≤ (t : Int)) : FzC n m E A A B B V V z z σ (qIC σ (E 303) (upd (eIC σ (E 303)) t w)) := by sorry
abbrev Pz_has : ((Int → Int) × (Nat → Nat) × (Nat → Nat) × (Nat → Nat) × (Nat → Nat) × ZS × Nat) → CpC := fun y As σ => match y with
  | (N, E, A, B, V, z, v) => ∃ (p0 : Int64) (p1 : Int32), As = [.inr (.inl p0), .inl p1] ∧ (p1.toInt = (v : Int)) ∧ (v < 64)
abbrev Qz_has : ((Int → Int) × (Nat → Nat) × (Nat → Nat) × (Nat → Nat) × (Nat → Nat) × ZS × Nat) → CqC := fun y As σ w τ => match y, As with
  | (N, E, A, B, V, z, v), [.inr (.inl p0), .inl p1] => (∃ r, w = some (.inl r) ∧ r.toInt = 1 ∧ p0.toBitVec.getLsbD v = true ∧ σ = τ) ∨ (∃ r, w = some (.inl r) ∧ r.toInt = 0 ∧ p0.toBitVec.getLsbD v = false ∧ σ = τ)
  | _, _ => True
abbrev Uz_has : CqC := fun As σ w τ => ∀ y, Pz_has y As σ → Qz_has y As σ w τ
set_option maxHeartbeats 4000000 in
theorem pz_has (y : (Int → Int) × (Nat → Nat) × (Nat → Nat) × (Nat → Nat) × (Nat → Nat) × ZS × Nat) : PbC KX11_has [] [] (fun As σ => Pz_has y As σ ∧ cnC σ ≤ 1000000 ∧ ∃ w τ, uqC quL 221 As σ w τ) (Qz_has y) := by sorry
theorem wz_has : ∀ (L : Nat) (As : List AvC) (σ : CsC) (w : Option AvC) (τ : CsC), EvF L 221 As σ w τ → Uz_has As σ w τ := by sorry
abbrev Pz_lookUp : ((Int → Int) × (Nat → Nat) × (Nat → Nat) × (Nat → Nat) × (Nat → Nat) × ZS × Int) → CpC := fun y As σ => match y with
  | (N, E, A, B, V, z, t) => ∃ (p1 : Int64), As = [.inr (.inr (some (E 0))), .inr (.inl p1)] ∧ (ZC N E A B V σ z) ∧ (p1.toInt = N t)
abbrev Qz_lookUp : ((Int → Int) × (Nat → Nat) × (Nat → Nat) × (Nat → Nat) × (Nat → Nat) × ZS × Int) → CqC := fun y As σ w τ => match y, As with
  | (N, E, A, B, V, z, t), [_, .inr (.inl p1)] => ∃ r, w = some (.inl r) ∧ r.toInt = lkM N z t ∧ σ = τ
  | _, _ => True
abbrev Uz_lookUp : CqC := fun As σ w τ => ∀ y, Pz_lookUp y As σ → Qz_lookUp y As σ w τ
set_option maxHeartbeats 4000000 in
theorem pz_lookUp (y : (Int → Int) × (Nat → Nat) × (Nat → Nat) × (Nat → Nat) × (Nat → Nat) × ZS × Int) : PbC KX7_lookUp [(234, TrP, EqC 234), (221, TrP, EqC 221), (235, TrP, EqC 235)] [(221, Uz_has)] (fun As σ => Pz_lookUp y As σ ∧ cnC σ ≤ 1000000 ∧ ∃ w τ, uqC quL 139 As σ w τ) (Qz_lookUp y) := by sorry
theorem wz_lookUp : ∀ (L : Nat) (As : List AvC) (σ : CsC) (w : Option AvC) (τ : CsC), EvF L 139 As σ w τ → Uz_lookUp As σ w τ := by sorry
abbrev Pz_meant : ((Int → Int) × (Nat → Nat) × (Nat → Nat) × (Nat → Nat) × (Nat → Nat) × ZS × Int) → CpC := fun y As σ => match y with
  | (N, E, A, B, V, z, t) => ∃ (p1 : Int32), As = [.inr (.inr (some (E 0))), .inl p1] ∧ (ZC N E A B V σ z) ∧ (p1.toInt = t) ∧ (zAt z.1 ≤ t ∧ t ≤ 502)
abbrev Qz_meant : ((Int → Int) × (Nat → Nat) × (Nat → Nat) × (Nat → Nat) × (Nat → Nat) × ZS × Int) → CqC := fun y As σ w τ => match y, As with
  | (N, E, A, B, V, z, t), [_, .inl p1] => ∃ r, w = some (.inl r) ∧ r.toInt = lkM N z t ∧ ZC N E A B V τ z ∧ FzC (cnC σ) (xnM z) E A A B B V V z z σ τ ∧ (eIC τ (E 303) t.toNat).toInt = lkM N z t
  | _, _ => True
abbrev Uz_meant : CqC := fun As σ w τ => ∀ y, Pz_meant y As σ → Qz_meant y As σ w τ
set_option maxHeartbeats 4000000 in
theorem pz_meant (y : (Int → Int) × (Nat → Nat) × (Nat → Nat) × (Nat → Nat) × (Nat → Nat) × ZS × Int) : PbC KX7_meant [(139, TrP, EqC 139)] [(139, Uz_lookUp)] (fun As σ => Pz_meant y As σ ∧ cnC σ ≤ 1000000 ∧ ∃ w τ, uqC quL 140 As σ w τ) (Qz_meant y) := by sorry
theorem wz_meant : ∀ (L : Nat) (As : List AvC) (σ : CsC) (w : Option AvC) (τ : CsC), EvF L 140 As σ w τ → Uz_meant As σ w τ := by sorry
/-! exps -/
theorem opA_p {A : Nat → Nat} {n : Nat} (h : 0 < n) : opA A ((n : Int) - 1) = some (A (n - 1)) := by sorry
/-- the exp that was read -/
def TpX (τ : CsC) (o : Nat) (z : ZS) : Prop := (fIC τ o 62).toInt = zAt z.1 ∧ (fIC τ o 63).toInt = (xnM z : Int) ∧ fRC τ o 75 = none
abbrev ExQ (N : Int → Int) (E A B V : Nat → Nat) (z z' : ZS) (σ : CsC) (w : Option AvC) (τ : CsC) : Prop := ∃ A' : Nat → Nat, w = some (.inr (.inr (some (A' (xnM z' - 1))))) ∧ ZC N E A' B V τ z' ∧ FzC (cnC σ) (xnM z) E A A' B B V V z z' σ τ ∧ TpX τ (A' (xnM z' - 1)) z ∧ xnM z < xnM z'
/-- the latest item's kind -/
def hdK (z : ZS) : Int := match z.2.1 with
  | .inl x :: _ => x.1.1
  | _ => -1
/-- the latest one stands right behind a unary - -/
def lk1 (z : ZS) : ZS := match z.2.1 with
  | .inl x :: l => (z.1, .inl (x.1, (x.2.1.1, 1, x.2.1.2.2), x.2.2) :: l, z.2.2)
  | _ => z
theorem clp_k {E : ZS → ZS} {r : Int × Int} : ∀ (f : Nat) (l : List Int) (z : ZS), hdK (clpM E r f l z) = 10 := by sorry
theorem ol_1 {N : Int → Int} {m : Nat} {z : ZS} (h : zFt (oM N m 0 z).1 = 0) : oM N m 1 z = if hdK (oM N m 0 z) = 0 then lk1 (oM N m 0 z) else oM N m 0 z := by sorry
abbrev Pz_readLiteral : ((Int → Int) × (Nat → Nat) × (Nat → Nat) × (Nat → Nat) × (Nat → Nat) × ZS) → CpC := fun y As σ => match y with
  | (N, E, A, B, V, z) => As = [.inr (.inr (some (E 0)))] ∧ (ZC N E A B V σ z) ∧ (codY z.1 = 81 ∨ codY z.1 = 82 ∨ codY z.1 = 83 ∨ codY z.1 = 72 ∨ codY z.1 = 73) ∧ (zFt (puM (litZ 0 (xnM z) z.1) (accM z)).1 = 0)
abbrev Qz_readLiteral : ((Int → Int) × (Nat → Nat) × (Nat → Nat) × (Nat → Nat) × (Nat → Nat) × ZS) → CqC := fun y As σ w τ => match y, As with
  | (N, E, A, B, V, z), [_] => ExQ N E A B V z (puM (litZ 0 (xnM z) z.1) (accM z)) σ w τ
  | _, _ => True
abbrev Uz_readLiteral : CqC := fun As σ w τ => ∀ y, Pz_readLiteral y As σ → Qz_readLiteral y As σ w τ
abbrev Pz_readCountAhead : ((Int → Int) × (Nat → Nat) × (Nat → Nat) × (Nat → Nat) × (Nat → Nat) × ZS) → CpC := fun y As σ => match y with
  | (N, E, A, B, V, z) => As = [.inr (.inr (some (E 0)))] ∧ (ZC N E A B V σ z) ∧ (codY z.1 = 41 ∨ codY z.1 = 42) ∧ (zFt (xpM 80 (puM (preZ (lkM N z (zAt z.1 + 1)) (xnM z) z.1) (accM z))).1 = 0)
abbrev Qz_readCountAhead : ((Int → Int) × (Nat → Nat) × (Nat → Nat) × (Nat → Nat) × (Nat → Nat) × ZS) → CqC := fun y As σ w τ => match y, As with
  | (N, E, A, B, V, z), [_] => ExQ N E A B V z (xpM 80 (puM (preZ (lkM N z (zAt z.1 + 1)) (xnM z) z.1) (accM z))) σ w τ
  | _, _ => True
abbrev Uz_readCountAhead : CqC := fun As σ w τ => ∀ y, Pz_readCountAhead y As σ → Qz_readCountAhead y As σ w τ
abbrev Pz_readExp : ((Int → Int) × (Nat → Nat) × (Nat → Nat) × (Nat → Nat) × (Nat → Nat) × ZS × Nat) → CpC := fun y As σ => match y with
  | (N, E, A, B, V, z, n) => ∃ (p1 : Int32), As = [.inr (.inr (some (E 0))), .inl p1] ∧ (ZC N E A B V σ z) ∧ (p1.toInt + (n : Int) = 21) ∧ (zFt (eM N n z).1 = 0)
abbrev Qz_readExp : ((Int → Int) × (Nat → Nat) × (Nat → Nat) × (Nat → Nat) × (Nat → Nat) × ZS × Nat) → CqC := fun y As σ w τ => match y, As with
  | (N, E, A, B, V, z, n), [_, .inl p1] => ExQ N E A B V z (eM N n z) σ w τ
  | _, _ => True
abbrev Uz_readExp : CqC := fun As σ w τ => ∀ y, Pz_readExp y As σ → Qz_readExp y As σ w τ
abbrev Pz_readChoice : ((Int → Int) × (Nat → Nat) × (Nat → Nat) × (Nat → Nat) × (Nat → Nat) × ZS × Nat) → CpC := fun y As σ => match y with
  | (N, E, A, B, V, z, n) => ∃ (p1 : Int32), As = [.inr (.inr (some (E 0))), .inl p1] ∧ (ZC N E A B V σ z) ∧ (p1.toInt + (n : Int) = 21) ∧ (1 ≤ n) ∧ (zFt (chM N n z).1 = 0)
abbrev Qz_readChoice : ((Int → Int) × (Nat → Nat) × (Nat → Nat) × (Nat → Nat) × (Nat → Nat) × ZS × Nat) → CqC := fun y As σ w τ => match y, As with
  | (N, E, A, B, V, z, n), [_, .inl p1] => ExQ N E A B V z (chM N n z) σ w τ
  | _, _ => True
abbrev Uz_readChoice : CqC := fun As σ w τ => ∀ y, Pz_readChoice y As σ → Qz_readChoice y As σ w τ
abbrev Pz_readAssignment : ((Int → Int) × (Nat → Nat) × (Nat → Nat) × (Nat → Nat) × (Nat → Nat) × ZS × Nat) → CpC := fun y As σ => match y with
  | (N, E, A, B, V, z, n) => ∃ (p1 : Int32), As = [.inr (.inr (some (E 0))), .inl p1] ∧ (ZC N E A B V σ z) ∧ (p1.toInt + (n : Int) = 21) ∧ (1 ≤ n) ∧ (codY z.1 = 80 ∧ 8 ≤ cobY z.1 ∧ cobY z.1 ≤ 19) ∧ (zFt (asgM N (eM N (n - 1)) z).1 = 0)
abbrev Qz_readAssignment : ((Int → Int) × (Nat → Nat) × (Nat → Nat) × (Nat → Nat) × (Nat → Nat) × ZS × Nat) → CqC := fun y As σ w τ => match y, As with
  | (N, E, A, B, V, z, n), [_, .inl p1] => ExQ N E A B V z (asgM N (eM N (n - 1)) z) σ w τ
  | _, _ => True
abbrev Uz_readAssignment : CqC := fun As σ w τ => ∀ y, Pz_readAssignment y As σ → Qz_readAssignment y As σ w τ
abbrev Pz_readChain : ((Int → Int) × (Nat → Nat) × (Nat → Nat) × (Nat → Nat) × (Nat → Nat) × ZS × Nat) → CpC := fun y As σ => match y with
  | (N, E, A, B, V, z, n) => ∃ (p1 : Int32), As = [.inr (.inr (some (E 0))), .inl p1] ∧ (ZC N E A B V σ z) ∧ (p1.toInt + (n : Int) = 21) ∧ (1 ≤ n) ∧ (zFt (chlM (opM N n 0) 501 [] (rbM z) (opM N n 0 z)).1 = 0)
abbrev Qz_readChain : ((Int → Int) × (Nat → Nat) × (Nat → Nat) × (Nat → Nat) × (Nat → Nat) × ZS × Nat) → CqC := fun y As σ w τ => match y, As with
  | (N, E, A, B, V, z, n), [_, .inl p1] => ExQ N E A B V z (chlM (opM N n 0) 501 [] (rbM z) (opM N n 0 z)) σ w τ
  | _, _ => True
abbrev Uz_readChain : CqC := fun As σ w τ => ∀ y, Pz_readChain y As σ → Qz_readChain y As σ w τ
abbrev Pz_readOperand : ((Int → Int) × (Nat → Nat) × (Nat → Nat) × (Nat → Nat) × (Nat → Nat) × ZS × Nat) → CpC := fun y As σ => match y with
  | (N, E, A, B, V, z, n) => ∃ (p1 : Int32), As = [.inr (.inr (some (E 0))), .inl p1] ∧ (ZC N E A B V σ z) ∧ (p1.toInt + (n : Int) = 21) ∧ (1 ≤ n) ∧ (zFt (opM N n 0 z).1 = 0)
abbrev Qz_readOperand : ((Int → Int) × (Nat → Nat) × (Nat → Nat) × (Nat → Nat) × (Nat → Nat) × ZS × Nat) → CqC := fun y As σ w τ => match y, As with
  | (N, E, A, B, V, z, n), [_, .inl p1] => ExQ N E A B V z (opM N n 0 z) σ w τ
  | _, _ => True
abbrev Uz_readOperand : CqC := fun As σ w τ => ∀ y, Pz_readOperand y As σ → Qz_readOperand y As σ w τ
abbrev Pz_readInnerOperand : ((Int → Int) × (Nat → Nat) × (Nat → Nat) × (Nat → Nat) × (Nat → Nat) × ZS × Nat) → CpC := fun y As σ => match y with
  | (N, E, A, B, V, z, n) => ∃ (p1 : Int32), As = [.inr (.inr (some (E 0))), .inl p1] ∧ (ZC N E A B V σ z) ∧ (p1.toInt + (n : Int) = 21) ∧ (zFt (oM N n 0 z).1 = 0)
abbrev Qz_readInnerOperand : ((Int → Int) × (Nat → Nat) × (Nat → Nat) × (Nat → Nat) × (Nat → Nat) × ZS × Nat) → CqC := fun y As σ w τ => match y, As with
  | (N, E, A, B, V, z, n), [_, .inl p1] => ExQ N E A B V z (oM N n 0 z) σ w τ
  | _, _ => True
abbrev Uz_readInnerOperand : CqC := fun As σ w τ => ∀ y, Pz_readInnerOperand y As σ → Qz_readInnerOperand y As σ w τ
abbrev Pz_readAlone : ((Int → Int) × (Nat → Nat) × (Nat → Nat) × (Nat → Nat) × (Nat → Nat) × ZS × Nat) → CpC := fun y As σ => match y with
  | (N, E, A, B, V, z, n) => ∃ (p1 : Int32), As = [.inr (.inr (some (E 0))), .inl p1] ∧ (ZC N E A B V σ z) ∧ (p1.toInt + (n : Int) = 21) ∧ (1 ≤ n) ∧ (codY z.1 = 34 ∨ codY z.1 = 35 ∨ codY z.1 = 39 ∨ codY z.1 = 40) ∧ (zFt (aleM (codY z.1) (rbM z) (oM N (n - 1) (ngZ (codY z.1)) (accM z))).1 = 0)
abbrev Qz_readAlone : ((Int → Int) × (Nat → Nat) × (Nat → Nat) × (Nat → Nat) × (Nat → Nat) × ZS × Nat) → CqC := fun y As σ w τ => match y, As with
  | (N, E, A, B, V, z, n), [_, .inl p1] => ExQ N E A B V z (aleM (codY z.1) (rbM z) (oM N (n - 1) (ngZ (codY z.1)) (accM z))) σ w τ
  | _, _ => True
abbrev Uz_readAlone : CqC := fun As σ w τ => ∀ y, Pz_readAlone y As σ → Qz_readAlone y As σ w τ
abbrev Pz_readBehindOpen : ((Int → Int) × (Nat → Nat) × (Nat → Nat) × (Nat → Nat) × (Nat → Nat) × ZS × Nat) → CpC := fun y As σ => match y with
  | (N, E, A, B, V, z, n) => ∃ (p1 : Int32), As = [.inr (.inr (some (E 0))), .inl p1] ∧ (ZC N E A B V σ z) ∧ (p1.toInt + (n : Int) = 21) ∧ (1 ≤ n) ∧ (codY z.1 = 0) ∧ (zFt (op2M (oM N (n - 1)) (eM N (n - 1)) (rbM z) (accM z)).1 = 0)
abbrev Qz_readBehindOpen : ((Int → Int) × (Nat → Nat) × (Nat → Nat) × (Nat → Nat) × (Nat → Nat) × ZS × Nat) → CqC := fun y As σ w τ => match y, As with
  | (N, E, A, B, V, z, n), [_, .inl p1] => ExQ N E A B V z (op2M (oM N (n - 1)) (eM N (n - 1)) (rbM z) (accM z)) σ w τ
  | _, _ => True
abbrev Uz_readBehindOpen : CqC := fun As σ w τ => ∀ y, Pz_readBehindOpen y As σ → Qz_readBehindOpen y As σ w τ
abbrev Pz_readName : ((Int → Int) × (Nat → Nat) × (Nat → Nat) × (Nat → Nat) × (Nat → Nat) × ZS × Nat) → CpC := fun y As σ => match y with
  | (N, E, A, B, V, z, n) => ∃ (p1 : Int32), As = [.inr (.inr (some (E 0))), .inl p1] ∧ (ZC N E A B V σ z) ∧ (p1.toInt + (n : Int) = 21) ∧ (1 ≤ n) ∧ (codY z.1 = 80) ∧ (zFt (nmeM N (n - 1) (eM N (n - 1)) z).1 = 0)
abbrev Qz_readName : ((Int → Int) × (Nat → Nat) × (Nat → Nat) × (Nat → Nat) × (Nat → Nat) × ZS × Nat) → CqC := fun y As σ w τ => match y, As with
  | (N, E, A, B, V, z, n), [_, .inl p1] => ExQ N E A B V z (nmeM N (n - 1) (eM N (n - 1)) z) σ w τ
  | _, _ => True
abbrev Uz_readName : CqC := fun As σ w τ => ∀ y, Pz_readName y As σ → Qz_readName y As σ w τ
abbrev Pz_readCall : ((Int → Int) × (Nat → Nat) × (Nat → Nat) × (Nat → Nat) × (Nat → Nat) × ZS × Nat) → CpC := fun y As σ => match y with
  | (N, E, A, B, V, z, n) => ∃ (p1 : Int32), As = [.inr (.inr (some (E 0))), .inl p1] ∧ (ZC N E A B V σ z) ∧ (p1.toInt + (n : Int) = 21) ∧ (1 ≤ n) ∧ (codY z.1 = 80 ∧ cobY z.1 = 0) ∧ (zFt (ca2M (n - 1) (eM N (n - 1)) (rbM z) (accM (accM z))).1 = 0)
abbrev Qz_readCall : ((Int → Int) × (Nat → Nat) × (Nat → Nat) × (Nat → Nat) × (Nat → Nat) × ZS × Nat) → CqC := fun y As σ w τ => match y, As with
  | (N, E, A, B, V, z, n), [_, .inl p1] => ExQ N E A B V z (ca2M (n - 1) (eM N (n - 1)) (rbM z) (accM (accM z))) σ w τ
  | _, _ => True
abbrev Uz_readCall : CqC := fun As σ w τ => ∀ y, Pz_readCall y As σ → Qz_readCall y As σ w τ
set_option maxHeartbeats 4000000 in
theorem pz_readInnerOperand (y : (Int → Int) × (Nat → Nat) × (Nat → Nat) × (Nat → Nat) × (Nat → Nat) × ZS × Nat) : PbC KX7_readInnerOperand [(131, TrP, EqC 131), (170, TrP, EqC 170), (162, TrP, EqC 162)] [(131, Uz_isTooDeep), (170, Uz_readOperand), (162, Uz_opened)] (fun As σ => Pz_readInnerOperand y As σ ∧ cnC σ ≤ 1000000 ∧ ∃ w τ, uqC quL 171 As σ w τ) (Qz_readInnerOperand y) := by sorry
set_option maxHeartbeats 4000000 in
theorem pz_readExp (y : (Int → Int) × (Nat → Nat) × (Nat → Nat) × (Nat → Nat) × (Nat → Nat) × ZS × Nat) : PbC KX7_readExp [(131, TrP, EqC 131), (125, TrP, EqC 125), (166, TrP, EqC 166), (126, TrP, EqC 126), (133, TrP, EqC 133), (165, TrP, EqC 165), (162, TrP, EqC 162)] [(131, Uz_isTooDeep), (125, Uz_code), (166, Uz_readChoice), (126, Uz_codeBehind), (133, Uz_isAssign), (165, Uz_readAssignment), (162, Uz_opened)] (fun As σ => Pz_readExp y As σ ∧ cnC σ ≤ 1000000 ∧ ∃ w τ, uqC quL 164 As σ w τ) (Qz_readExp y) := by sorry
set_option maxHeartbeats 4000000 in
theorem pz_readOperand (y : (Int → Int) × (Nat → Nat) × (Nat → Nat) × (Nat → Nat) × (Nat → Nat) × ZS × Nat) : PbC KX7_readOperand [(125, TrP, EqC 125), (174, TrP, EqC 174), (172, TrP, EqC 172), (173, TrP, EqC 173), (177, TrP, EqC 177), (175, TrP, EqC 175), (127, TrP, EqC 127), (162, TrP, EqC 162)] [(125, Uz_code), (174, Uz_readBehindOpen), (172, Uz_readAlone), (173, Uz_readCountAhead), (177, Uz_readLiteral), (175, Uz_readName), (162, Uz_opened)] (fun As σ => Pz_readOperand y As σ ∧ cnC σ ≤ 1000000 ∧ ∃ w τ, uqC quL 170 As σ w τ) (Qz_readOperand y) := by sorry
theorem XoC.l1 {N : Int → Int} {A : Nat → Nat} {σ : CsC} {x : XrZ} {i o : Nat} {v : Int32} (h : XoC N A σ x i o) (hv : v.toInt = 1) : XoC N A (pIC σ o 67 v) (x.1, (x.2.1.1, 1, x.2.1.2.2), x.2.2) i o := by sorry
theorem hd_in {z : ZS} (h : hdK z = 0) : ∃ x l, z.2.1 = .inl x :: l ∧ x.1.1 = 0 := by sorry
theorem lk_top {z : ZS} {x : XrZ} {l : List ItZ} (e : z.2.1 = .inl x :: l) : lk1 z = (z.1, .inl (x.1, (x.2.1.1, 1, x.2.1.2.2), x.2.2) :: l, z.2.2) ∧ xnM z = xcZ l + 1 ∧ xnM (lk1 z) = xnM z ∧ xth z (xcZ l) = x := by sorry
theorem clp_h {E : ZS → ZS} {r : Int × Int} : ∀ (f : Nat) (l : List Int) (z : ZS), ∃ x t, (clpM E r f l z).2.1 = .inl x :: t := by sorry
theorem oh_1 {N : Int → Int} {m : Nat} {z : ZS} (h : zFt (oM N m 0 z).1 = 0) : ∃ x t, (oM N m 0 z).2.1 = .inl x :: t := by sorry
theorem ZC.inj {N : Int → Int} {E A B V : Nat → Nat} {σ : CsC} {z : ZS} {i j : Nat} (h : ZC N E A B V σ z) (hi : i < xnM z) (hj : j < xnM z) (e : A i = A j) : i = j := by sorry
theorem LsX.z {N : Int → Int} {A : Nat → Nat} {n0 : Nat} {σ : CsC} {z z' : ZS} {X : LoT} (h : LsX N A n0 σ z X) (e : xnM z' = xnM z) : LsX N A n0 σ z' X := by sorry
theorem FzC.l1 {n m : Nat} {E A A' B B' V V' : Nat → Nat} {z z' : ZS} {σ τ : CsC} {v : Int32} {x : XrZ} {l : List ItZ} (h : FzC n m E A A' B B' V V' z z' σ τ) (e : z'.2.1 = .inl x :: l) (hl : xnM z < xnM z') : FzC n m E A A' B B' V V' z (lk1 z') σ (pIC τ (A' (xcZ l)) 67 v) := by sorry
theorem up_l {A : Nat → Nat} {z : ZS} {x : XrZ} {o : Nat} : upA A (xnM z) o (xnM (puM x z) - 1) = o := by sorry
theorem ExQ.pu {N : Int → Int} {E A A' B V : Nat → Nat} {z z' z3 : ZS} {σ τ : CsC} {x : XrZ} {o : Nat} (e : z' = puM x z3) (hZ : ZC N E (upA A' (xnM z3) o) B V τ (puM x z3)) (hF : FzC (cnC σ) (xnM z) E A (upA A' (xnM z3) o) B B V V z (puM x z3) σ τ) (hn : fRC τ o 75 = none) (h1 : x.1.2.2.1 = zAt z.1) (h2 : x.2.2.1.1 = (xnM z : Int)) (hl : xnM z ≤ xnM z3) : ExQ N E A B V z z' σ (some (.inr (.inr (some o)))) τ := by sorry
set_option maxHeartbeats 4000000 in
theorem pz_readAlone (y : (Int → Int) × (Nat → Nat) × (Nat → Nat) × (Nat → Nat) × (Nat → Nat) × ZS × Nat) : PbC KX7_readAlone [(125, TrP, EqC 125), (162, TrP, EqC 162), (128, TrP, EqC 128), (171, TrP, EqC 171), (161, TrP, EqC 161)] [(125, Uz_code), (162, Uz_opened), (128, Uz_accept), (171, Uz_readInnerOperand), (161, Uz_put)] (fun As σ => Pz_readAlone y As σ ∧ cnC σ ≤ 1000000 ∧ ∃ w τ, uqC quL 172 As σ w τ) (Qz_readAlone y) := by sorry
set_option maxHeartbeats 4000000 in
theorem pz_readBehindOpen (y : (Int → Int) × (Nat → Nat) × (Nat → Nat) × (Nat → Nat) × (Nat → Nat) × ZS × Nat) : PbC KX7_readBehindOpen [(234, TrP, EqC 234), (128, TrP, EqC 128), (125, TrP, EqC 125), (132, TrP, EqC 132), (17, TrP, EqC 17), (164, TrP, EqC 164), (129, TrP, EqC 129), (161, TrP, EqC 161), (136, TrP, EqC 136), (171, TrP, EqC 171)] [(128, Uz_accept), (125, Uz_code), (132, Uz_isType), (17, Uz_Exp), (164, Uz_readExp), (129, Uz_expect), (161, Uz_put), (136, Uz_readType), (171, Uz_readInnerOperand)] (fun As σ => Pz_readBehindOpen y As σ ∧ cnC σ ≤ 1000000 ∧ ∃ w τ, uqC quL 174 As σ w τ) (Qz_readBehindOpen y) := by sorry
set_option maxHeartbeats 4000000 in
theorem pz_readName (y : (Int → Int) × (Nat → Nat) × (Nat → Nat) × (Nat → Nat) × (Nat → Nat) × ZS × Nat) : PbC KX7_readName [(126, TrP, EqC 126), (162, TrP, EqC 162), (140, TrP, EqC 140), (128, TrP, EqC 128), (161, TrP, EqC 161), (176, TrP, EqC 176)] [(126, Uz_codeBehind), (162, Uz_opened), (140, Uz_meant), (128, Uz_accept), (161, Uz_put), (176, Uz_readCall)] (fun As σ => Pz_readName y As σ ∧ cnC σ ≤ 1000000 ∧ ∃ w τ, uqC quL 175 As σ w τ) (Qz_readName y) := by sorry
set_option maxHeartbeats 4000000 in
theorem pz_readCountAhead (y : (Int → Int) × (Nat → Nat) × (Nat → Nat) × (Nat → Nat) × (Nat → Nat) × ZS) : PbC KX7_readCountAhead [(125, TrP, EqC 125), (162, TrP, EqC 162), (128, TrP, EqC 128), (129, TrP, EqC 129), (161, TrP, EqC 161), (140, TrP, EqC 140)] [(125, Uz_code), (162, Uz_opened), (128, Uz_accept), (129, Uz_expect), (161, Uz_put), (140, Uz_meant)] (fun As σ => Pz_readCountAhead y As σ ∧ cnC σ ≤ 1000000 ∧ ∃ w τ, uqC quL 173 As σ w τ) (Qz_readCountAhead y) := by sorry
theorem wz_readCountAhead : ∀ (L : Nat) (As : List AvC) (σ : CsC) (w : Option AvC) (τ : CsC), EvF L 173 As σ w τ → Uz_readCountAhead As σ w τ := by sorry
theorem stv_z : ∀ j, j < 43 → (stvC.getD j 0).toInt = strZ (j : Int) := by sorry
theorem opv_z : ∀ j, j < 11 → (opvC.getD j 0).toInt = opfZ ((j : Int) + 9) := by sorry
theorem XoC.lk {N : Int → Int} {A : Nat → Nat} {σ : CsC} {x : XrZ} {i o : Nat} {v : Int32} {lv : Int} (h : XoC N A σ x i o) (hv : v.toInt = lv) : XoC N A (pIC σ o 67 v) (x.1, (x.2.1.1, lv, x.2.1.2.2), x.2.2) i o := by sorry
theorem XoC.mq {N : Int → Int} {A : Nat → Nat} {σ : CsC} {x : XrZ} {i o : Nat} {v : Option Nat} {mv : Int} (h : XoC N A σ x i o) (hv : v = opA A mv) : XoC N A (pRC σ o 76 v) (x.1, x.2.1, (x.2.2.1.1, x.2.2.1.2.1, x.2.2.1.2.2.1, x.2.2.1.2.2.2.1, mv), x.2.2.2) i o := by sorry
/-- the latest exp of the list is put right -/
theorem FzC.tq {n m : Nat} {E A A' B B' V V' : Nat → Nat} {z zz : ZS} {x x' : XrZ} {σ τ υ : CsC} (h : FzC n m E A A' B B' V V' z (puM x zz) σ τ) (hl : xnM z ≤ xnM zz) (hs : x'.2.2.1.1 = x.2.2.1.1) (f : XfE τ υ) (ha : ∀ a, a ≠ A' (xnM zz) → ∀ k, fIC υ a k = fIC τ a k ∧ fLC υ a k = fLC τ a k ∧ fRC υ a k = fRC τ a k) : FzC n m E A A' B B' V V' z (puM x' zz) σ υ := by sorry
theorem gd_c2 {E C : SpC → SpC} (hE : GdY E) (hC : GdY C) : GdY (ch2Y E C) := by sorry
abbrev Pz_strength : ((Int → Int) × (Nat → Nat) × (Nat → Nat) × (Nat → Nat) × (Nat → Nat) × ZS) → CpC := fun y As σ => match y with
  | (N, E, A, B, V, z) => ∃ (p0 : Int32), As = [.inl p0]
abbrev Qz_strength : ((Int → Int) × (Nat → Nat) × (Nat → Nat) × (Nat → Nat) × (Nat → Nat) × ZS) → CqC := fun y As σ w τ => match y, As with
  | (N, E, A, B, V, z), [.inl p0] => ∃ r, w = some (.inl r) ∧ r.toInt = strZ p0.toInt ∧ σ = τ
  | _, _ => True
abbrev Uz_strength : CqC := fun As σ w τ => ∀ y, Pz_strength y As σ → Qz_strength y As σ w τ
set_option maxHeartbeats 4000000 in
theorem pz_strength (y : (Int → Int) × (Nat → Nat) × (Nat → Nat) × (Nat → Nat) × (Nat → Nat) × ZS) : PbC KX11_strength [] [] (fun As σ => Pz_strength y As σ ∧ cnC σ ≤ 1000000 ∧ ∃ w τ, uqC quL 225 As σ w τ) (Qz_strength y) := by sorry
theorem wz_strength : ∀ (L : Nat) (As : List AvC) (σ : CsC) (w : Option AvC) (τ : CsC), EvF L 225 As σ w τ → Uz_strength As σ w τ := by sorry
abbrev Pz_operatorOf : ((Int → Int) × (Nat → Nat) × (Nat → Nat) × (Nat → Nat) × (Nat → Nat) × ZS) → CpC := fun y As σ => match y with
  | (N, E, A, B, V, z) => ∃ (p0 : Int32), As = [.inl p0] ∧ (0 ≤ p0.toInt ∧ p0.toInt ≤ 100)
abbrev Qz_operatorOf : ((Int → Int) × (Nat → Nat) × (Nat → Nat) × (Nat → Nat) × (Nat → Nat) × ZS) → CqC := fun y As σ w τ => match y, As with
  | (N, E, A, B, V, z), [.inl p0] => ∃ r, w = some (.inl r) ∧ r.toInt = opfZ p0.toInt ∧ σ = τ
  | _, _ => True
abbrev Uz_operatorOf : CqC := fun As σ w τ => ∀ y, Pz_operatorOf y As σ → Qz_operatorOf y As σ w τ
set_option maxHeartbeats 4000000 in
theorem pz_operatorOf (y : (Int → Int) × (Nat → Nat) × (Nat → Nat) × (Nat → Nat) × (Nat → Nat) × ZS) : PbC KX11_operatorOf [] [] (fun As σ => Pz_operatorOf y As σ ∧ cnC σ ≤ 1000000 ∧ ∃ w τ, uqC quL 226 As σ w τ) (Qz_operatorOf y) := by sorry
theorem wz_operatorOf : ∀ (L : Nat) (As : List AvC) (σ : CsC) (w : Option AvC) (τ : CsC), EvF L 226 As σ w τ → Uz_operatorOf As σ w τ := by sorry
set_option maxHeartbeats 4000000 in
theorem pz_readAssignment (y : (Int → Int) × (Nat → Nat) × (Nat → Nat) × (Nat → Nat) × (Nat → Nat) × ZS × Nat) : PbC KX7_readAssignment [(126, TrP, EqC 126), (226, TrP, EqC 226), (162, TrP, EqC 162), (140, TrP, EqC 140), (128, TrP, EqC 128), (164, TrP, EqC 164), (161, TrP, EqC 161), (163, TrP, EqC 163)] [(126, Uz_codeBehind), (226, Uz_operatorOf), (162, Uz_opened), (140, Uz_meant), (128, Uz_accept), (164, Uz_readExp), (161, Uz_put), (163, Uz_putMark)] (fun As σ => Pz_readAssignment y As σ ∧ cnC σ ≤ 1000000 ∧ ∃ w τ, uqC quL 165 As σ w τ) (Qz_readAssignment y) := by sorry
set_option maxHeartbeats 4000000 in
theorem pz_readChoice (y : (Int → Int) × (Nat → Nat) × (Nat → Nat) × (Nat → Nat) × (Nat → Nat) × ZS × Nat) : PbC KX7_readChoice [(234, TrP, EqC 234), (167, TrP, EqC 167), (125, TrP, EqC 125), (17, TrP, EqC 17), (163, TrP, EqC 163), (128, TrP, EqC 128), (164, TrP, EqC 164), (129, TrP, EqC 129), (131, TrP, EqC 131), (166, TrP, EqC 166), (161, TrP, EqC 161), (162, TrP, EqC 162)] [(167, Uz_readChain), (125, Uz_code), (17, Uz_Exp), (163, Uz_putMark), (128, Uz_accept), (164, Uz_readExp), (129, Uz_expect), (131, Uz_isTooDeep), (166, Uz_readChoice), (161, Uz_put), (162, Uz_opened)] (fun As σ => Pz_readChoice y As σ ∧ cnC σ ≤ 1000000 ∧ ∃ w τ, uqC quL 166 As σ w τ) (Qz_readChoice y) := by sorry
/-! chains -/
def WxX : WtZ → Option Nat → LoT → Prop
  | [], p, X => p = none ∧ X = []
  | (sg, f, st, a, mq) :: W, p, X => ∃ o nx Y, p = some o ∧ X = (o, recZ 7 sg f 0 f (-1) 0 st a (-1) (-1) mq [], nx) :: Y ∧ WxX W nx Y
theorem str_00 (c : Int) : 0 ≤ strZ c := by sorry
theorem csr_cc {p : Int} : ∀ (W : WtZ) (r : Int × Int), csrZ 0 (cswZ p W) (csrZ p W r) = csrZ 0 W r := by sorry
theorem clM_0 {W : WtZ} {z : ZS} (h : W = []) : clM 0 W z = z := by sorry
abbrev Pz_closed : ((Int → Int) × (Nat → Nat) × (Nat → Nat) × (Nat → Nat) × (Nat → Nat) × ZS × Int × Int × Int × Int × Int) → CpC := fun y As σ => match y with
  | (N, E, A, B, V, z, sg, f, st, a, mq) => ∃ (p1 : Nat) (p2 : Nat), As = [.inr (.inr (some (E 0))), .inr (.inr (some p1)), .inr (.inr (some p2))] ∧ (ZC N E A B V σ z) ∧ ((p1 < cnC σ ∧ oprX (recZ 7 sg f 0 f (-1) 0 st a (-1) (-1) mq []) (xnM z) ∧ ∀ i, i < xnM z → A i ≠ p1) ∧ XbC A σ (recZ 7 sg f 0 f (-1) 0 st a (-1) (-1) mq []) p1 ∧ XiC N σ (recZ 7 sg f 0 f (-1) 0 st a (-1) (-1) mq []) p1) ∧ (0 < xnM z ∧ p2 = A (xnM z - 1))
abbrev Qz_closed : ((Int → Int) × (Nat → Nat) × (Nat → Nat) × (Nat → Nat) × (Nat → Nat) × ZS × Int × Int × Int × Int × Int) → CqC := fun y As σ w τ => match y, As with
  | (N, E, A, B, V, z, sg, f, st, a, mq), [_, .inr (.inr (some p1)), .inr (.inr (some p2))] => w = some (.inr (.inr (some p1))) ∧ ZC N E (upA A (xnM z) p1) B V τ (puM (chnZ sg f st a mq (xnM z) z.1) z) ∧ PoX p1 σ τ ∧ fRC τ p1 75 = none
  | _, _ => True
abbrev Uz_closed : CqC := fun As σ w τ => ∀ y, Pz_closed y As σ → Qz_closed y As σ w τ
set_option maxHeartbeats 4000000 in
theorem pz_closed (y : (Int → Int) × (Nat → Nat) × (Nat → Nat) × (Nat → Nat) × (Nat → Nat) × ZS × Int × Int × Int × Int × Int) : PbC KX7_closed [(161, TrP, EqC 161)] [(161, Uz_put)] (fun As σ => Pz_closed y As σ ∧ cnC σ ≤ 1000000 ∧ ∃ w τ, uqC quL 169 As σ w τ) (Qz_closed y) := by sorry
theorem wz_closed : ∀ (L : Nat) (As : List AvC) (σ : CsC) (w : Option AvC) (τ : CsC), EvF L 169 As σ w τ → Uz_closed As σ w τ := by sorry
abbrev Pz_waitingFor : ((Int → Int) × (Nat → Nat) × (Nat → Nat) × (Nat → Nat) × (Nat → Nat) × ZS × Nat × Int × Int) → CpC := fun y As σ => match y with
  | (N, E, A, B, V, z, ai, f, st) => ∃ (p1 : Int32) (p2 : Nat) (p3 : Option Nat), As = [.inr (.inr (some (E 0))), .inl p1, .inr (.inr (some p2)), .inr (.inr p3)] ∧ (ZC N E A B V σ z) ∧ (p1.toInt = codY z.1) ∧ (ai < xnM z ∧ p2 = A ai) ∧ ((fIC σ p2 62).toInt = f ∧ (fIC σ p2 63).toInt = st) ∧ ((xnM z : Int) ≥ 0)
abbrev Qz_waitingFor : ((Int → Int) × (Nat → Nat) × (Nat → Nat) × (Nat → Nat) × (Nat → Nat) × ZS × Nat × Int × Int) → CqC := fun y As σ w τ => match y, As with
  | (N, E, A, B, V, z, ai, f, st), [_, .inl p1, .inr (.inr (some p2)), .inr (.inr p3)] => w = some (.inr (.inr (some (cnC σ)))) ∧ ∃ A2 : Nat → Nat, ZC N E A2 B V τ (fkM z) ∧ FzC (cnC σ) (xnM z) E A A2 B B V V z (fkM z) σ τ ∧ LsX N A2 (cnC σ) τ (fkM z) [(cnC σ, recZ 7 (codY z.1) f 0 f (-1) 0 st (ai : Int) (-1) (-1) (mkZ (xnM z) z.1) [], p3)]
  | _, _ => True
abbrev Uz_waitingFor : CqC := fun As σ w τ => ∀ y, Pz_waitingFor y As σ → Qz_waitingFor y As σ w τ
set_option maxHeartbeats 4000000 in
theorem pz_waitingFor (y : (Int → Int) × (Nat → Nat) × (Nat → Nat) × (Nat → Nat) × (Nat → Nat) × ZS × Nat × Int × Int) : PbC KX7_waitingFor [(17, TrP, EqC 17), (163, TrP, EqC 163)] [(17, Uz_Exp), (163, Uz_putMark)] (fun As σ => Pz_waitingFor y As σ ∧ cnC σ ≤ 1000000 ∧ ∃ w τ, uqC quL 168 As σ w τ) (Qz_waitingFor y) := by sorry
theorem wz_waitingFor : ∀ (L : Nat) (As : List AvC) (σ : CsC) (w : Option AvC) (τ : CsC), EvF L 168 As σ w τ → Uz_waitingFor As σ w τ := by sorry
theorem str_p {c : Int} : 0 < strZ c ↔ (20 ≤ c ∧ c ≤ 38) := by sorry
theorem WxX.nl {W : WtZ} {X : LoT} (h : WxX W none X) : W = [] ∧ X = [] := by sorry
theorem WxX.so {W : WtZ} {X : LoT} {b : Nat} (h : WxX W (some b) X) : ∃ sg f st a mq W2 nx X2, W = (sg, f, st, a, mq) :: W2 ∧ X = (b, recZ 7 sg f 0 f (-1) 0 st a (-1) (-1) mq [], nx) :: X2 ∧ WxX W2 nx X2 := by sorry
/-- what stands in a chain's loops -/
def ChR (N : Int → Int) (E A B V : Nat → Nat) (z : ZS) (σ : CsC) (υ : CsC) (Y : Nat → Nat) (v : ZS) (W : WtZ) (r : Int × Int) (X : LoT) (wp : Option Nat) (ro : Nat) : Prop :=
  (ZC N E Y B V υ v ∧ FzC (cnC σ) (xnM z) E A Y B B V V z v σ υ ∧ LsX N Y (cnC σ) υ v X) ∧ (WxX W wp X ∧ (∀ w ∈ W, (xnM z : Int) ≤ w.2.2.1)) ∧ (ro = Y (xnM v - 1) ∧ xnM z < xnM v) ∧ ((fIC υ ro 62).toInt = r.1 ∧ (fIC υ ro 63).toInt = r.2 ∧ fRC υ ro 75 = none) ∧ (csrZ 0 W r = rbM z ∧ (xnM z : Int) ≤ r.2) ∧ cnC σ ≤ cnC υ
/-- one that waits is closed -/
theorem ChR.cl {N : Int → Int} {E A B V : Nat → Nat} {z : ZS} {σ υ τ : CsC} {Y : Nat → Nat} {v : ZS} {sg f st a mq : Int} {W : WtZ} {r : Int × Int} {b ro : Nat} {nx : Option Nat} {X : LoT} (h : ChR N E A B V z σ υ Y v ((sg, f, st, a, mq) :: W) r ((b, recZ 7 sg f 0 f (-1) 0 st a (-1) (-1) mq [], nx) :: X) (some b) ro) (hw : WxX W nx X) (hZ : ZC N E (upA Y (xnM v) b) B V τ (puM (chnZ sg f st a mq (xnM v) v.1) v)) (hp : PoX b υ τ) (hn : fRC τ b 75 = none) : ChR N E A B V z σ τ (upA Y (xnM v) b) (puM (chnZ sg f st a mq (xnM v) v.1) v) W (f, st) X nx b := by sorry
set_option maxHeartbeats 4000000 in
theorem pz_readChain (y : (Int → Int) × (Nat → Nat) × (Nat → Nat) × (Nat → Nat) × (Nat → Nat) × ZS × Nat) : PbC KX7_readChain [(170, TrP, EqC 170), (125, TrP, EqC 125), (225, TrP, EqC 225), (168, TrP, EqC 168), (128, TrP, EqC 128), (169, TrP, EqC 169)] [(170, Uz_readOperand), (125, Uz_code), (225, Uz_strength), (168, Uz_waitingFor), (128, Uz_accept), (169, Uz_closed)] (fun As σ => Pz_readChain y As σ ∧ cnC σ ≤ 1000000 ∧ ∃ w τ, uqC quL 167 As σ w τ) (Qz_readChain y) := by sorry
/-! calls -/
theorem pR_m {σ : CsC} {o a k j : Nat} {w : Option Nat} (h : a ≠ o) : fRC (pRC σ o k w) a j = fRC σ a j := u2C_na h
theorem pR_k {σ : CsC} {o a k j : Nat} {w : Option Nat} (h : j ≠ k) : fRC (pRC σ o k w) a j = fRC σ a j := u2C_nk h
theorem pL_e {σ : CsC} {o k : Nat} {w : Int64} : fLC (pLC σ o k w) o k = w := u2C_eq
/-- what is next of a listed exp, that is no argument yet -/
theorem ZC.nx {N : Int → Int} {E A B V : Nat → Nat} {σ : CsC} {z : ZS} {p : Nat} {w : Option Nat} (h : ZC N E A B V σ z) (hp : p < xnM z) (ha : ∀ i, i < xnM z → ∀ a ∈ (xth z i).2.2.2, a ≠ (p : Int)) : ZC N E A B V (pRC σ (A p) 75 w) z := by sorry
theorem FzC.ob {n m : Nat} {E A A' B B' V V' : Nat → Nat} {z z' : ZS} {σ τ υ : CsC} {o : Nat} (h : FzC n m E A A' B B' V V' z z' σ τ) (f : XfE τ υ) (ha : ∀ a, a ≠ o → ∀ k, fIC υ a k = fIC τ a k ∧ fLC υ a k = fLC τ a k ∧ fRC υ a k = fRC τ a k) (hn : n ≤ o) : FzC n m E A A' B B' V V' z z' σ υ := by sorry
/-- one argument more -/
theorem ChC.ap {A : Nat → Nat} {σ : CsC} {p q : Int} : ∀ {l : List Int}, ChC A σ (l ++ [p]) → (∀ a ∈ l, A a.toNat ≠ A p.toNat) → A q.toNat ≠ A p.toNat → fRC σ (A q.toNat) 75 = none → ChC A (pRC σ (A p.toNat) 75 (some (A q.toNat))) (l ++ [p] ++ [q]) := by sorry
/-- what stands in a call's loop -/
def CaR (N : Int → Int) (E A B V : Nat → Nat) (z : ZS) (σ : CsC) (o : Nat) (υ : CsC) (Y : Nat → Nat) (v : ZS) (l : List Int) (lo : Nat) : Prop :=
  (ZC N E Y B V υ v ∧ FzC (cnC σ) (xnM z) E A Y B B V V z v σ υ ∧ LsX N Y (cnC σ) υ v [(o, recZ 10 0 (zAt z.1) 0 (zAt z.1) (-1) 0 (xnM z) ((l ++ [(xnM v : Int) - 1]).headD (-1)) (-1) (-1) (-1) [], none)]) ∧ (ChC Y υ (l ++ [(xnM v : Int) - 1]) ∧ ∀ a ∈ l, (xnM z : Int) ≤ a ∧ a < (xnM v : Int) - 1) ∧ (lo = Y (xnM v - 1) ∧ xnM z < xnM v) ∧ cnC σ ≤ cnC υ
theorem hd_ap {l : List Int} {p q d : Int} : (l ++ [p] ++ [q]).headD d = (l ++ [p]).headD d := by sorry
/-- one argument more is read -/
theorem CaR.nx {N : Int → Int} {E A B V Y Y2 : Nat → Nat} {z v v2 : ZS} {σ υ τ τ2 : CsC} {o lo : Nat} {l : List Int} (h : CaR N E A B V z σ o υ Y v l lo) (f1 : FzC (cnC υ) (xnM v) E Y Y B B V V v (accM v) υ τ) (hZ2 : ZC N E Y2 B V τ2 v2) (f2 : FzC (cnC τ) (xnM (accM v)) E Y Y2 B B V V (accM v) v2 τ τ2) (ht : TpX τ2 (Y2 (xnM v2 - 1)) (accM v)) (hx : xnM v < xnM v2) : CaR N E A B V z σ o (pRC τ2 lo 75 (some (Y2 (xnM v2 - 1)))) Y2 v2 (l ++ [(xnM v : Int) - 1]) (Y2 (xnM v2 - 1)) := by sorry
theorem XbC.c2 {A : Nat → Nat} {σ τ : CsC} {x : XrZ} {o : Nat} (h : XbC A σ x o) (f : ∀ k, 60 ≤ k ∧ k ≤ 77 → k ≠ 68 → k ≠ 70 → k ≠ 71 → fIC τ o k = fIC σ o k ∧ fRC τ o k = fRC σ o k) : XbC A τ x o := by sorry
theorem rL_a {σ : CsC} {o k : Nat} {v : Int64} : ∀ a, a ≠ o → ∀ j, fIC (pLC σ o k v) a j = fIC σ a j ∧ fLC (pLC σ o k v) a j = fLC σ a j ∧ fRC (pLC σ o k v) a j = fRC σ a j := fun a ha j => ⟨rfl, u2C_na ha, rfl⟩
set_option maxHeartbeats 4000000 in
theorem pz_readLiteral (y : (Int → Int) × (Nat → Nat) × (Nat → Nat) × (Nat → Nat) × (Nat → Nat) × ZS) : PbC KX7_readLiteral [(125, TrP, EqC 125), (162, TrP, EqC 162), (128, TrP, EqC 128), (161, TrP, EqC 161)] [(125, Uz_code), (162, Uz_opened), (128, Uz_accept), (161, Uz_put)] (fun As σ => Pz_readLiteral y As σ ∧ cnC σ ≤ 1000000 ∧ ∃ w τ, uqC quL 177 As σ w τ) (Qz_readLiteral y) := by sorry
theorem wz_readLiteral : ∀ (L : Nat) (As : List AvC) (σ : CsC) (w : Option AvC) (τ : CsC), EvF L 177 As σ w τ → Uz_readLiteral As σ w τ := by sorry
set_option maxHeartbeats 4000000 in
theorem pz_readCall (y : (Int → Int) × (Nat → Nat) × (Nat → Nat) × (Nat → Nat) × (Nat → Nat) × ZS × Nat) : PbC KX7_readCall [(162, TrP, EqC 162), (128, TrP, EqC 128), (131, TrP, EqC 131), (125, TrP, EqC 125), (129, TrP, EqC 129), (161, TrP, EqC 161), (164, TrP, EqC 164), (130, TrP, EqC 130)] [(162, Uz_opened), (128, Uz_accept), (131, Uz_isTooDeep), (125, Uz_code), (129, Uz_expect), (161, Uz_put), (164, Uz_readExp), (130, Uz_takes)] (fun As σ => Pz_readCall y As σ ∧ cnC σ ≤ 1000000 ∧ ∃ w τ, uqC quL 176 As σ w τ) (Qz_readCall y) := by sorry
theorem recX : ∀ L : Nat, (∀ (As : List AvC) (σ : CsC) (w : Option AvC) (τ : CsC), EvF L 164 As σ w τ → Uz_readExp As σ w τ) ∧ (∀ (As : List AvC) (σ : CsC) (w : Option AvC) (τ : CsC), EvF L 166 As σ w τ → Uz_readChoice As σ w τ) ∧ (∀ (As : List AvC) (σ : CsC) (w : Option AvC) (τ : CsC), EvF L 165 As σ w τ → Uz_readAssignment As σ w τ) ∧ (∀ (As : List AvC) (σ : CsC) (w : Option AvC) (τ : CsC), EvF L 167 As σ w τ → Uz_readChain As σ w τ) ∧ (∀ (As : List AvC) (σ : CsC) (w : Option AvC) (τ : CsC), EvF L 170 As σ w τ → Uz_readOperand As σ w τ) ∧ (∀ (As : List AvC) (σ : CsC) (w : Option AvC) (τ : CsC), EvF L 171 As σ w τ → Uz_readInnerOperand As σ w τ) ∧ (∀ (As : List AvC) (σ : CsC) (w : Option AvC) (τ : CsC), EvF L 172 As σ w τ → Uz_readAlone As σ w τ) ∧ (∀ (As : List AvC) (σ : CsC) (w : Option AvC) (τ : CsC), EvF L 174 As σ w τ → Uz_readBehindOpen As σ w τ) ∧ (∀ (As : List AvC) (σ : CsC) (w : Option AvC) (τ : CsC), EvF L 175 As σ w τ → Uz_readName As σ w τ) ∧ (∀ (As : List AvC) (σ : CsC) (w : Option AvC) (τ : CsC), EvF L 176 As σ w τ → Uz_readCall As σ w τ) := by sorry
theorem wz_readExp (L : Nat) : ∀ (As : List AvC) (σ : CsC) (w : Option AvC) (τ : CsC), EvF L 164 As σ w τ → Uz_readExp As σ w τ := (recX L).1
theorem wz_readChoice (L : Nat) : ∀ (As : List AvC) (σ : CsC) (w : Option AvC) (τ : CsC), EvF L 166 As σ w τ → Uz_readChoice As σ w τ := (recX L).2.1
theorem wz_readAssignment (L : Nat) : ∀ (As : List AvC) (σ : CsC) (w : Option AvC) (τ : CsC), EvF L 165 As σ w τ → Uz_readAssignment As σ w τ := (recX L).2.2.1
theorem wz_readChain (L : Nat) : ∀ (As : List AvC) (σ : CsC) (w : Option AvC) (τ : CsC), EvF L 167 As σ w τ → Uz_readChain As σ w τ := (recX L).2.2.2.1
theorem wz_readOperand (L : Nat) : ∀ (As : List AvC) (σ : CsC) (w : Option AvC) (τ : CsC), EvF L 170 As σ w τ → Uz_readOperand As σ w τ := (recX L).2.2.2.2.1
theorem wz_readInnerOperand (L : Nat) : ∀ (As : List AvC) (σ : CsC) (w : Option AvC) (τ : CsC), EvF L 171 As σ w τ → Uz_readInnerOperand As σ w τ := (recX L).2.2.2.2.2.1
theorem wz_readAlone (L : Nat) : ∀ (As : List AvC) (σ : CsC) (w : Option AvC) (τ : CsC), EvF L 172 As σ w τ → Uz_readAlone As σ w τ := (recX L).2.2.2.2.2.2.1
theorem wz_readBehindOpen (L : Nat) : ∀ (As : List AvC) (σ : CsC) (w : Option AvC) (τ : CsC), EvF L 174 As σ w τ → Uz_readBehindOpen As σ w τ := (recX L).2.2.2.2.2.2.2.1
theorem wz_readName (L : Nat) : ∀ (As : List AvC) (σ : CsC) (w : Option AvC) (τ : CsC), EvF L 175 As σ w τ → Uz_readName As σ w τ := (recX L).2.2.2.2.2.2.2.2.1
theorem wz_readCall (L : Nat) : ∀ (As : List AvC) (σ : CsC) (w : Option AvC) (τ : CsC), EvF L 176 As σ w τ → Uz_readCall As σ w τ := (recX L).2.2.2.2.2.2.2.2.2
/-! S's -/
theorem fI_pL {σ : CsC} {o k : Nat} {v : Int64} : fIC (pLC σ o k v) = fIC σ := rfl
theorem fI_pR {σ : CsC} {o k : Nat} {v : Option Nat} : fIC (pRC σ o k v) = fIC σ := rfl
theorem fL_pI {σ : CsC} {o k : Nat} {v : Int32} : fLC (pIC σ o k v) = fLC σ := rfl
theorem fL_pR {σ : CsC} {o k : Nat} {v : Option Nat} : fLC (pRC σ o k v) = fLC σ := rfl
theorem fR_pI {σ : CsC} {o k : Nat} {v : Int32} : fRC (pIC σ o k v) = fRC σ := rfl
theorem fR_pL {σ : CsC} {o k : Nat} {v : Int64} : fRC (pLC σ o k v) = fRC σ := rfl
theorem fL_pL {σ : CsC} {o k a j : Nat} {v : Int64} (h : j ≠ k ∨ a ≠ o) : fLC (pLC σ o k v) a j = fLC σ a j := h.elim (fun q => u2C_nk q) (fun q => u2C_na q)
theorem fL_pLs {σ : CsC} {o k : Nat} {v : Int64} : fLC (pLC σ o k v) o k = v := u2C_eq
theorem tg_nO {σ : CsC} {t M g a : Nat} (h : a ≠ cnC σ) : tgC (nOC σ t M g) a = tgC σ a := by sorry
/-- an S is new -/
def InS (p0 : Nat) (k f lv : Int32) (pa : Option Nat) (kn : Int64) (σ τ : CsC) : Prop := (∀ a, a ≠ p0 → ∀ j, fIC τ a j = fIC σ a j ∧ fLC τ a j = fLC σ a j ∧ fRC τ a j = fRC σ a j) ∧ (eIC τ = eIC σ ∧ eLC τ = eLC σ ∧ eRC τ = eRC σ) ∧ cnC τ = cnC σ ∧ (fIC τ p0 270 = k ∧ fIC τ p0 271 = f ∧ fIC τ p0 272 = lv ∧ fRC τ p0 273 = pa ∧ fLC τ p0 274 = kn) ∧ ((fIC τ p0 280).toInt = -1 ∧ fLC τ p0 287 = -1 ∧ fLC τ p0 288 = -1) ∧ (∀ j, j ≠ 273 → fRC τ p0 j = fRC σ p0 j) ∧ ∀ j, 281 ≤ j → fIC τ p0 j = fIC σ p0 j
/-- a variable is new -/
def InV (p0 : Nat) (t ty f m : Int32) (σ τ : CsC) : Prop := (∀ a, a ≠ p0 → ∀ j, fIC τ a j = fIC σ a j) ∧ (fLC τ = fLC σ ∧ fRC τ = fRC σ) ∧ (eIC τ = eIC σ ∧ eLC τ = eLC σ ∧ eRC τ = eRC σ) ∧ cnC τ = cnC σ ∧ (fIC τ p0 330 = t ∧ fIC τ p0 331 = ty ∧ fIC τ p0 332 = f ∧ fIC τ p0 333 = m ∧ fIC τ p0 335 = fIC σ p0 335)
abbrev Pz_Statement : ((Int → Int) × (Nat → Nat) × (Nat → Nat) × (Nat → Nat) × (Nat → Nat) × ZS) → CpC := fun y As σ => match y with
  | (N, E, A, B, V, z) => ∃ (p0 : Nat) (p1 : Int32) (p2 : Int32) (p3 : Int32) (p4 : Option Nat) (p5 : Int64), As = [.inr (.inr (some p0)), .inl p1, .inl p2, .inl p3, .inr (.inr p4), .inr (.inl p5)]
abbrev Qz_Statement : ((Int → Int) × (Nat → Nat) × (Nat → Nat) × (Nat → Nat) × (Nat → Nat) × ZS) → CqC := fun y As σ w τ => match y, As with
  | (N, E, A, B, V, z), [.inr (.inr (some p0)), .inl p1, .inl p2, .inl p3, .inr (.inr p4), .inr (.inl p5)] => w = none ∧ InS p0 p1 p2 p3 p4 p5 σ τ
  | _, _ => True
abbrev Uz_Statement : CqC := fun As σ w τ => ∀ y, Pz_Statement y As σ → Qz_Statement y As σ w τ
set_option maxHeartbeats 4000000 in
theorem pz_Statement (y : (Int → Int) × (Nat → Nat) × (Nat → Nat) × (Nat → Nat) × (Nat → Nat) × ZS) : PbC KX8_init [] [] (fun As σ => Pz_Statement y As σ ∧ cnC σ ≤ 1000000 ∧ ∃ w τ, uqC quL 178 As σ w τ) (Qz_Statement y) := by sorry
theorem wz_Statement : ∀ (L : Nat) (As : List AvC) (σ : CsC) (w : Option AvC) (τ : CsC), EvF L 178 As σ w τ → Uz_Statement As σ w τ := by sorry
abbrev Pz_Variable : ((Int → Int) × (Nat → Nat) × (Nat → Nat) × (Nat → Nat) × (Nat → Nat) × ZS) → CpC := fun y As σ => match y with
  | (N, E, A, B, V, z) => ∃ (p0 : Nat) (p1 : Int32) (p2 : Int32) (p3 : Int32) (p4 : Int32), As = [.inr (.inr (some p0)), .inl p1, .inl p2, .inl p3, .inl p4]
abbrev Qz_Variable : ((Int → Int) × (Nat → Nat) × (Nat → Nat) × (Nat → Nat) × (Nat → Nat) × ZS) → CqC := fun y As σ w τ => match y, As with
  | (N, E, A, B, V, z), [.inr (.inr (some p0)), .inl p1, .inl p2, .inl p3, .inl p4] => w = none ∧ InV p0 p1 p2 p3 p4 σ τ
  | _, _ => True
abbrev Uz_Variable : CqC := fun As σ w τ => ∀ y, Pz_Variable y As σ → Qz_Variable y As σ w τ
set_option maxHeartbeats 4000000 in
theorem pz_Variable (y : (Int → Int) × (Nat → Nat) × (Nat → Nat) × (Nat → Nat) × (Nat → Nat) × ZS) : PbC KX10_init [] [] (fun As σ => Pz_Variable y As σ ∧ cnC σ ≤ 1000000 ∧ ∃ w τ, uqC quL 199 As σ w τ) (Qz_Variable y) := by sorry
theorem wz_Variable : ∀ (L : Nat) (As : List AvC) (σ : CsC) (w : Option AvC) (τ : CsC), EvF L 199 As σ w τ → Uz_Variable As σ w τ := by sorry
/-- the S that begins -/
def beX (k lv : Int) (z : ZS) : SrZ := ((k, zAt z.1, lv, z.2.2.2.1.2), z.2.2.2.1.1, (-1, -1, -1, -1, -1, -1, (z.2.2.2.2.2.2 : Int)))
theorem beX_o {k lv : Int} {z : ZS} {n : Nat} (h : z.2.2.2.1.2 < (snM z : Int)) : oprS (beX k lv z) n (snM z) := by sorry
theorem SoC.nw {N : Int → Int} {E A B V : Nat → Nat} {σ s τ : CsC} {z : ZS} {t M g : Nat} {k lv : Int} {p1 p2 p3 : Int32} {p4 : Option Nat} {p5 : Int64} (h : ZC N E A B V σ z) (hs : nOC σ t M g = s) (i : InS (cnC σ) p1 p2 p3 p4 p5 s τ) (e1 : p1.toInt = k) (e2 : p2.toInt = zAt z.1) (e3 : p3.toInt = lv) (e4 : p4 = fRC s (E 0) 246) (e5 : p5 = fLC s (E 0) 245) : SoC A B τ (beX k lv z) (cnC σ) := by sorry
theorem ZC.be {N : Int → Int} {E A B V : Nat → Nat} {σ τ : CsC} {z : ZS} {x : SrZ} {o : Nat} (h : ZC N E A B V σ z) (f : PoX o σ τ) (ho : cnC σ ≤ o) (hx : SoC A B τ x o) (hp : oprS x (xnM z) (snM z)) (l1 : LiC τ (E 213) (xnM z) A) (l2 : LiC τ (E 214) (snM z + 1) (upA B (snM z) o)) (l3 : LiC τ (E 212) (zVs z.1).length V) (l4 : LiC τ (E 211) (zMs z.1).length (fun k => E (1000 + k))) : ZC N E A (upA B (snM z) o) V τ (z.1, z.2.1, (snM z + 1, upS z.2.2.1.2 (snM z) x), z.2.2.2) := by sorry
theorem FzC.be {n m : Nat} {E A B V : Nat → Nat} {z : ZS} {x : SrZ} {o : Nat} {σ τ : CsC} (f : PoX o σ τ) (hn : n ≤ o) (hc : n ≤ cnC σ) (h3 : E 303 < cnC σ) : FzC n m E A A B (upA B (snM z) o) V V z (z.1, z.2.1, (snM z + 1, upS z.2.2.1.2 (snM z) x), z.2.2.2) σ τ := by sorry
/-- a list grows -/
theorem LiC.ad {σ τ : CsC} {a o n : Nat} {A : Nat → Nat} (h : LiC σ a n A) (h1 : (fIC τ a 2).toInt = (fIC σ a 2).toInt + 1) (h3 : AeC a o σ τ) (hc : cnC σ ≤ cnC τ) (ho : o < cnC τ) : LiC τ a (n + 1) (upA A n o) := by sorry
theorem LiC.ao {σ τ : CsC} {a b o n : Nat} {A : Nat → Nat} (h : LiC σ b n A) (h2 : ∀ c, c ≠ a → fIC τ c 2 = fIC σ c 2) (h3 : AeC a o σ τ) (hb : b < cnC σ) (ht : tgC σ b = 0) (hn : b ≠ a) (hc : cnC σ ≤ cnC τ) : LiC τ b n A := by sorry
abbrev Pz_begin : ((Int → Int) × (Nat → Nat) × (Nat → Nat) × (Nat → Nat) × (Nat → Nat) × ZS × Int × Int) → CpC := fun y As σ => match y with
  | (N, E, A, B, V, z, k, lv) => ∃ (p1 : Int32) (p2 : Int32), As = [.inr (.inr (some (E 0))), .inl p1, .inl p2] ∧ (ZC N E A B V σ z) ∧ (p1.toInt = k) ∧ (p2.toInt = lv)
abbrev Qz_begin : ((Int → Int) × (Nat → Nat) × (Nat → Nat) × (Nat → Nat) × (Nat → Nat) × ZS × Int × Int) → CqC := fun y As σ w τ => match y, As with
  | (N, E, A, B, V, z, k, lv), [_, .inl p1, .inl p2] => w = some (.inr (.inr (some (cnC σ)))) ∧ ZC N E A (upA B (snM z) (cnC σ)) V τ (beM k lv z) ∧ FzC (cnC σ) (xnM z) E A A B (upA B (snM z) (cnC σ)) V V z (beM k lv z) σ τ
  | _, _ => True
abbrev Uz_begin : CqC := fun As σ w τ => ∀ y, Pz_begin y As σ → Qz_begin y As σ w τ
set_option maxHeartbeats 4000000 in
theorem pz_begin (y : (Int → Int) × (Nat → Nat) × (Nat → Nat) × (Nat → Nat) × (Nat → Nat) × ZS × Int × Int) : PbC KX7_begin [(178, TrP, EqC 178), (236, TrP, EqC 236)] [(178, Uz_Statement)] (fun As σ => Pz_begin y As σ ∧ cnC σ ≤ 1000000 ∧ ∃ w τ, uqC quL 142 As σ w τ) (Qz_begin y) := by sorry
theorem wz_begin : ∀ (L : Nat) (As : List AvC) (σ : CsC) (w : Option AvC) (τ : CsC), EvF L 142 As σ w τ → Uz_begin As σ w τ := by sorry
/-! variables -/
theorem bit_b {y : Int32} {v : Nat} (hy : y.toInt = (v : Int)) (hv : v < 64) (j : Nat) (hj : j < 64) : ((Int64.ofNat ((1 : Fin 2) : Nat)) <<< (y.toInt64 &&& 63)).toBitVec.getLsbD j = decide (j = v) := by sorry
theorem KbC.cn {x y : Int64} {l : List (Int × Int)} {v : Nat} {t : Int} (h : KbC x l) (hb : ∀ j, j < 64 → y.toBitVec.getLsbD j = decide (j = v)) : KbC (x ||| y) (((v : Int), t) :: l) := by sorry
theorem dcl_nz {ty f h : Int} {s : SpC} (q : zFt (dclY ty f h s) = 0) : (codY s = 80 ∧ ¬ h = 0 ∧ (zVs s).length < 60) ∧ zFt s = 0 ∧ dclY ty f h s = accY (vadY ty f s) ∧ zFt (accY (vadY ty f s)) = 0 := by sorry
/-- a variable more, before its NAME is passed -/
def vaZ (N : Int → Int) (ty f : Int) (z : ZS) : ZS := (vadY ty f z.1, z.2.1, z.2.2.1, z.2.2.2.1, (z.2.2.2.2.1, fun k => if k = (zVs z.1).length then (if 0 ≤ lkM N z (zAt z.1) then 1 else 0) else z.2.2.2.2.2.1 k, z.2.2.2.2.2.2))
/-- declared, not known yet -/
def dc0M (N : Int → Int) (ty f h : Int) (z : ZS) : ZS := (dclY ty f h z.1, z.2.1, z.2.2.1, z.2.2.2.1, (z.2.2.2.2.1, fun k => if k = (zVs z.1).length then (if 0 ≤ lkM N z (zAt z.1) then 1 else 0) else z.2.2.2.2.2.1 k, z.2.2.2.2.2.2))
def knM (v : Nat) (t : Int) (z : ZS) : ZS := (z.1, z.2.1, z.2.2.1, (((v : Int), t) :: z.2.2.2.1.1, z.2.2.2.1.2), z.2.2.2.2)
theorem dc_kn {N : Int → Int} {ty f h : Int} {z : ZS} : dcM N ty f h z = knM (zVs z.1).length (zAt z.1) (dc0M N ty f h z) := rfl
theorem vth_o {ty f : Int} {s : SpC} {v : Nat} (h : v < (zVs s).length) : vth (vadY ty f s) v = vth s v := by sorry
theorem vth_n {ty f : Int} {s : SpC} : vth (vadY ty f s) (zVs s).length = (zAt s, ty, f, ((zMs s).length : Int) - 1) := by sorry
theorem ZC.va {N : Int → Int} {E A B V : Nat → Nat} {σ τ : CsC} {z : ZS} {ty f : Int} {o : Nat} (h : ZC N E A B V σ z) (F : PoX o σ τ) (ho : cnC σ ≤ o) (hx : VrC τ (zAt z.1, ty, f, ((zMs z.1).length : Int) - 1) (if 0 ≤ lkM N z (zAt z.1) then 1 else 0) o) (hl : (zVs z.1).length < 60) (l1 : LiC τ (E 213) (xnM z) A) (l2 : LiC τ (E 214) (snM z) B) (l3 : LiC τ (E 212) ((zVs z.1).length + 1) (upA V (zVs z.1).length o)) (l4 : LiC τ (E 211) (zMs z.1).length (fun k => E (1000 + k))) : ZC N E A B (upA V (zVs z.1).length o) τ (vaZ N ty f z) := by sorry
theorem FzC.va {n m : Nat} {N : Int → Int} {E A B V : Nat → Nat} {z : ZS} {ty f : Int} {o : Nat} {σ τ : CsC} (F : PoX o σ τ) (hn : n ≤ o) (hc : n ≤ cnC σ) (h3 : E 303 < cnC σ) : FzC n m E A A B B V (upA V (zVs z.1).length o) z (vaZ N ty f z) σ τ := by sorry
/-- what is known changes -/
theorem ZC.kn {N : Int → Int} {E A B V : Nat → Nat} {σ : CsC} {z z' : ZS} {x : Int64} (h : ZC N E A B V σ z) (e : z'.1 = z.1 ∧ z'.2.1 = z.2.1 ∧ z'.2.2.1 = z.2.2.1) (e2 : z'.2.2.2.1.2 = z.2.2.2.1.2 ∧ z'.2.2.2.2.2.1 = z.2.2.2.2.2.1) (hx : KbC x z'.2.2.2.1.1) (hk : ∀ q ∈ z'.2.2.2.1.1, 0 ≤ q.1 ∧ q.1 < ((zVs z.1).length : Int) ∧ q.2 = (vth z.1 q.1.toNat).1) (hp : List.Pairwise (fun a b => b.1 < a.1) z'.2.2.2.1.1) : ZC N E A B V (pLC σ (E 0) 245 x) z' := by sorry
theorem FzC.kn {n m : Nat} {E A A' B B' V V' : Nat → Nat} {y z z' : ZS} {σ τ : CsC} {x : Int64} (h : FzC n m E A A' B B' V V' y z σ τ) (e : z'.1 = z.1 ∧ z'.2.1 = z.2.1 ∧ z'.2.2.1 = z.2.2.1) : FzC n m E A A' B B' V V' y z' σ (pLC τ (E 0) 245 x) := by sorry
abbrev Pz_bit : ((Int → Int) × (Nat → Nat) × (Nat → Nat) × (Nat → Nat) × (Nat → Nat) × ZS × Nat) → CpC := fun y As σ => match y with
  | (N, E, A, B, V, z, v) => ∃ (p0 : Int32), As = [.inl p0] ∧ (p0.toInt = (v : Int)) ∧ (v < 64)
abbrev Qz_bit : ((Int → Int) × (Nat → Nat) × (Nat → Nat) × (Nat → Nat) × (Nat → Nat) × ZS × Nat) → CqC := fun y As σ w τ => match y, As with
  | (N, E, A, B, V, z, v), [.inl p0] => ∃ r : Int64, w = some (.inr (.inl r)) ∧ (∀ j, j < 64 → r.toBitVec.getLsbD j = decide (j = v)) ∧ σ = τ
  | _, _ => True
abbrev Uz_bit : CqC := fun As σ w τ => ∀ y, Pz_bit y As σ → Qz_bit y As σ w τ
set_option maxHeartbeats 4000000 in
theorem pz_bit (y : (Int → Int) × (Nat → Nat) × (Nat → Nat) × (Nat → Nat) × (Nat → Nat) × ZS × Nat) : PbC KX11_bit [] [] (fun As σ => Pz_bit y As σ ∧ cnC σ ≤ 1000000 ∧ ∃ w τ, uqC quL 222 As σ w τ) (Qz_bit y) := by sorry
theorem wz_bit : ∀ (L : Nat) (As : List AvC) (σ : CsC) (w : Option AvC) (τ : CsC), EvF L 222 As σ w τ → Uz_bit As σ w τ := by sorry
abbrev Pz_know : ((Int → Int) × (Nat → Nat) × (Nat → Nat) × (Nat → Nat) × (Nat → Nat) × ZS × Nat) → CpC := fun y As σ => match y with
  | (N, E, A, B, V, z, v) => ∃ (p1 : Int32), As = [.inr (.inr (some (E 0))), .inl p1] ∧ (ZC N E A B V σ z) ∧ (p1.toInt = (v : Int)) ∧ (v < (zVs z.1).length ∧ ∀ q ∈ z.2.2.2.1.1, q.1 < (v : Int))
abbrev Qz_know : ((Int → Int) × (Nat → Nat) × (Nat → Nat) × (Nat → Nat) × (Nat → Nat) × ZS × Nat) → CqC := fun y As σ w τ => match y, As with
  | (N, E, A, B, V, z, v), [_, .inl p1] => w = none ∧ ZC N E A B V τ (knM v (vth z.1 v).1 z) ∧ FzC (cnC σ) (xnM z) E A A B B V V z (knM v (vth z.1 v).1 z) σ τ
  | _, _ => True
abbrev Uz_know : CqC := fun As σ w τ => ∀ y, Pz_know y As σ → Qz_know y As σ w τ
set_option maxHeartbeats 4000000 in
theorem pz_know (y : (Int → Int) × (Nat → Nat) × (Nat → Nat) × (Nat → Nat) × (Nat → Nat) × ZS × Nat) : PbC KX7_know [(222, TrP, EqC 222)] [(222, Uz_bit)] (fun As σ => Pz_know y As σ ∧ cnC σ ≤ 1000000 ∧ ∃ w τ, uqC quL 138 As σ w τ) (Qz_know y) := by sorry
theorem wz_know : ∀ (L : Nat) (As : List AvC) (σ : CsC) (w : Option AvC) (τ : CsC), EvF L 138 As σ w τ → Uz_know As σ w τ := by sorry
abbrev Pz_declare : ((Int → Int) × (Nat → Nat) × (Nat → Nat) × (Nat → Nat) × (Nat → Nat) × ZS × Int × Int × Int) → CpC := fun y As σ => match y with
  | (N, E, A, B, V, z, ty, f, h) => ∃ (p1 : Int32) (p2 : Int32) (p3 : Int32), As = [.inr (.inr (some (E 0))), .inl p1, .inl p2, .inl p3] ∧ (ZC N E A B V σ z) ∧ (p1.toInt = ty) ∧ (p2.toInt = f) ∧ (p3.toInt = h) ∧ (zFt (dclY ty f h z.1) = 0)
abbrev Qz_declare : ((Int → Int) × (Nat → Nat) × (Nat → Nat) × (Nat → Nat) × (Nat → Nat) × ZS × Int × Int × Int) → CqC := fun y As σ w τ => match y, As with
  | (N, E, A, B, V, z, ty, f, h), [_, .inl p1, .inl p2, .inl p3] => ∃ r, w = some (.inl r) ∧ r.toInt = ((zVs z.1).length : Int) ∧ ZC N E A B (upA V (zVs z.1).length (cnC σ)) τ (dc0M N ty f h z) ∧ FzC (cnC σ) (xnM z) E A A B B V (upA V (zVs z.1).length (cnC σ)) z (dc0M N ty f h z) σ τ
  | _, _ => True
abbrev Uz_declare : CqC := fun As σ w τ => ∀ y, Pz_declare y As σ → Qz_declare y As σ w τ
set_option maxHeartbeats 4000000 in
theorem pz_declare (y : (Int → Int) × (Nat → Nat) × (Nat → Nat) × (Nat → Nat) × (Nat → Nat) × ZS × Int × Int × Int) : PbC KX7_declare [(234, TrP, EqC 234), (125, TrP, EqC 125), (127, TrP, EqC 127), (199, TrP, EqC 199), (139, TrP, EqC 139), (236, TrP, EqC 236), (128, TrP, EqC 128)] [(125, Uz_code), (199, Uz_Variable), (139, Uz_lookUp), (128, Uz_accept)] (fun As σ => Pz_declare y As σ ∧ cnC σ ≤ 1000000 ∧ ∃ w τ, uqC quL 137 As σ w τ) (Qz_declare y) := by sorry
theorem wz_declare : ∀ (L : Nat) (As : List AvC) (σ : CsC) (w : Option AvC) (τ : CsC), EvF L 137 As σ w τ → Uz_declare As σ w τ := by sorry
/-! S's: what is put into them -/
/-- fields of one S alone have changed -/
def SfE (o : Nat) (σ τ : CsC) : Prop := (∀ a k, (a ≠ o ∨ ¬ (270 ≤ k ∧ k ≤ 290)) → fIC τ a k = fIC σ a k ∧ fLC τ a k = fLC σ a k ∧ fRC τ a k = fRC σ a k) ∧ (eIC τ = eIC σ ∧ eLC τ = eLC σ ∧ eRC τ = eRC σ) ∧ cnC τ = cnC σ
theorem SfE.pR {o k : Nat} {v : Option Nat} {σ : CsC} (h : 270 ≤ k ∧ k ≤ 290) : SfE o σ (pRC σ o k v) := by sorry
theorem SfE.pI {o k : Nat} {v : Int32} {σ : CsC} (h : 270 ≤ k ∧ k ≤ 290) : SfE o σ (pIC σ o k v) := by sorry
theorem seM_e {j : Nat} {f : SrZ → SrZ} {z : ZS} : reS (seM j f z) j = f (reS z j) := if_pos rfl
theorem seM_n {j i : Nat} {f : SrZ → SrZ} {z : ZS} (h : i ≠ j) : reS (seM j f z) i = reS z i := if_neg h
theorem ZC.se {N : Int → Int} {E A B V : Nat → Nat} {σ τ : CsC} {z : ZS} {j o : Nat} {f : SrZ → SrZ} (h : ZC N E A B V σ z) (hj : j < snM z) (hb : B j = o) (F : SfE o σ τ) (hs : SoC A B τ (f (reS z j)) o) (ho : oprS (f (reS z j)) (xnM z) (snM z)) : ZC N E A B V τ (seM j f z) := by sorry
theorem FzC.se {n m : Nat} {E A A' B B' V V' : Nat → Nat} {y z : ZS} {σ τ υ : CsC} {j o : Nat} {f : SrZ → SrZ} (h : FzC n m E A A' B B' V V' y z σ τ) (hn : n ≤ o) (F : SfE o τ υ) (hk : ∀ x, (f x).1 = x.1 ∧ (f x).2.1 = x.2.1) : FzC n m E A A' B B' V V' y (seM j f z) σ υ := by sorry
theorem beM_e {k lv : Int} {z : ZS} : reS (beM k lv z) (snM z) = beX k lv z := if_pos rfl
/-- codes are no matter of the class -/
theorem ZC.co {N : Int → Int} {E A B V : Nat → Nat} {σ : CsC} {z : ZS} {c : Int × Int × Int × Int × Int} (h : ZC N E A B V σ z) : ZC N E A B V σ (z.1, .inr c :: z.2.1, z.2.2) := h
theorem ZC.th {N : Int → Int} {E A B V : Nat → Nat} {σ : CsC} {z : ZS} (h : ZC N E A B V σ z) : ZC N E A B V σ (thM z) := h
theorem FzC.co {n m : Nat} {E A A' B B' V V' : Nat → Nat} {y z : ZS} {σ τ : CsC} {c : Int × Int × Int × Int × Int} (h : FzC n m E A A' B B' V V' y z σ τ) : FzC n m E A A' B B' V V' y (z.1, .inr c :: z.2.1, z.2.2) σ τ := h
theorem FzC.th {n m : Nat} {E A A' B B' V V' : Nat → Nat} {y z : ZS} {σ τ : CsC} (h : FzC n m E A A' B B' V V' y z σ τ) : FzC n m E A A' B B' V V' y (thM z) σ τ := h
/-- the S around -/
theorem ZC.ar {N : Int → Int} {E A B V : Nat → Nat} {σ : CsC} {z : ZS} {j : Int} {w : Option Nat} (h : ZC N E A B V σ z) (hw : w = opA B j) (hj : j < (snM z : Int)) : ZC N E A B V (pRC σ (E 0) 246 w) (arM j z) := by sorry
theorem FzC.ar {n m : Nat} {E A A' B B' V V' : Nat → Nat} {y z : ZS} {σ τ : CsC} {j : Int} {w : Option Nat} (h : FzC n m E A A' B B' V V' y z σ τ) : FzC n m E A A' B B' V V' y (arM j z) σ (pRC τ (E 0) 246 w) := by sorry
theorem ZC.s275 {N : Int → Int} {E A B V : Nat → Nat} {σ : CsC} {z : ZS} {j o : Nat} {v : Int} {w : Option Nat} (h : ZC N E A B V σ z) (hj : j < snM z) (hb : B j = o) (hw : w = opA B v) (hv : v < (snM z : Int)) : ZC N E A B V (pRC σ o 275 w) (seM j (sNx v) z) := by sorry
theorem ZC.s276 {N : Int → Int} {E A B V : Nat → Nat} {σ : CsC} {z : ZS} {j o : Nat} {v : Int} {w : Option Nat} (h : ZC N E A B V σ z) (hj : j < snM z) (hb : B j = o) (hw : w = opA B v) (hv : v < (snM z : Int)) : ZC N E A B V (pRC σ o 276 w) (seM j (sBd v) z) := by sorry
theorem ZC.s277 {N : Int → Int} {E A B V : Nat → Nat} {σ : CsC} {z : ZS} {j o : Nat} {v : Int} {w : Option Nat} (h : ZC N E A B V σ z) (hj : j < snM z) (hb : B j = o) (hw : w = opA B v) (hv : v < (snM z : Int)) : ZC N E A B V (pRC σ o 277 w) (seM j (sOt v) z) := by sorry
theorem ZC.s278 {N : Int → Int} {E A B V : Nat → Nat} {σ : CsC} {z : ZS} {j o : Nat} {v : Int} {w : Option Nat} (h : ZC N E A B V σ z) (hj : j < snM z) (hb : B j = o) (hw : w = opA B v) (hv : v < (snM z : Int)) : ZC N E A B V (pRC σ o 278 w) (seM j (sLs v) z) := by sorry
theorem ZC.s279 {N : Int → Int} {E A B V : Nat → Nat} {σ : CsC} {z : ZS} {j o : Nat} {v : Int} {w : Option Nat} (h : ZC N E A B V σ z) (hj : j < snM z) (hb : B j = o) (hw : w = opA A v) (hv : v < (xnM z : Int)) : ZC N E A B V (pRC σ o 279 w) (seM j (sEx v) z) := by sorry
theorem ZC.s280 {N : Int → Int} {E A B V : Nat → Nat} {σ : CsC} {z : ZS} {j o : Nat} {v : Int} {w : Int32} (h : ZC N E A B V σ z) (hj : j < snM z) (hb : B j = o) (hw : w.toInt = v) : ZC N E A B V (pIC σ o 280 w) (seM j (sLk v) z) := by sorry
abbrev SeQ (N : Int → Int) (E A B V : Nat → Nat) (z z' : ZS) (σ : CsC) (w : Option AvC) (τ : CsC) : Prop := ∃ A' B' V' : Nat → Nat, w = some (.inr (.inr (some (B' (snM z))))) ∧ ZC N E A' B' V' τ z' ∧ FzC (cnC σ) (xnM z) E A A' B B' V V' z z' σ τ ∧ snM z < snM z'
abbrev Pz_readExpStatement : ((Int → Int) × (Nat → Nat) × (Nat → Nat) × (Nat → Nat) × (Nat → Nat) × ZS × Nat) → CpC := fun y As σ => match y with
  | (N, E, A, B, V, z, n) => ∃ (p1 : Int32), As = [.inr (.inr (some (E 0))), .inl p1] ∧ (ZC N E A B V σ z) ∧ (p1.toInt + (n : Int) = 21) ∧ (1 ≤ n) ∧ (zFt (xsM N n z).1 = 0)
abbrev Qz_readExpStatement : ((Int → Int) × (Nat → Nat) × (Nat → Nat) × (Nat → Nat) × (Nat → Nat) × ZS × Nat) → CqC := fun y As σ w τ => match y, As with
  | (N, E, A, B, V, z, n), [_, .inl p1] => SeQ N E A B V z (xsM N n z) σ w τ
  | _, _ => True
abbrev Uz_readExpStatement : CqC := fun As σ w τ => ∀ y, Pz_readExpStatement y As σ → Qz_readExpStatement y As σ w τ
set_option maxHeartbeats 4000000 in
theorem pz_readExpStatement (y : (Int → Int) × (Nat → Nat) × (Nat → Nat) × (Nat → Nat) × (Nat → Nat) × ZS × Nat) : PbC KX7_readExpStatement [(142, TrP, EqC 142), (164, TrP, EqC 164), (129, TrP, EqC 129)] [(142, Uz_begin), (164, Uz_readExp), (129, Uz_expect)] (fun As σ => Pz_readExpStatement y As σ ∧ cnC σ ≤ 1000000 ∧ ∃ w τ, uqC quL 152 As σ w τ) (Qz_readExpStatement y) := by sorry
theorem wz_readExpStatement : ∀ (L : Nat) (As : List AvC) (σ : CsC) (w : Option AvC) (τ : CsC), EvF L 152 As σ w τ → Uz_readExpStatement As σ w τ := by sorry
abbrev Pz_readCase : ((Int → Int) × (Nat → Nat) × (Nat → Nat) × (Nat → Nat) × (Nat → Nat) × ZS × Nat × Int) → CpC := fun y As σ => match y with
  | (N, E, A, B, V, z, n, js) => ∃ (p1 : Int32), As = [.inr (.inr (some (E 0))), .inl p1] ∧ (ZC N E A B V σ z) ∧ (p1.toInt + (n : Int) = 21) ∧ (1 ≤ n) ∧ (codY z.1 = 62 ∨ codY z.1 = 63) ∧ (zFt (csM N js n z).1 = 0)
abbrev Qz_readCase : ((Int → Int) × (Nat → Nat) × (Nat → Nat) × (Nat → Nat) × (Nat → Nat) × ZS × Nat × Int) → CqC := fun y As σ w τ => match y, As with
  | (N, E, A, B, V, z, n, js), [_, .inl p1] => SeQ N E A B V z (csM N js n z) σ w τ
  | _, _ => True
abbrev Uz_readCase : CqC := fun As σ w τ => ∀ y, Pz_readCase y As σ → Qz_readCase y As σ w τ
set_option maxHeartbeats 4000000 in
theorem pz_readCase (y : (Int → Int) × (Nat → Nat) × (Nat → Nat) × (Nat → Nat) × (Nat → Nat) × ZS × Nat × Int) : PbC KX7_readCase [(125, TrP, EqC 125), (142, TrP, EqC 142), (128, TrP, EqC 128), (129, TrP, EqC 129), (164, TrP, EqC 164)] [(125, Uz_code), (142, Uz_begin), (128, Uz_accept), (129, Uz_expect), (164, Uz_readExp)] (fun As σ => Pz_readCase y As σ ∧ cnC σ ≤ 1000000 ∧ ∃ w τ, uqC quL 147 As σ w τ) (Qz_readCase y) := by sorry
theorem wz_readCase : ∀ (L : Nat) (As : List AvC) (σ : CsC) (w : Option AvC) (τ : CsC), EvF L 147 As σ w τ → Uz_readCase As σ w τ := by sorry
abbrev Pz_readCondition : ((Int → Int) × (Nat → Nat) × (Nat → Nat) × (Nat → Nat) × (Nat → Nat) × ZS × Nat × Nat) → CpC := fun y As σ => match y with
  | (N, E, A, B, V, z, n, j) => ∃ (p1 : Nat) (p2 : Int32), As = [.inr (.inr (some (E 0))), .inr (.inr (some p1)), .inl p2] ∧ (ZC N E A B V σ z) ∧ (p2.toInt + (n : Int) = 21) ∧ (1 ≤ n) ∧ (j < snM z) ∧ (p1 = B j) ∧ (zFt (cdM N j n z).1 = 0)
abbrev Qz_readCondition : ((Int → Int) × (Nat → Nat) × (Nat → Nat) × (Nat → Nat) × (Nat → Nat) × ZS × Nat × Nat) → CqC := fun y As σ w τ => match y, As with
  | (N, E, A, B, V, z, n, j), [_, .inr (.inr (some p1)), .inl p2] => w = none ∧ ∃ A' : Nat → Nat, ZC N E A' B V τ (cdM N j n z) ∧ FzC (B j) (xnM z) E A A' B B V V z (cdM N j n z) σ τ
  | _, _ => True
abbrev Uz_readCondition : CqC := fun As σ w τ => ∀ y, Pz_readCondition y As σ → Qz_readCondition y As σ w τ
set_option maxHeartbeats 4000000 in
theorem pz_readCondition (y : (Int → Int) × (Nat → Nat) × (Nat → Nat) × (Nat → Nat) × (Nat → Nat) × ZS × Nat × Nat) : PbC KX7_readCondition [(129, TrP, EqC 129), (164, TrP, EqC 164)] [(129, Uz_expect), (164, Uz_readExp)] (fun As σ => Pz_readCondition y As σ ∧ cnC σ ≤ 1000000 ∧ ∃ w τ, uqC quL 153 As σ w τ) (Qz_readCondition y) := by sorry
theorem wz_readCondition : ∀ (L : Nat) (As : List AvC) (σ : CsC) (w : Option AvC) (τ : CsC), EvF L 153 As σ w τ → Uz_readCondition As σ w τ := by sorry
/-! exps don't look at S's -/
def swS (g : Nat × (Nat → SrZ)) (z : ZS) : ZS := (z.1, z.2.1, g, z.2.2.2)
abbrev CmM (f : ZS → ZS) : Prop := ∀ g z, f (swS g z) = swS g (f z)
theorem cm_cl {g : Nat × (Nat → SrZ)} {p : Int} : ∀ (W : WtZ) (z : ZS), clM p W (swS g z) = swS g (clM p W z) := by sorry
theorem cm_fk {g : Nat × (Nat → SrZ)} {z : ZS} : fkM (swS g z) = swS g (fkM z) := by sorry
theorem cm_tk {N : Int → Int} {g : Nat × (Nat → SrZ)} {z : ZS} : tkM N (swS g z) = swS g (tkM N z) := by sorry
theorem cm_chl {O : ZS → ZS} (hO : CmM O) {g : Nat × (Nat → SrZ)} : ∀ (f : Nat) (W : WtZ) (r : Int × Int) (z : ZS), chlM O f W r (swS g z) = swS g (chlM O f W r z) := by sorry
theorem cm_ch2 {E C : ZS → ZS} (hE : CmM E) (hC : CmM C) {g : Nat × (Nat → SrZ)} {r : Int × Int} {z : ZS} : ch2M E C r (swS g z) = swS g (ch2M E C r z) := by sorry
theorem cm_chc {O E C : ZS → ZS} (hO : CmM O) (hE : CmM E) (hC : CmM C) : CmM (chcM O E C) := by sorry
theorem cm_xps {N : Int → Int} {O E C : ZS → ZS} (hO : CmM O) (hE : CmM E) (hC : CmM C) : CmM (xpsM N O E C) := by sorry
theorem cm_clp {E : ZS → ZS} (hE : CmM E) {r : Int × Int} {g : Nat × (Nat → SrZ)} : ∀ (f : Nat) (l : List Int) (z : ZS), clpM E r f l (swS g z) = swS g (clpM E r f l z) := by sorry
theorem cm_opr {N : Int → Int} {m : Nat} {E : ZS → ZS} {I : Int → ZS → ZS} (hE : CmM E) (hI : ∀ q, CmM (I q)) (q : Int) : CmM (oprM N m E I q) := by sorry
theorem cm_lv {N : Int → Int} : ∀ n, CmM (eM N n) ∧ CmM (cM N n) ∧ ∀ q, CmM (oM N n q) := by sorry
theorem cm_se {N : Int → Int} {n j : Nat} {f : SrZ → SrZ} {z : ZS} : eM N n (seM j f z) = seM j f (eM N n z) := by sorry
theorem se_cm {i j : Nat} {f h : SrZ → SrZ} {z : ZS} (hn : i ≠ j) : seM i h (seM j f z) = seM j f (seM i h z) := by sorry
theorem fx1_sn {N : Int → Int} {n : Nat} {z : ZS} : snM (fx1M N n z) = snM z + 1 := by sorry
/-- what stands in a loop of for's exps -/
def FxQ (N : Int → Int) (E A B V : Nat → Nat) (z : ZS) (σ υ : CsC) (Y W : Nat → Nat) (v : ZS) (j o : Nat) : Prop := (ZC N E Y W V υ v ∧ FzC (cnC σ) (xnM z) E A Y B W V V z v σ υ) ∧ (j < snM v ∧ W j = o ∧ cnC σ ≤ o) ∧ (W (snM z) = cnC σ ∧ snM z < snM v) ∧ cnC σ ≤ cnC υ
abbrev Pz_readForExps : ((Int → Int) × (Nat → Nat) × (Nat → Nat) × (Nat → Nat) × (Nat → Nat) × ZS × Nat) → CpC := fun y As σ => match y with
  | (N, E, A, B, V, z, n) => ∃ (p1 : Int32), As = [.inr (.inr (some (E 0))), .inl p1] ∧ (ZC N E A B V σ z) ∧ (p1.toInt + (n : Int) = 21) ∧ (1 ≤ n) ∧ (zFt (fxM N n z).1 = 0)
abbrev Qz_readForExps : ((Int → Int) × (Nat → Nat) × (Nat → Nat) × (Nat → Nat) × (Nat → Nat) × ZS × Nat) → CqC := fun y As σ w τ => match y, As with
  | (N, E, A, B, V, z, n), [_, .inl p1] => SeQ N E A B V z (fxM N n z) σ w τ
  | _, _ => True
abbrev Uz_readForExps : CqC := fun As σ w τ => ∀ y, Pz_readForExps y As σ → Qz_readForExps y As σ w τ
set_option maxHeartbeats 4000000 in
theorem pz_readForExps (y : (Int → Int) × (Nat → Nat) × (Nat → Nat) × (Nat → Nat) × (Nat → Nat) × ZS × Nat) : PbC KX7_readForExps [(142, TrP, EqC 142), (164, TrP, EqC 164), (130, TrP, EqC 130)] [(142, Uz_begin), (164, Uz_readExp), (130, Uz_takes)] (fun As σ => Pz_readForExps y As σ ∧ cnC σ ≤ 1000000 ∧ ∃ w τ, uqC quL 158 As σ w τ) (Qz_readForExps y) := by sorry
theorem wz_readForExps : ∀ (L : Nat) (As : List AvC) (σ : CsC) (w : Option AvC) (τ : CsC), EvF L 158 As σ w τ → Uz_readForExps As σ w τ := by sorry
/-! a variable told -/
def t7M (z : ZS) : ZS := if codY z.1 = 71 then accM z else z
def f7Z (z : ZS) : Int := if codY z.1 = 71 then 1 else 0
theorem f7_v {z : ZS} : f7Z z = 0 ∨ f7Z z = 1 := by sorry
theorem va_7 {N : Int → Int} {j n : Nat} {z : ZS} : vaM N j n z = va1M N j n (f7Z z) (tyvY (t7M z).1) (typM (t7M z)) := by sorry
/-- an S has begun, with its code or without -/
def vbM (b k : Int) (n : Nat) (z : ZS) : ZS := if b = 1 then bgM k n z else beM k (lvN n) z
theorem vb_1 {b k : Int} {n : Nat} {z : ZS} : (vbM b k n z).1 = z.1 ∧ snM (vbM b k n z) = snM z + 1 ∧ reS (vbM b k n z) = reS (beM k (lvN n) z) ∧ (vbM b k n z).2.2 = (beM k (lvN n) z).2.2 := by sorry
theorem ZC.vb {N : Int → Int} {E A B V : Nat → Nat} {σ : CsC} {b k : Int} {n : Nat} {z : ZS} (h : ZC N E A B V σ (beM k (lvN n) z)) : ZC N E A B V σ (vbM b k n z) := by sorry
theorem FzC.vb {n0 m : Nat} {E A A' B B' V V' : Nat → Nat} {y : ZS} {σ τ : CsC} {b k : Int} {n : Nat} {z : ZS} (h : FzC n0 m E A A' B B' V V' y (beM k (lvN n) z) σ τ) : FzC n0 m E A A' B B' V V' y (vbM b k n z) σ τ := by sorry
theorem dcl_l {ty f h : Int} {s : SpC} (q : zFt (dclY ty f h s) = 0) : zVs (dclY ty f h s) = (zAt s, ty, f, ((zMs s).length : Int) - 1) :: zVs s := by sorry
theorem dcl_v {ty f h : Int} {s : SpC} (q : zFt (dclY ty f h s) = 0) : (vth (dclY ty f h s) (zVs s).length).1 = zAt s := by sorry
theorem va1_z {N : Int → Int} {j n : Nat} {f ty : Int} {z : ZS} (q : zFt (va1M N j n f ty z).1 = 0) : zFt (dclY ty f 1 z.1) = 0 := by sorry
abbrev Pz_readVariable : ((Int → Int) × (Nat → Nat) × (Nat → Nat) × (Nat → Nat) × (Nat → Nat) × ZS × Nat × Int × Int) → CpC := fun y As σ => match y with
  | (N, E, A, B, V, z, n, k, b) => ∃ (p1 : Int32) (p2 : Int32), As = [.inr (.inr (some (E 0))), .inl p1, .inl p2] ∧ (ZC N E A B V σ z) ∧ (p2.toInt + (n : Int) = 21) ∧ (1 ≤ n) ∧ (p1.toInt = k) ∧ (zFt (vaM N (snM z) n (vbM b k n z)).1 = 0)
abbrev Qz_readVariable : ((Int → Int) × (Nat → Nat) × (Nat → Nat) × (Nat → Nat) × (Nat → Nat) × ZS × Nat × Int × Int) → CqC := fun y As σ w τ => match y, As with
  | (N, E, A, B, V, z, n, k, b), [_, .inl p1, .inl p2] => SeQ N E A B V z (vaM N (snM z) n (vbM b k n z)) σ w τ
  | _, _ => True
abbrev Uz_readVariable : CqC := fun As σ w τ => ∀ y, Pz_readVariable y As σ → Qz_readVariable y As σ w τ
set_option maxHeartbeats 4000000 in
theorem pz_readVariable (y : (Int → Int) × (Nat → Nat) × (Nat → Nat) × (Nat → Nat) × (Nat → Nat) × ZS × Nat × Int × Int) : PbC KX7_readVariable [(142, TrP, EqC 142), (130, TrP, EqC 130), (136, TrP, EqC 136), (137, TrP, EqC 137), (138, TrP, EqC 138), (125, TrP, EqC 125), (129, TrP, EqC 129), (164, TrP, EqC 164), (17, TrP, EqC 17), (161, TrP, EqC 161)] [(142, Uz_begin), (130, Uz_takes), (136, Uz_readType), (137, Uz_declare), (138, Uz_know), (125, Uz_code), (129, Uz_expect), (164, Uz_readExp), (17, Uz_Exp), (161, Uz_put)] (fun As σ => Pz_readVariable y As σ ∧ cnC σ ≤ 1000000 ∧ ∃ w τ, uqC quL 141 As σ w τ) (Qz_readVariable y) := by sorry
theorem wz_readVariable : ∀ (L : Nat) (As : List AvC) (σ : CsC) (w : Option AvC) (τ : CsC), EvF L 141 As σ w τ → Uz_readVariable As σ w τ := by sorry
/-! S's within S's -/
theorem cd_z {N : Int → Int} {j n : Nat} {y : ZS} (h : zFt (cdM N j n y).1 = 0) : zFt y.1 = 0 := by sorry
theorem cd_k {N : Int → Int} {j n : Nat} {y : ZS} : (cdM N j n y).2.2.2 = y.2.2.2 ∧ snM (cdM N j n y) = snM y := by sorry
theorem pa_se {j : Nat} {v : Int} {X : ZS} : paS (seM j (sBd v) X) j = paS X j := by sorry
theorem bd_eq {j : Nat} {v : Int} {jb : Nat} {a : Int} {X : ZS} (hv : v = (jb : Int)) (h : paS X j = a) : seM j (sBd v) (arM a X) = bdM j jb X := by sorry
theorem blk_eq {j : Nat} {v t a : Int} {out : List (Int × Int)} {Q : ZS} (h : paS Q j = a) : arM a (veM t out (xpM 3 (seM j (sBd v) Q))) = xpM 3 (veM t out (unM j (seM j (sBd v) Q))) := by sorry
theorem ls_n {N : Int → Int} {n : Nat} {z : ZS} (h : zFt (stM N n z).1 = 0) : 1 ≤ n := by sorry
theorem rw_n {N : Int → Int} {n js : Nat} {sw : Int} {z : ZS} (h : zFt (rwM N n sw js z).1.1 = 0) : 1 ≤ n := by sorry
theorem st_s {N : Int → Int} {n : Nat} (h : 1 ≤ n) : stM N n = smM N n (stM N (n - 1)) (rwM N (n - 1)) := by sorry
theorem rw_s {N : Int → Int} {n : Nat} (h : 1 ≤ n) : rwM N n = fun sw js z => rwlM N n (stM N n) sw js 501 (-1) (-1) z := by sorry
abbrev Pz_readStatement : ((Int → Int) × (Nat → Nat) × (Nat → Nat) × (Nat → Nat) × (Nat → Nat) × ZS × Nat) → CpC := fun y As σ => match y with
  | (N, E, A, B, V, z, n) => ∃ (p1 : Int32), As = [.inr (.inr (some (E 0))), .inl p1] ∧ (ZC N E A B V σ z) ∧ (p1.toInt + (n : Int) = 21) ∧ (zFt (stM N n z).1 = 0)
abbrev Qz_readStatement : ((Int → Int) × (Nat → Nat) × (Nat → Nat) × (Nat → Nat) × (Nat → Nat) × ZS × Nat) → CqC := fun y As σ w τ => match y, As with
  | (N, E, A, B, V, z, n), [_, .inl p1] => SeQ N E A B V z (stM N n z) σ w τ
  | _, _ => True
abbrev Uz_readStatement : CqC := fun As σ w τ => ∀ y, Pz_readStatement y As σ → Qz_readStatement y As σ w τ
abbrev Pz_readInner : ((Int → Int) × (Nat → Nat) × (Nat → Nat) × (Nat → Nat) × (Nat → Nat) × ZS × Nat × Nat) → CpC := fun y As σ => match y with
  | (N, E, A, B, V, z, n, j) => ∃ (p1 : Nat) (p2 : Int32), As = [.inr (.inr (some (E 0))), .inr (.inr (some p1)), .inl p2] ∧ (ZC N E A B V σ z) ∧ (p2.toInt + (n : Int) = 21) ∧ (1 ≤ n) ∧ (j < snM z) ∧ (p1 = B j) ∧ (zFt (stM N (n - 1) (arM j z)).1 = 0)
abbrev Qz_readInner : ((Int → Int) × (Nat → Nat) × (Nat → Nat) × (Nat → Nat) × (Nat → Nat) × ZS × Nat × Nat) → CqC := fun y As σ w τ => match y, As with
  | (N, E, A, B, V, z, n, j), [_, .inr (.inr (some p1)), .inl p2] => ∃ A' B' V' : Nat → Nat, w = some (.inr (.inr (some (B' (snM z))))) ∧ ZC N E A' B' V' τ (arM z.2.2.2.1.2 (stM N (n - 1) (arM j z))) ∧ FzC (cnC σ) (xnM z) E A A' B B' V V' z (arM z.2.2.2.1.2 (stM N (n - 1) (arM j z))) σ τ ∧ snM z < snM (stM N (n - 1) (arM j z))
  | _, _ => True
abbrev Uz_readInner : CqC := fun As σ w τ => ∀ y, Pz_readInner y As σ → Qz_readInner y As σ w τ
abbrev Pz_readBlock : ((Int → Int) × (Nat → Nat) × (Nat → Nat) × (Nat → Nat) × (Nat → Nat) × ZS × Nat × Nat) → CpC := fun y As σ => match y with
  | (N, E, A, B, V, z, n, j) => ∃ (p1 : Nat) (p2 : Int32), As = [.inr (.inr (some (E 0))), .inr (.inr (some p1)), .inl p2] ∧ (ZC N E A B V σ z) ∧ (p2.toInt + (n : Int) = 21) ∧ (1 ≤ n) ∧ (j < snM z) ∧ (p1 = B j) ∧ ((reS z j).1.2.2.2 = z.2.2.2.1.2) ∧ (zFt (blkM (rwM N (n - 1)) j z.2.2.2.1.1 z).1 = 0)
abbrev Qz_readBlock : ((Int → Int) × (Nat → Nat) × (Nat → Nat) × (Nat → Nat) × (Nat → Nat) × ZS × Nat × Nat) → CqC := fun y As σ w τ => match y, As with
  | (N, E, A, B, V, z, n, j), [_, .inr (.inr (some p1)), .inl p2] => w = none ∧ ∃ A' B' V' : Nat → Nat, ZC N E A' B' V' τ (blkM (rwM N (n - 1)) j z.2.2.2.1.1 z) ∧ FzC (B j) (xnM z) E A A' B B' V V' z (blkM (rwM N (n - 1)) j z.2.2.2.1.1 z) σ τ
  | _, _ => True
abbrev Uz_readBlock : CqC := fun As σ w τ => ∀ y, Pz_readBlock y As σ → Qz_readBlock y As σ w τ
abbrev Pz_readBody : ((Int → Int) × (Nat → Nat) × (Nat → Nat) × (Nat → Nat) × (Nat → Nat) × ZS × Nat) → CpC := fun y As σ => match y with
  | (N, E, A, B, V, z, n) => ∃ (p1 : Int32), As = [.inr (.inr (some (E 0))), .inl p1] ∧ (ZC N E A B V σ z) ∧ (p1.toInt + (n : Int) = 21) ∧ (1 ≤ n) ∧ (zFt (boM (rwM N (n - 1)) n z.2.2.2.1.1 z).1 = 0)
abbrev Qz_readBody : ((Int → Int) × (Nat → Nat) × (Nat → Nat) × (Nat → Nat) × (Nat → Nat) × ZS × Nat) → CqC := fun y As σ w τ => match y, As with
  | (N, E, A, B, V, z, n), [_, .inl p1] => SeQ N E A B V z (boM (rwM N (n - 1)) n z.2.2.2.1.1 z) σ w τ
  | _, _ => True
abbrev Uz_readBody : CqC := fun As σ w τ => ∀ y, Pz_readBody y As σ → Qz_readBody y As σ w τ
abbrev Pz_readIf : ((Int → Int) × (Nat → Nat) × (Nat → Nat) × (Nat → Nat) × (Nat → Nat) × ZS × Nat) → CpC := fun y As σ => match y with
  | (N, E, A, B, V, z, n) => ∃ (p1 : Int32), As = [.inr (.inr (some (E 0))), .inl p1] ∧ (ZC N E A B V σ z) ∧ (p1.toInt + (n : Int) = 21) ∧ (1 ≤ n) ∧ (zFt (ifM N n (stM N (n - 1)) z).1 = 0)
abbrev Qz_readIf : ((Int → Int) × (Nat → Nat) × (Nat → Nat) × (Nat → Nat) × (Nat → Nat) × ZS × Nat) → CqC := fun y As σ w τ => match y, As with
  | (N, E, A, B, V, z, n), [_, .inl p1] => SeQ N E A B V z (ifM N n (stM N (n - 1)) z) σ w τ
  | _, _ => True
abbrev Uz_readIf : CqC := fun As σ w τ => ∀ y, Pz_readIf y As σ → Qz_readIf y As σ w τ
abbrev Pz_readWhile : ((Int → Int) × (Nat → Nat) × (Nat → Nat) × (Nat → Nat) × (Nat → Nat) × ZS × Nat) → CpC := fun y As σ => match y with
  | (N, E, A, B, V, z, n) => ∃ (p1 : Int32), As = [.inr (.inr (some (E 0))), .inl p1] ∧ (ZC N E A B V σ z) ∧ (p1.toInt + (n : Int) = 21) ∧ (1 ≤ n) ∧ (zFt (whM N n (stM N (n - 1)) z).1 = 0)
abbrev Qz_readWhile : ((Int → Int) × (Nat → Nat) × (Nat → Nat) × (Nat → Nat) × (Nat → Nat) × ZS × Nat) → CqC := fun y As σ w τ => match y, As with
  | (N, E, A, B, V, z, n), [_, .inl p1] => SeQ N E A B V z (whM N n (stM N (n - 1)) z) σ w τ
  | _, _ => True
abbrev Uz_readWhile : CqC := fun As σ w τ => ∀ y, Pz_readWhile y As σ → Qz_readWhile y As σ w τ
abbrev Pz_readDo : ((Int → Int) × (Nat → Nat) × (Nat → Nat) × (Nat → Nat) × (Nat → Nat) × ZS × Nat) → CpC := fun y As σ => match y with
  | (N, E, A, B, V, z, n) => ∃ (p1 : Int32), As = [.inr (.inr (some (E 0))), .inl p1] ∧ (ZC N E A B V σ z) ∧ (p1.toInt + (n : Int) = 21) ∧ (1 ≤ n) ∧ (zFt (doM N n (stM N (n - 1)) z).1 = 0)
abbrev Qz_readDo : ((Int → Int) × (Nat → Nat) × (Nat → Nat) × (Nat → Nat) × (Nat → Nat) × ZS × Nat) → CqC := fun y As σ w τ => match y, As with
  | (N, E, A, B, V, z, n), [_, .inl p1] => SeQ N E A B V z (doM N n (stM N (n - 1)) z) σ w τ
  | _, _ => True
abbrev Uz_readDo : CqC := fun As σ w τ => ∀ y, Pz_readDo y As σ → Qz_readDo y As σ w τ
abbrev Pz_readFor : ((Int → Int) × (Nat → Nat) × (Nat → Nat) × (Nat → Nat) × (Nat → Nat) × ZS × Nat) → CpC := fun y As σ => match y with
  | (N, E, A, B, V, z, n) => ∃ (p1 : Int32), As = [.inr (.inr (some (E 0))), .inl p1] ∧ (ZC N E A B V σ z) ∧ (p1.toInt + (n : Int) = 21) ∧ (1 ≤ n) ∧ (zFt (foM2 N n (stM N (n - 1)) z).1 = 0)
abbrev Qz_readFor : ((Int → Int) × (Nat → Nat) × (Nat → Nat) × (Nat → Nat) × (Nat → Nat) × ZS × Nat) → CqC := fun y As σ w τ => match y, As with
  | (N, E, A, B, V, z, n), [_, .inl p1] => SeQ N E A B V z (foM2 N n (stM N (n - 1)) z) σ w τ
  | _, _ => True
abbrev Uz_readFor : CqC := fun As σ w τ => ∀ y, Pz_readFor y As σ → Qz_readFor y As σ w τ
abbrev Pz_readSwitch : ((Int → Int) × (Nat → Nat) × (Nat → Nat) × (Nat → Nat) × (Nat → Nat) × ZS × Nat) → CpC := fun y As σ => match y with
  | (N, E, A, B, V, z, n) => ∃ (p1 : Int32), As = [.inr (.inr (some (E 0))), .inl p1] ∧ (ZC N E A B V σ z) ∧ (p1.toInt + (n : Int) = 21) ∧ (1 ≤ n) ∧ (zFt (swM N n (rwM N (n - 1)) z).1 = 0)
abbrev Qz_readSwitch : ((Int → Int) × (Nat → Nat) × (Nat → Nat) × (Nat → Nat) × (Nat → Nat) × ZS × Nat) → CqC := fun y As σ w τ => match y, As with
  | (N, E, A, B, V, z, n), [_, .inl p1] => SeQ N E A B V z (swM N n (rwM N (n - 1)) z) σ w τ
  | _, _ => True
abbrev Uz_readSwitch : CqC := fun As σ w τ => ∀ y, Pz_readSwitch y As σ → Qz_readSwitch y As σ w τ
abbrev Pz_readLabel : ((Int → Int) × (Nat → Nat) × (Nat → Nat) × (Nat → Nat) × (Nat → Nat) × ZS × Nat) → CpC := fun y As σ => match y with
  | (N, E, A, B, V, z, n) => ∃ (p1 : Int32), As = [.inr (.inr (some (E 0))), .inl p1] ∧ (ZC N E A B V σ z) ∧ (p1.toInt + (n : Int) = 21) ∧ (1 ≤ n) ∧ (zFt (laM n (stM N (n - 1)) z).1 = 0)
abbrev Qz_readLabel : ((Int → Int) × (Nat → Nat) × (Nat → Nat) × (Nat → Nat) × (Nat → Nat) × ZS × Nat) → CqC := fun y As σ w τ => match y, As with
  | (N, E, A, B, V, z, n), [_, .inl p1] => SeQ N E A B V z (laM n (stM N (n - 1)) z) σ w τ
  | _, _ => True
abbrev Uz_readLabel : CqC := fun As σ w τ => ∀ y, Pz_readLabel y As σ → Qz_readLabel y As σ w τ
abbrev Pz_readTry : ((Int → Int) × (Nat → Nat) × (Nat → Nat) × (Nat → Nat) × (Nat → Nat) × ZS × Nat) → CpC := fun y As σ => match y with
  | (N, E, A, B, V, z, n) => ∃ (p1 : Int32), As = [.inr (.inr (some (E 0))), .inl p1] ∧ (ZC N E A B V σ z) ∧ (p1.toInt + (n : Int) = 21) ∧ (1 ≤ n) ∧ (zFt (trM N n (rwM N (n - 1)) z).1 = 0)
abbrev Qz_readTry : ((Int → Int) × (Nat → Nat) × (Nat → Nat) × (Nat → Nat) × (Nat → Nat) × ZS × Nat) → CqC := fun y As σ w τ => match y, As with
  | (N, E, A, B, V, z, n), [_, .inl p1] => SeQ N E A B V z (trM N n (rwM N (n - 1)) z) σ w τ
  | _, _ => True
abbrev Uz_readTry : CqC := fun As σ w τ => ∀ y, Pz_readTry y As σ → Qz_readTry y As σ w τ
abbrev Pz_readSimple : ((Int → Int) × (Nat → Nat) × (Nat → Nat) × (Nat → Nat) × (Nat → Nat) × ZS × Nat) → CpC := fun y As σ => match y with
  | (N, E, A, B, V, z, n) => ∃ (p1 : Int32), As = [.inr (.inr (some (E 0))), .inl p1] ∧ (ZC N E A B V σ z) ∧ (p1.toInt + (n : Int) = 21) ∧ (1 ≤ n) ∧ (codY z.1 = 2 ∨ codY z.1 = 4 ∨ codY z.1 = 64 ∨ codY z.1 = 65 ∨ codY z.1 = 66 ∨ codY z.1 = 67) ∧ (zFt (smM N n (stM N (n - 1)) (rwM N (n - 1)) z).1 = 0)
abbrev Qz_readSimple : ((Int → Int) × (Nat → Nat) × (Nat → Nat) × (Nat → Nat) × (Nat → Nat) × ZS × Nat) → CqC := fun y As σ w τ => match y, As with
  | (N, E, A, B, V, z, n), [_, .inl p1] => SeQ N E A B V z (smM N n (stM N (n - 1)) (rwM N (n - 1)) z) σ w τ
  | _, _ => True
abbrev Uz_readSimple : CqC := fun As σ w τ => ∀ y, Pz_readSimple y As σ → Qz_readSimple y As σ w τ
abbrev Pz_readRowPart : ((Int → Int) × (Nat → Nat) × (Nat → Nat) × (Nat → Nat) × (Nat → Nat) × ZS × Nat × Int × Nat × Int) → CpC := fun y As σ => match y with
  | (N, E, A, B, V, z, n, sw, js, b) => ∃ (p1 : Int32) (p2 : Int32) (p3 : Int32), As = [.inr (.inr (some (E 0))), .inl p1, .inl p2, .inl p3] ∧ (ZC N E A B V σ z) ∧ (p1.toInt + (n : Int) = 21) ∧ (1 ≤ n) ∧ (p2.toInt = sw) ∧ (p3.toInt = b) ∧ ((sw = 0 ∨ sw = 1) ∧ (b = 0 ∨ b = 1)) ∧ (zFt (rpM N n (stM N n) sw js b z).1 = 0)
abbrev Qz_readRowPart : ((Int → Int) × (Nat → Nat) × (Nat → Nat) × (Nat → Nat) × (Nat → Nat) × ZS × Nat × Int × Nat × Int) → CqC := fun y As σ w τ => match y, As with
  | (N, E, A, B, V, z, n, sw, js, b), [_, .inl p1, .inl p2, .inl p3] => SeQ N E A B V z (rpM N n (stM N n) sw js b z) σ w τ
  | _, _ => True
abbrev Uz_readRowPart : CqC := fun As σ w τ => ∀ y, Pz_readRowPart y As σ → Qz_readRowPart y As σ w τ
abbrev Pz_readRow : ((Int → Int) × (Nat → Nat) × (Nat → Nat) × (Nat → Nat) × (Nat → Nat) × ZS × Nat × Int × Nat) → CpC := fun y As σ => match y with
  | (N, E, A, B, V, z, n, sw, js) => ∃ (p1 : Int32) (p2 : Int32), As = [.inr (.inr (some (E 0))), .inl p1, .inl p2] ∧ (ZC N E A B V σ z) ∧ (p1.toInt + (n : Int) = 21) ∧ (p2.toInt = sw) ∧ (sw = 0 ∨ sw = 1) ∧ (zFt ((rwM N n sw js z).1).1 = 0)
abbrev Qz_readRow : ((Int → Int) × (Nat → Nat) × (Nat → Nat) × (Nat → Nat) × (Nat → Nat) × ZS × Nat × Int × Nat) → CqC := fun y As σ w τ => match y, As with
  | (N, E, A, B, V, z, n, sw, js), [_, .inl p1, .inl p2] => ∃ A' B' V' : Nat → Nat, w = some (.inr (.inr (opA B' (rwM N n sw js z).2))) ∧ ZC N E A' B' V' τ (rwM N n sw js z).1 ∧ FzC (cnC σ) (xnM z) E A A' B B' V V' z (rwM N n sw js z).1 σ τ ∧ (rwM N n sw js z).2 < (snM (rwM N n sw js z).1 : Int)
  | _, _ => True
abbrev Uz_readRow : CqC := fun As σ w τ => ∀ y, Pz_readRow y As σ → Qz_readRow y As σ w τ
set_option maxHeartbeats 4000000 in
theorem pz_readInner (y : (Int → Int) × (Nat → Nat) × (Nat → Nat) × (Nat → Nat) × (Nat → Nat) × ZS × Nat × Nat) : PbC KX7_readInner [(149, TrP, EqC 149)] [(149, Uz_readStatement)] (fun As σ => Pz_readInner y As σ ∧ cnC σ ≤ 1000000 ∧ ∃ w τ, uqC quL 148 As σ w τ) (Qz_readInner y) := by sorry
set_option maxHeartbeats 4000000 in
theorem pz_readBlock (y : (Int → Int) × (Nat → Nat) × (Nat → Nat) × (Nat → Nat) × (Nat → Nat) × ZS × Nat × Nat) : PbC KX7_readBlock [(129, TrP, EqC 129), (145, TrP, EqC 145)] [(129, Uz_expect), (145, Uz_readRow)] (fun As σ => Pz_readBlock y As σ ∧ cnC σ ≤ 1000000 ∧ ∃ w τ, uqC quL 144 As σ w τ) (Qz_readBlock y) := by sorry
set_option maxHeartbeats 4000000 in
theorem pz_readBody (y : (Int → Int) × (Nat → Nat) × (Nat → Nat) × (Nat → Nat) × (Nat → Nat) × ZS × Nat) : PbC KX7_readBody [(142, TrP, EqC 142), (144, TrP, EqC 144)] [(142, Uz_begin), (144, Uz_readBlock)] (fun As σ => Pz_readBody y As σ ∧ cnC σ ≤ 1000000 ∧ ∃ w τ, uqC quL 143 As σ w τ) (Qz_readBody y) := by sorry
set_option maxHeartbeats 4000000 in
theorem pz_readIf (y : (Int → Int) × (Nat → Nat) × (Nat → Nat) × (Nat → Nat) × (Nat → Nat) × ZS × Nat) : PbC KX7_readIf [(142, TrP, EqC 142), (128, TrP, EqC 128), (153, TrP, EqC 153), (148, TrP, EqC 148), (130, TrP, EqC 130)] [(142, Uz_begin), (128, Uz_accept), (153, Uz_readCondition), (148, Uz_readInner), (130, Uz_takes)] (fun As σ => Pz_readIf y As σ ∧ cnC σ ≤ 1000000 ∧ ∃ w τ, uqC quL 154 As σ w τ) (Qz_readIf y) := by sorry
set_option maxHeartbeats 4000000 in
theorem pz_readWhile (y : (Int → Int) × (Nat → Nat) × (Nat → Nat) × (Nat → Nat) × (Nat → Nat) × ZS × Nat) : PbC KX7_readWhile [(142, TrP, EqC 142), (128, TrP, EqC 128), (153, TrP, EqC 153), (148, TrP, EqC 148)] [(142, Uz_begin), (128, Uz_accept), (153, Uz_readCondition), (148, Uz_readInner)] (fun As σ => Pz_readWhile y As σ ∧ cnC σ ≤ 1000000 ∧ ∃ w τ, uqC quL 155 As σ w τ) (Qz_readWhile y) := by sorry
set_option maxHeartbeats 4000000 in
theorem pz_readDo (y : (Int → Int) × (Nat → Nat) × (Nat → Nat) × (Nat → Nat) × (Nat → Nat) × ZS × Nat) : PbC KX7_readDo [(142, TrP, EqC 142), (128, TrP, EqC 128), (148, TrP, EqC 148), (129, TrP, EqC 129), (153, TrP, EqC 153)] [(142, Uz_begin), (128, Uz_accept), (148, Uz_readInner), (129, Uz_expect), (153, Uz_readCondition)] (fun As σ => Pz_readDo y As σ ∧ cnC σ ≤ 1000000 ∧ ∃ w τ, uqC quL 156 As σ w τ) (Qz_readDo y) := by sorry
set_option maxHeartbeats 4000000 in
theorem pz_readLabel (y : (Int → Int) × (Nat → Nat) × (Nat → Nat) × (Nat → Nat) × (Nat → Nat) × ZS × Nat) : PbC KX7_readLabel [(142, TrP, EqC 142), (128, TrP, EqC 128), (129, TrP, EqC 129), (148, TrP, EqC 148)] [(142, Uz_begin), (128, Uz_accept), (129, Uz_expect), (148, Uz_readInner)] (fun As σ => Pz_readLabel y As σ ∧ cnC σ ≤ 1000000 ∧ ∃ w τ, uqC quL 151 As σ w τ) (Qz_readLabel y) := by sorry
set_option maxHeartbeats 4000000 in
theorem pz_readSwitch (y : (Int → Int) × (Nat → Nat) × (Nat → Nat) × (Nat → Nat) × (Nat → Nat) × ZS × Nat) : PbC KX7_readSwitch [(142, TrP, EqC 142), (128, TrP, EqC 128), (153, TrP, EqC 153), (129, TrP, EqC 129), (145, TrP, EqC 145)] [(142, Uz_begin), (128, Uz_accept), (153, Uz_readCondition), (129, Uz_expect), (145, Uz_readRow)] (fun As σ => Pz_readSwitch y As σ ∧ cnC σ ≤ 1000000 ∧ ∃ w τ, uqC quL 159 As σ w τ) (Qz_readSwitch y) := by sorry
/-! for -/
/-- hidden from omega -/
def Hid (P : Prop) : Prop := P
theorem zf_en {j c : Nat} {z : ZS} (h : zFt (enM j c z).1 = 0) : zFt z.1 = 0 := h
theorem zf_xp {c : Int} {z : ZS} (h : zFt (xpM c z).1 = 0) : zFt z.1 = 0 := (gd_xp (c := c) z.1).z h
theorem zf_ac {z : ZS} (h : zFt (accM z).1 = 0) : zFt z.1 = 0 := (gd_acc z.1).z h
theorem zf_co {op a b t : Int} {z : ZS} (h : zFt (coM op a b t z).1 = 0) : zFt z.1 = 0 := h
theorem zf_cx {op a b t : Int} {z : ZS} (h : zFt (cxM op a b t z).1 = 0) : zFt z.1 = 0 := h
theorem zf_se {j : Nat} {f : SrZ → SrZ} {z : ZS} (h : zFt (seM j f z).1 = 0) : zFt z.1 = 0 := h
theorem ka_e {N : Int → Int} {n : Nat} {z : ZS} : (eM N n z).2.2.2 = z.2.2.2 := by sorry
theorem ka_va2 {N : Int → Int} {j n : Nat} {f v t : Int} {z : ZS} : (va2M N j n f v t z).2.2.2 = z.2.2.2 := by sorry
theorem ka_va {N : Int → Int} {j n : Nat} {z : ZS} : (vaM N j n z).2.2.2.1.2 = z.2.2.2.1.2 := by sorry
theorem ka_fxl {N : Int → Int} {n : Nat} : ∀ (f j : Nat) (z : ZS), (fxlM N n f j z).2.2.2 = z.2.2.2 := by sorry
theorem ka_fx {N : Int → Int} {n : Nat} {z : ZS} : (fxM N n z).2.2.2 = z.2.2.2 := by sorry
theorem ka_fo1 {N : Int → Int} {j n : Nat} {z : ZS} : (fo1M N j n z).2.2.2.1.2 = z.2.2.2.1.2 := by sorry
theorem ka_fo2 {N : Int → Int} {j k n : Nat} {z : ZS} : (fo2M N j k n z).2.2.2 = z.2.2.2 := by sorry
theorem ka_fo3 {N : Int → Int} {j n : Nat} {z : ZS} : (fo3M N j n z).2.2.2 = z.2.2.2 := by sorry
theorem vb_0 {k : Int} {n : Nat} {z : ZS} : vbM 0 k n z = beM k (lvN n) z := if_neg (by decide)
theorem fo_eq {j jb : Nat} {v t a p : Int} {out : List (Int × Int)} {X : ZS} (hv : v = (jb : Int)) (h : paS X j = p) (h2 : knS X j = out) : arM p (veM t out (seM j (sBd v) (arM a X))) = veM t (knS X j) (bdM j jb X) := by sorry
/-- what stands between the parts of a for -/
def FoR (kk : Int) (N : Int → Int) (E A B V : Nat → Nat) (n : Nat) (z : ZS) (σ υ : CsC) (Y W U : Nat → Nat) (v : ZS) (so : Option Nat) (sl : Int64) : Prop := (ZC N E Y W U υ v ∧ FzC (cnC σ) (xnM z) E A Y B W V U z v σ υ) ∧ (W (snM z) = cnC σ ∧ snM z < snM v) ∧ ((reS v (snM z)).1 = (kk, zAt z.1, lvN n, z.2.2.2.1.2) ∧ (reS v (snM z)).2.1 = z.2.2.2.1.1) ∧ (so = opA B z.2.2.2.1.2 ∧ KbC sl z.2.2.2.1.1) ∧ cnC σ ≤ cnC υ
set_option maxHeartbeats 4000000 in
theorem pz_readSimple (y : (Int → Int) × (Nat → Nat) × (Nat → Nat) × (Nat → Nat) × (Nat → Nat) × ZS × Nat) : PbC KX7_readSimple [(125, TrP, EqC 125), (142, TrP, EqC 142), (128, TrP, EqC 128), (164, TrP, EqC 164), (129, TrP, EqC 129), (234, TrP, EqC 234), (144, TrP, EqC 144)] [(125, Uz_code), (142, Uz_begin), (128, Uz_accept), (164, Uz_readExp), (129, Uz_expect), (144, Uz_readBlock)] (fun As σ => Pz_readSimple y As σ ∧ cnC σ ≤ 1000000 ∧ ∃ w τ, uqC quL 150 As σ w τ) (Qz_readSimple y) := by sorry
set_option maxHeartbeats 4000000 in
theorem pz_readFor (y : (Int → Int) × (Nat → Nat) × (Nat → Nat) × (Nat → Nat) × (Nat → Nat) × ZS × Nat) : PbC KX7_readFor [(142, TrP, EqC 142), (128, TrP, EqC 128), (129, TrP, EqC 129), (125, TrP, EqC 125), (141, TrP, EqC 141), (148, TrP, EqC 148), (158, TrP, EqC 158), (164, TrP, EqC 164), (132, TrP, EqC 132)] [(142, Uz_begin), (128, Uz_accept), (129, Uz_expect), (125, Uz_code), (141, Uz_readVariable), (148, Uz_readInner), (158, Uz_readForExps), (164, Uz_readExp), (132, Uz_isType)] (fun As σ => Pz_readFor y As σ ∧ cnC σ ≤ 1000000 ∧ ∃ w τ, uqC quL 157 As σ w τ) (Qz_readFor y) := by sorry
set_option maxHeartbeats 4000000 in
theorem pz_readTry (y : (Int → Int) × (Nat → Nat) × (Nat → Nat) × (Nat → Nat) × (Nat → Nat) × ZS × Nat) : PbC KX7_readTry [(142, TrP, EqC 142), (128, TrP, EqC 128), (143, TrP, EqC 143), (125, TrP, EqC 125), (130, TrP, EqC 130), (129, TrP, EqC 129), (137, TrP, EqC 137), (138, TrP, EqC 138), (127, TrP, EqC 127)] [(142, Uz_begin), (128, Uz_accept), (143, Uz_readBody), (125, Uz_code), (130, Uz_takes), (129, Uz_expect), (137, Uz_declare), (138, Uz_know)] (fun As σ => Pz_readTry y As σ ∧ cnC σ ≤ 1000000 ∧ ∃ w τ, uqC quL 160 As σ w τ) (Qz_readTry y) := by sorry
/-! an S, a row -/
/-- what stands in a row's loop -/
def RwR (N : Int → Int) (E A B V : Nat → Nat) (z : ZS) (σ υ : CsC) (Y W U : Nat → Nat) (v : ZS) (f l : Int) (fo lo : Option Nat) : Prop := (ZC N E Y W U υ v ∧ FzC (cnC σ) (xnM z) E A Y B W V U z v σ υ) ∧ (fo = opA W f ∧ f < (snM v : Int)) ∧ (lo = opA W l ∧ l < (snM v : Int)) ∧ ((f < 0 ↔ l < 0) ∧ (0 ≤ l → cnC σ ≤ W l.toNat)) ∧ cnC σ ≤ cnC υ
theorem opA_0 {A : Nat → Nat} {x : Int} (h : opA A x = none) : x < 0 := by sorry
theorem opA_1 {A : Nat → Nat} {x : Int} {b : Nat} (h : opA A x = some b) : 0 ≤ x ∧ A x.toNat = b := by sorry
set_option maxHeartbeats 4000000 in
theorem pz_readStatement (y : (Int → Int) × (Nat → Nat) × (Nat → Nat) × (Nat → Nat) × (Nat → Nat) × ZS × Nat) : PbC KX7_readStatement [(131, TrP, EqC 131), (125, TrP, EqC 125), (150, TrP, EqC 150), (154, TrP, EqC 154), (155, TrP, EqC 155), (156, TrP, EqC 156), (157, TrP, EqC 157), (159, TrP, EqC 159), (160, TrP, EqC 160), (152, TrP, EqC 152), (126, TrP, EqC 126), (151, TrP, EqC 151)] [(131, Uz_isTooDeep), (125, Uz_code), (150, Uz_readSimple), (154, Uz_readIf), (155, Uz_readWhile), (156, Uz_readDo), (157, Uz_readFor), (159, Uz_readSwitch), (160, Uz_readTry), (152, Uz_readExpStatement), (126, Uz_codeBehind), (151, Uz_readLabel)] (fun As σ => Pz_readStatement y As σ ∧ cnC σ ≤ 1000000 ∧ ∃ w τ, uqC quL 149 As σ w τ) (Qz_readStatement y) := by sorry
set_option maxHeartbeats 4000000 in
theorem pz_readRowPart (y : (Int → Int) × (Nat → Nat) × (Nat → Nat) × (Nat → Nat) × (Nat → Nat) × ZS × Nat × Int × Nat × Int) : PbC KX7_readRowPart [(125, TrP, EqC 125), (141, TrP, EqC 141), (129, TrP, EqC 129), (132, TrP, EqC 132), (149, TrP, EqC 149), (147, TrP, EqC 147), (127, TrP, EqC 127)] [(125, Uz_code), (141, Uz_readVariable), (129, Uz_expect), (132, Uz_isType), (149, Uz_readStatement), (147, Uz_readCase)] (fun As σ => Pz_readRowPart y As σ ∧ cnC σ ≤ 1000000 ∧ ∃ w τ, uqC quL 146 As σ w τ) (Qz_readRowPart y) := by sorry
set_option maxHeartbeats 4000000 in
theorem pz_readRow (y : (Int → Int) × (Nat → Nat) × (Nat → Nat) × (Nat → Nat) × (Nat → Nat) × ZS × Nat × Int × Nat) : PbC KX7_readRow [(131, TrP, EqC 131), (125, TrP, EqC 125), (146, TrP, EqC 146)] [(131, Uz_isTooDeep), (125, Uz_code), (146, Uz_readRowPart)] (fun As σ => Pz_readRow y As σ ∧ cnC σ ≤ 1000000 ∧ ∃ w τ, uqC quL 145 As σ w τ) (Qz_readRow y) := by sorry
theorem recS : ∀ L : Nat, (∀ (As : List AvC) (σ : CsC) (w : Option AvC) (τ : CsC), EvF L 149 As σ w τ → Uz_readStatement As σ w τ) ∧ (∀ (As : List AvC) (σ : CsC) (w : Option AvC) (τ : CsC), EvF L 148 As σ w τ → Uz_readInner As σ w τ) ∧ (∀ (As : List AvC) (σ : CsC) (w : Option AvC) (τ : CsC), EvF L 144 As σ w τ → Uz_readBlock As σ w τ) ∧ (∀ (As : List AvC) (σ : CsC) (w : Option AvC) (τ : CsC), EvF L 143 As σ w τ → Uz_readBody As σ w τ) ∧ (∀ (As : List AvC) (σ : CsC) (w : Option AvC) (τ : CsC), EvF L 154 As σ w τ → Uz_readIf As σ w τ) ∧ (∀ (As : List AvC) (σ : CsC) (w : Option AvC) (τ : CsC), EvF L 155 As σ w τ → Uz_readWhile As σ w τ) ∧ (∀ (As : List AvC) (σ : CsC) (w : Option AvC) (τ : CsC), EvF L 156 As σ w τ → Uz_readDo As σ w τ) ∧ (∀ (As : List AvC) (σ : CsC) (w : Option AvC) (τ : CsC), EvF L 157 As σ w τ → Uz_readFor As σ w τ) ∧ (∀ (As : List AvC) (σ : CsC) (w : Option AvC) (τ : CsC), EvF L 159 As σ w τ → Uz_readSwitch As σ w τ) ∧ (∀ (As : List AvC) (σ : CsC) (w : Option AvC) (τ : CsC), EvF L 151 As σ w τ → Uz_readLabel As σ w τ) ∧ (∀ (As : List AvC) (σ : CsC) (w : Option AvC) (τ : CsC), EvF L 160 As σ w τ → Uz_readTry As σ w τ) ∧ (∀ (As : List AvC) (σ : CsC) (w : Option AvC) (τ : CsC), EvF L 150 As σ w τ → Uz_readSimple As σ w τ) ∧ (∀ (As : List AvC) (σ : CsC) (w : Option AvC) (τ : CsC), EvF L 146 As σ w τ → Uz_readRowPart As σ w τ) ∧ (∀ (As : List AvC) (σ : CsC) (w : Option AvC) (τ : CsC), EvF L 145 As σ w τ → Uz_readRow As σ w τ) := by sorry
theorem wz_readStatement (L : Nat) : ∀ (As : List AvC) (σ : CsC) (w : Option AvC) (τ : CsC), EvF L 149 As σ w τ → Uz_readStatement As σ w τ := (recS L).1
theorem wz_readInner (L : Nat) : ∀ (As : List AvC) (σ : CsC) (w : Option AvC) (τ : CsC), EvF L 148 As σ w τ → Uz_readInner As σ w τ := (recS L).2.1
theorem wz_readBlock (L : Nat) : ∀ (As : List AvC) (σ : CsC) (w : Option AvC) (τ : CsC), EvF L 144 As σ w τ → Uz_readBlock As σ w τ := (recS L).2.2.1
theorem wz_readBody (L : Nat) : ∀ (As : List AvC) (σ : CsC) (w : Option AvC) (τ : CsC), EvF L 143 As σ w τ → Uz_readBody As σ w τ := (recS L).2.2.2.1
theorem wz_readIf (L : Nat) : ∀ (As : List AvC) (σ : CsC) (w : Option AvC) (τ : CsC), EvF L 154 As σ w τ → Uz_readIf As σ w τ := (recS L).2.2.2.2.1
theorem wz_readWhile (L : Nat) : ∀ (As : List AvC) (σ : CsC) (w : Option AvC) (τ : CsC), EvF L 155 As σ w τ → Uz_readWhile As σ w τ := (recS L).2.2.2.2.2.1
theorem wz_readDo (L : Nat) : ∀ (As : List AvC) (σ : CsC) (w : Option AvC) (τ : CsC), EvF L 156 As σ w τ → Uz_readDo As σ w τ := (recS L).2.2.2.2.2.2.1
theorem wz_readFor (L : Nat) : ∀ (As : List AvC) (σ : CsC) (w : Option AvC) (τ : CsC), EvF L 157 As σ w τ → Uz_readFor As σ w τ := (recS L).2.2.2.2.2.2.2.1
theorem wz_readSwitch (L : Nat) : ∀ (As : List AvC) (σ : CsC) (w : Option AvC) (τ : CsC), EvF L 159 As σ w τ → Uz_readSwitch As σ w τ := (recS L).2.2.2.2.2.2.2.2.1
theorem wz_readLabel (L : Nat) : ∀ (As : List AvC) (σ : CsC) (w : Option AvC) (τ : CsC), EvF L 151 As σ w τ → Uz_readLabel As σ w τ := (recS L).2.2.2.2.2.2.2.2.2.1
theorem wz_readTry (L : Nat) : ∀ (As : List AvC) (σ : CsC) (w : Option AvC) (τ : CsC), EvF L 160 As σ w τ → Uz_readTry As σ w τ := (recS L).2.2.2.2.2.2.2.2.2.2.1
theorem wz_readSimple (L : Nat) : ∀ (As : List AvC) (σ : CsC) (w : Option AvC) (τ : CsC), EvF L 150 As σ w τ → Uz_readSimple As σ w τ := (recS L).2.2.2.2.2.2.2.2.2.2.2.1
theorem wz_readRowPart (L : Nat) : ∀ (As : List AvC) (σ : CsC) (w : Option AvC) (τ : CsC), EvF L 146 As σ w τ → Uz_readRowPart As σ w τ := (recS L).2.2.2.2.2.2.2.2.2.2.2.2.1
theorem wz_readRow (L : Nat) : ∀ (As : List AvC) (σ : CsC) (w : Option AvC) (τ : CsC), EvF L 145 As σ w τ → Uz_readRow As σ w τ := (recS L).2.2.2.2.2.2.2.2.2.2.2.2.2
/-! params -/
/-- one param's type is told -/
def ApX (p0 r n : Nat) (σ τ : CsC) : Prop := (fIC τ p0 185).toInt = (n : Int) + 1 ∧ (∀ a k, k ≠ 185 → fIC τ a k = fIC σ a k) ∧ (fLC τ = fLC σ ∧ fRC τ = fRC σ) ∧ (∀ b, b ≠ r → eIC τ b = eIC σ b) ∧ (eLC τ = eLC σ ∧ eRC τ = eRC σ) ∧ cnC τ = cnC σ
theorem ZC.ap {N : Int → Int} {E A B V : Nat → Nat} {σ τ : CsC} {z z' : ZS} {p0 r n : Nat} (h : ZC N E A B V σ z) (f : ApX p0 r n σ τ) (hr : r ≠ E 302) (e : z'.2 = z.2) (e1 : z'.1.1 = z.1.1) (e2 : zVs z'.1 = zVs z.1) (e3 : zK z'.1 = zK z.1) (e4 : (zMs z'.1).length = (zMs z.1).length) : ZC N E A B V τ z' := by sorry
theorem FzC.ap {n m : Nat} {E A A' B B' V V' : Nat → Nat} {y z z' : ZS} {σ τ υ : CsC} {p0 r k : Nat} (h : FzC n m E A A' B B' V V' y z σ τ) (f : ApX p0 r k τ υ) (hr : r ≠ E 303) (e : z'.2 = z.2) (e1 : z'.1.1 = z.1.1) (e2 : zVs z'.1 = zVs z.1) : FzC n m E A A' B B' V V' y z' σ υ := by sorry
abbrev Pz_addParam : ((Int → Int) × (Nat → Nat) × (Nat → Nat) × (Nat → Nat) × (Nat → Nat) × ZS × Nat × Nat) → CpC := fun y As σ => match y with
  | (N, E, A, B, V, z, r, n) => ∃ (p0 : Nat) (p1 : Int32), As = [.inr (.inr (some p0)), .inl p1] ∧ (fRC σ p0 183 = some r) ∧ ((fIC σ p0 185).toInt = (n : Int) ∧ n < 6)
abbrev Qz_addParam : ((Int → Int) × (Nat → Nat) × (Nat → Nat) × (Nat → Nat) × (Nat → Nat) × ZS × Nat × Nat) → CqC := fun y As σ w τ => match y, As with
  | (N, E, A, B, V, z, r, n), [.inr (.inr (some p0)), .inl p1] => w = none ∧ ApX p0 r n σ τ
  | _, _ => True
abbrev Uz_addParam : CqC := fun As σ w τ => ∀ y, Pz_addParam y As σ → Qz_addParam y As σ w τ
set_option maxHeartbeats 4000000 in
theorem pz_addParam (y : (Int → Int) × (Nat → Nat) × (Nat → Nat) × (Nat → Nat) × (Nat → Nat) × ZS × Nat × Nat) : PbC KX5_addParam [] [] (fun As σ => Pz_addParam y As σ ∧ cnC σ ≤ 1000000 ∧ ∃ w τ, uqC quL 112 As σ w τ) (Qz_addParam y) := by sorry
theorem wz_addParam : ∀ (L : Nat) (As : List AvC) (σ : CsC) (w : Option AvC) (τ : CsC), EvF L 112 As σ w τ → Uz_addParam As σ w τ := by sorry
/-! params, methods -/
theorem pa1_7 {N : Int → Int} {i : Nat} {z : ZS} : pa1M N i z = pa2M N i (tyvY (t7M z).1) (f7Z z) (typM (t7M z)) := by sorry
theorem pad_l {ty : Int} {s : SpC} : (zMs (padY ty s)).length = (zMs s).length := by sorry
theorem pa2_k {N : Int → Int} {i : Nat} {ty f : Int} {z : ZS} : (pa2M N i ty f z).2.1 = z.2.1 ∧ (pa2M N i ty f z).2.2.1 = z.2.2.1 ∧ (pa2M N i ty f z).2.2.2.1.2 = z.2.2.2.1.2 := by sorry
theorem t7_k {z : ZS} : (t7M z).2 = z.2 := by sorry
theorem pa1_k {N : Int → Int} {i : Nat} {z : ZS} : (pa1M N i z).2.1 = z.2.1 ∧ (pa1M N i z).2.2.1 = z.2.2.1 ∧ (pa1M N i z).2.2.2.1.2 = z.2.2.2.1.2 := by sorry
theorem pal_k {N : Int → Int} : ∀ (f i : Nat) (z : ZS), (palM N f i z).2.1 = z.2.1 ∧ (palM N f i z).2.2.1 = z.2.2.1 ∧ (palM N f i z).2.2.2.1.2 = z.2.2.2.1.2 := by sorry
theorem pa_k {N : Int → Int} {z : ZS} : (paM N z).2.1 = z.2.1 ∧ (paM N z).2.2.1 = z.2.2.1 ∧ (paM N z).2.2.2.1.2 = z.2.2.2.1.2 := by sorry
/-- what stands in the loop over params -/
def PaL (N : Int → Int) (E A B V : Nat → Nat) (z : ZS) (σ : CsC) (p1 r : Nat) (υ : CsC) (U : Nat → Nat) (v : ZS) (j : Nat) : Prop := (ZC N E A B U υ v ∧ FzC (cnC σ) (xnM z) E A A B B V U z v σ υ) ∧ (fRC υ p1 183 = some r ∧ (fIC υ p1 185).toInt = (j : Int) ∧ p1 < cnC υ) ∧ cnC σ ≤ cnC υ
abbrev Pz_readParams : ((Int → Int) × (Nat → Nat) × (Nat → Nat) × (Nat → Nat) × (Nat → Nat) × ZS × Nat) → CpC := fun y As σ => match y with
  | (N, E, A, B, V, z, r) => ∃ (p1 : Nat), As = [.inr (.inr (some (E 0))), .inr (.inr (some p1))] ∧ (ZC N E A B V σ z) ∧ (fRC σ p1 183 = some r ∧ (fIC σ p1 185).toInt = 0 ∧ p1 < cnC σ) ∧ (r ≠ E 302 ∧ r ≠ E 303) ∧ (zFt (paM N z).1 = 0)
abbrev Qz_readParams : ((Int → Int) × (Nat → Nat) × (Nat → Nat) × (Nat → Nat) × (Nat → Nat) × ZS × Nat) → CqC := fun y As σ w τ => match y, As with
  | (N, E, A, B, V, z, r), [_, .inr (.inr (some p1))] => w = none ∧ ∃ V' : Nat → Nat, ZC N E A B V' τ (paM N z) ∧ FzC (cnC σ) (xnM z) E A A B B V V' z (paM N z) σ τ
  | _, _ => True
abbrev Uz_readParams : CqC := fun As σ w τ => ∀ y, Pz_readParams y As σ → Qz_readParams y As σ w τ
set_option maxHeartbeats 4000000 in
theorem pz_readParams (y : (Int → Int) × (Nat → Nat) × (Nat → Nat) × (Nat → Nat) × (Nat → Nat) × ZS × Nat) : PbC KX7_readParams [(129, TrP, EqC 129), (125, TrP, EqC 125), (130, TrP, EqC 130), (136, TrP, EqC 136), (137, TrP, EqC 137), (138, TrP, EqC 138), (112, TrP, EqC 112)] [(129, Uz_expect), (125, Uz_code), (130, Uz_takes), (136, Uz_readType), (137, Uz_declare), (138, Uz_know), (112, Uz_addParam)] (fun As σ => Pz_readParams y As σ ∧ cnC σ ≤ 1000000 ∧ ∃ w τ, uqC quL 135 As σ w τ) (Qz_readParams y) := by sorry
theorem wz_readParams : ∀ (L : Nat) (As : List AvC) (σ : CsC) (w : Option AvC) (τ : CsC), EvF L 135 As σ w τ → Uz_readParams As σ w τ := by sorry
/-! Method() -/
/-- objects below c, but p0, stay -/
def PmX (p0 c : Nat) (σ τ : CsC) : Prop := cnC σ ≤ cnC τ ∧ (∀ a, a < c → a ≠ p0 → ∀ j, fIC τ a j = fIC σ a j ∧ fLC τ a j = fLC σ a j ∧ fRC τ a j = fRC σ a j) ∧ (∀ a, a < c → eIC τ a = eIC σ a ∧ eLC τ a = eLC σ a ∧ eRC τ a = eRC σ a)
theorem PmX.tr {p0 c : Nat} {σ τ υ : CsC} (h : PmX p0 c σ τ) (g : PmX p0 c τ υ) : PmX p0 c σ υ := by sorry
theorem PmX.pI {p0 c k : Nat} {v : Int32} {σ : CsC} : PmX p0 c σ (pIC σ p0 k v) := by sorry
theorem PmX.pL {p0 c k : Nat} {v : Int64} {σ : CsC} : PmX p0 c σ (pLC σ p0 k v) := by sorry
theorem PmX.pR {p0 c k : Nat} {v : Option Nat} {σ : CsC} : PmX p0 c σ (pRC σ p0 k v) := by sorry
theorem PmX.nO {p0 c t N g : Nat} {σ : CsC} (hc : c ≤ cnC σ) : PmX p0 c σ (nOC σ t N g) := by sorry
theorem PmX.nA {p0 c t N g : Nat} {σ : CsC} (hc : c ≤ cnC σ) : PmX p0 c σ (nAC σ t N g) := by sorry
theorem PmX.is {p0 c p1 : Nat} {x1 x2 x3 : Int32} {x4 : Option Nat} {x5 : Int64} {σ τ : CsC} (h : InS p1 x1 x2 x3 x4 x5 σ τ) (hc : c ≤ p1) : PmX p0 c σ τ := by sorry
theorem PmX.we {p0 c : Nat} {σ τ υ : CsC} (h : PmX p0 c σ τ) (g : WeC τ υ) : PmX p0 c σ υ := by sorry
def InM (p0 : Nat) (t : Int32) (k : Int64) (ty fv : Int32) (σ τ : CsC) : Prop := PmX p0 (cnC σ) σ τ ∧ (fIC τ p0 180 = t ∧ fLC τ p0 181 = k ∧ fIC τ p0 182 = ty ∧ fIC τ p0 184 = fv ∧ fIC τ p0 185 = fIC σ p0 185) ∧ ∃ r, (cnC σ ≤ r ∧ r < cnC τ) ∧ fRC τ p0 183 = some r
abbrev Pz_Method : ((Int → Int) × (Nat → Nat) × (Nat → Nat) × (Nat → Nat) × (Nat → Nat) × ZS) → CpC := fun y As σ => match y with
  | (N, E, A, B, V, z) => ∃ (p0 : Nat) (p1 : Int32) (p2 : Int64) (p3 : Int32) (p4 : Int32), As = [.inr (.inr (some p0)), .inl p1, .inr (.inl p2), .inl p3, .inl p4] ∧ (p0 < cnC σ)
abbrev Qz_Method : ((Int → Int) × (Nat → Nat) × (Nat → Nat) × (Nat → Nat) × (Nat → Nat) × ZS) → CqC := fun y As σ w τ => match y, As with
  | (N, E, A, B, V, z), [.inr (.inr (some p0)), .inl p1, .inr (.inl p2), .inl p3, .inl p4] => w = none ∧ InM p0 p1 p2 p3 p4 σ τ
  | _, _ => True
abbrev Uz_Method : CqC := fun As σ w τ => ∀ y, Pz_Method y As σ → Qz_Method y As σ w τ
set_option maxHeartbeats 4000000 in
theorem pz_Method (y : (Int → Int) × (Nat → Nat) × (Nat → Nat) × (Nat → Nat) × (Nat → Nat) × ZS) : PbC KX5_init [(178, TrP, EqC 178)] [(178, Uz_Statement)] (fun As σ => Pz_Method y As σ ∧ cnC σ ≤ 1000000 ∧ ∃ w τ, uqC quL 111 As σ w τ) (Qz_Method y) := by sorry
theorem wz_Method : ∀ (L : Nat) (As : List AvC) (σ : CsC) (w : Option AvC) (τ : CsC), EvF L 111 As σ w τ → Uz_Method As σ w τ := by sorry
/-! readMethod -/
/-- what is known is another -/
def skM (K : List (Int × Int)) (z : ZS) : ZS := (z.1, z.2.1, z.2.2.1, (K, z.2.2.2.1.2), z.2.2.2.2)
theorem bo_sk {N : Int → Int} {E A B V : Nat → Nat} {σ : CsC} {Rw : Int → Nat → ZS → ZS × Int} {n : Nat} {K : List (Int × Int)} {z : ZS} (h : ZC N E A B V σ (boM Rw n K z)) : ZC N E A B V σ (skM K (boM Rw n [] z)) := h
/-- method k of a list whose last one stands first -/
def mth (s : SpC) (k : Nat) : Int × Int × List Int := (zMs s).getD ((zMs s).length - 1 - k) (0, 0, [])
/-- what methods' objects hold beyond their face: key, first variable, body -/
def MhC (N : Int → Int) (E B J F : Nat → Nat) (σ : CsC) (z : ZS) : Prop := ∀ k, k < (zMs z.1).length → (fLC σ (E (1000 + k)) 181).toInt = N (mth z.1 k).1 ∧ (fIC σ (E (1000 + k)) 184).toInt = (F k : Int) ∧ fRC σ (E (1000 + k)) 186 = some (B (J k)) ∧ J k < snM z
theorem LiC.nm {σ τ : CsC} {a n : Nat} {A : Nat → Nat} (h : LiC σ a n A) (H : HI0 σ) (ha : a < cnC σ) (ht : tgC σ a = 0) (h1 : fRC τ a 1 = fRC σ a 1) (h3 : fIC τ a 2 = fIC σ a 2) (h2 : ∀ b, b < cnC σ → eRC τ b = eRC σ b) (h4 : cnC σ ≤ cnC τ) : LiC τ a n A := by sorry
theorem ZC.nm {N : Int → Int} {E A B V : Nat → Nat} {σ τ : CsC} {z : ZS} (h : ZC N E A B V σ z) (H : HI0 σ) (t8 : TyC σ (E 0) 8) (f1 : ∀ a, a < cnC σ → ∀ k, fIC τ a k = fIC σ a k ∧ fLC τ a k = fLC σ a k ∧ fRC τ a k = fRC σ a k) (f2 : ∀ a, a < cnC σ → eIC τ a = eIC σ a ∧ eLC τ a = eLC σ a ∧ eRC τ a = eRC σ a) (hc : cnC σ ≤ cnC τ) : ZC N E A B V τ z := by sorry
/-- a method more -/
theorem ZC.me {N : Int → Int} {E A B V : Nat → Nat} {σ τ : CsC} {z : ZS} {ty : Int} {o : Nat} (h : ZC N E A B V σ z) (F : PoX o σ τ) (ho : cnC σ ≤ o) (l1 : LiC τ (E 213) (xnM z) A) (l2 : LiC τ (E 214) (snM z) B) (l3 : LiC τ (E 212) (zVs z.1).length V) (l4 : LiC τ (E 211) ((zMs z.1).length + 1) (fun k => E (1000 + k))) : ZC N E A B V τ (metY ty z.1, z.2) := by sorry
theorem FzC.me {n m : Nat} {E A B V : Nat → Nat} {z : ZS} {ty : Int} {o : Nat} {σ τ : CsC} (F : PoX o σ τ) (hn : n ≤ o) (hc : n ≤ cnC σ) (h3 : E 303 < cnC σ) : FzC n m E A A B B V V z (metY ty z.1, z.2) σ τ := by sorry
/-- a method's field is no matter of what is laid -/
theorem ZC.m6 {N : Int → Int} {E A B V : Nat → Nat} {σ : CsC} {z : ZS} {a : Nat} {w : Option Nat} (h : ZC N E A B V σ z) : ZC N E A B V (pRC σ a 186 w) z := by sorry
theorem KbC.nil : KbC (Int64.ofNat ((0 : Fin 2) : Nat)) [] := by sorry
theorem ZC.eE {N : Int → Int} {E E' A B V : Nat → Nat} {σ : CsC} {z : ZS} (h : ZC N E A B V σ z) (e : ∀ k, k < 1000 + (zMs z.1).length → E' k = E k) : ZC N E' A B V σ z := by sorry
theorem FzC.eE {n m : Nat} {E E' A A' B B' V V' : Nat → Nat} {z z' : ZS} {σ τ : CsC} (h : FzC n m E A A' B B' V V' z z' σ τ) (e : E' 303 = E 303) : FzC n m E' A A' B B' V V' z z' σ τ := by sorry
/-- fields of methods' objects that reading leaves alone -/
def MkX (c : Nat) (σ τ : CsC) : Prop := (∀ a, a < c → fLC τ a 181 = fLC σ a 181 ∧ fIC τ a 184 = fIC σ a 184 ∧ fRC τ a 186 = fRC σ a 186) ∧ cnC σ ≤ cnC τ
theorem MkX.tr {c : Nat} {σ τ υ : CsC} (h : MkX c σ τ) (g : MkX c τ υ) : MkX c σ υ := by sorry
theorem mth_o {ty : Int} {s : SpC} {k : Nat} (h : k < (zMs s).length) : mth (metY ty s) k = mth s k := by sorry
theorem mth_n {ty : Int} {s : SpC} : mth (metY ty s) (zMs s).length = (zAt s, ty, []) := by sorry
/-! ahead of a method -/
def prS (e : Nat) (σ : CsC) : CsC := pRC (pLC σ e 245 (Int64.ofNat ((0 : Fin 2) : Nat))) e 246 none
def rsM (z : ZS) : ZS := arM (-1) (skM [] z)
def R1C (N : Int → Int) (E A B V : Nat → Nat) (σ : CsC) (z : ZS) : Prop := EnC E σ ∧ (((fIC σ (E 0) 242).toInt = zAt z.1 ∧ (fIC σ (E 0) 243).toInt = zFt z.1) ∧ True) ∧ ((∀ j, (eIC σ (E 302) j).toInt = zK z.1 j) ∧ ∀ j : Nat, (eLC σ (E 304) j).toInt = N j) ∧ (LiC σ (E 213) (xnM z) A ∧ LiC σ (E 214) (snM z) B ∧ LiC σ (E 212) (zVs z.1).length V ∧ LiC σ (E 211) (zMs z.1).length (fun k => E (1000 + k))) ∧ True
theorem ZC.r1 {N : Int → Int} {E A B V : Nat → Nat} {σ : CsC} {e : Nat} {z : ZS} (h : ZC N E A B V (prS e σ) z) : R1C N E A B V σ z := ⟨h.1, ⟨h.2.1.1, trivial⟩, h.2.2.1, h.2.2.2.1, trivial⟩
theorem ZC.at1 {N : Int → Int} {E A B V : Nat → Nat} {σ : CsC} {z : ZS} (h : R1C N E A B V σ z) (H : HI0 σ ∧ TyC σ (E 0) 8) : 0 ≤ zAt z.1 ∧ zAt z.1 ≤ 500 := by sorry
theorem u2_cg {α : Type} {f g : Nat → Nat → α} {e j a k : Nat} {v : α} (h : f a k = g a k) : u2C f e j v a k = u2C g e j v a k := by sorry
theorem pr_cg {e a k : Nat} {σ τ : CsC} (h : fIC τ a k = fIC σ a k ∧ fLC τ a k = fLC σ a k ∧ fRC τ a k = fRC σ a k) : fIC (prS e τ) a k = fIC (prS e σ) a k ∧ fLC (prS e τ) a k = fLC (prS e σ) a k ∧ fRC (prS e τ) a k = fRC (prS e σ) a k := by sorry
theorem PoX.pr {o e : Nat} {σ τ : CsC} (h : PoX o σ τ) : PoX o (prS e σ) (prS e τ) := by sorry
theorem ZC.np {N : Int → Int} {E A B V : Nat → Nat} {σ τ : CsC} {e : Nat} {z : ZS} (h : ZC N E A B V (prS e σ) z) (H : HI0 σ) (t8 : TyC σ (E 0) 8) (f1 : ∀ a, a < cnC σ → ∀ k, fIC τ a k = fIC σ a k ∧ fLC τ a k = fLC σ a k ∧ fRC τ a k = fRC σ a k) (f2 : ∀ a, a < cnC σ → eIC τ a = eIC σ a ∧ eLC τ a = eLC σ a ∧ eRC τ a = eRC σ a) (hc : cnC σ ≤ cnC τ) : ZC N E A B V (prS e τ) z := by sorry
theorem ZC.rs {N : Int → Int} {E A B V : Nat → Nat} {σ : CsC} {z : ZS} {K : List (Int × Int)} (h : ZC N E A B V σ (skM K z)) : ZC N E A B V (prS (E 0) σ) (rsM z) := by sorry
abbrev Pz_code0 : ((Int → Int) × (Nat → Nat) × (Nat → Nat) × (Nat → Nat) × (Nat → Nat) × ZS) → CpC := fun y As σ => match y with
  | (N, E, A, B, V, z) => As = [.inr (.inr (some (E 0)))] ∧ (ZC N E A B V (prS (E 0) σ) z)
abbrev Qz_code0 : ((Int → Int) × (Nat → Nat) × (Nat → Nat) × (Nat → Nat) × (Nat → Nat) × ZS) → CqC := fun y As σ w τ => match y, As with
  | (N, E, A, B, V, z), [_] => ∃ c, w = some (.inl c) ∧ c.toInt = codY z.1 ∧ σ = τ
  | _, _ => True
abbrev Uz_code0 : CqC := fun As σ w τ => ∀ y, Pz_code0 y As σ → Qz_code0 y As σ w τ
set_option maxHeartbeats 4000000 in
theorem pz_code0 (y : (Int → Int) × (Nat → Nat) × (Nat → Nat) × (Nat → Nat) × (Nat → Nat) × ZS) : PbC KX7_code [] [] (fun As σ => Pz_code0 y As σ ∧ cnC σ ≤ 1000000 ∧ ∃ w τ, uqC quL 125 As σ w τ) (Qz_code0 y) := by sorry
theorem wz_code0 : ∀ (L : Nat) (As : List AvC) (σ : CsC) (w : Option AvC) (τ : CsC), EvF L 125 As σ w τ → Uz_code0 As σ w τ := by sorry
abbrev Pz_accept0 : ((Int → Int) × (Nat → Nat) × (Nat → Nat) × (Nat → Nat) × (Nat → Nat) × ZS) → CpC := fun y As σ => match y with
  | (N, E, A, B, V, z) => As = [.inr (.inr (some (E 0)))] ∧ (ZC N E A B V (prS (E 0) σ) z) ∧ (zFt (accM z).1 = 0)
abbrev Qz_accept0 : ((Int → Int) × (Nat → Nat) × (Nat → Nat) × (Nat → Nat) × (Nat → Nat) × ZS) → CqC := fun y As σ w τ => match y, As with
  | (N, E, A, B, V, z), [_] => w = none ∧ ZC N E A B V (prS (E 0) τ) (accM z) ∧ FzC (cnC σ) (xnM z) E A A B B V V z (accM z) σ τ
  | _, _ => True
abbrev Uz_accept0 : CqC := fun As σ w τ => ∀ y, Pz_accept0 y As σ → Qz_accept0 y As σ w τ
set_option maxHeartbeats 4000000 in
theorem pz_accept0 (y : (Int → Int) × (Nat → Nat) × (Nat → Nat) × (Nat → Nat) × (Nat → Nat) × ZS) : PbC KX7_accept [(127, TrP, EqC 127)] [] (fun As σ => Pz_accept0 y As σ ∧ cnC σ ≤ 1000000 ∧ ∃ w τ, uqC quL 128 As σ w τ) (Qz_accept0 y) := by sorry
theorem wz_accept0 : ∀ (L : Nat) (As : List AvC) (σ : CsC) (w : Option AvC) (τ : CsC), EvF L 128 As σ w τ → Uz_accept0 As σ w τ := by sorry
abbrev Uz_code9 : CqC := fun As σ w τ => Uz_code As σ w τ ∧ Uz_code0 As σ w τ
theorem wz_code9 : ∀ (L : Nat) (As : List AvC) (σ : CsC) (w : Option AvC) (τ : CsC), EvF L 125 As σ w τ → Uz_code9 As σ w τ := by sorry
abbrev Uz_accept9 : CqC := fun As σ w τ => Uz_accept As σ w τ ∧ Uz_accept0 As σ w τ
theorem wz_accept9 : ∀ (L : Nat) (As : List AvC) (σ : CsC) (w : Option AvC) (τ : CsC), EvF L 128 As σ w τ → Uz_accept9 As σ w τ := by sorry
/-! NAMES and TYPES of methods stay -/
def nmT (s : SpC) : List (Int × Int) := (zMs s).map (fun m => (m.1, m.2.1))
def LkY (s t : SpC) : Prop := nmT t = nmT s ∧ True
theorem LkY.rf {s : SpC} : LkY s s := ⟨rfl, trivial⟩
theorem LkY.tr {s t u : SpC} (h : LkY s t) (g : LkY t u) : LkY s u := ⟨g.1.trans h.1, trivial⟩
abbrev GkY (f : SpC → SpC) : Prop := ∀ s, LkY s (f s)
theorem LkY.s2 {s t : SpC} (h : t.2.1.1 = s.2.1.1) : LkY s t := ⟨by unfold nmT zMs; rw [h], trivial⟩
theorem gk_rai {n : Int} : GkY (raiY n) := by sorry
theorem gk_acc : GkY accY := by sorry
theorem gk_vad {ty f : Int} : GkY (vadY ty f) := fun _ => LkY.s2 rfl
theorem gk_pad {ty : Int} : GkY (padY ty) := by sorry
def PkY (s t : SpC) : Prop := LkY s t ∧ True
theorem PkY.l {s t u : SpC} (h : PkY s t) (g : LkY t u) : PkY s u := ⟨h.1.tr g, trivial⟩
theorem PkY.r {s t u : SpC} (g : LkY s t) (h : PkY t u) : PkY s u := ⟨g.tr h.1, trivial⟩
theorem pk_acc {s : SpC} : PkY s (accY s) := ⟨gk_acc s, trivial⟩
theorem pk_rai {n : Int} {s : SpC} (hn : ¬ n = 0) : PkY s (raiY n s) := ⟨gk_rai s, trivial⟩
theorem gk_xp {c : Int} : GkY (xpY c) := by sorry
theorem gk_typ : GkY typY := by sorry
theorem gk_dc1 {h : Int} : GkY (dc1Y h) := by sorry
theorem gk_dc2 {ty f : Int} : GkY (dc2Y ty f) := by sorry
theorem gk_dcl {ty f h : Int} : GkY (dclY ty f h) := fun s => (gk_dc1 s).tr (gk_dc2 _)
theorem gk_clp {E : SpC → SpC} (hE : GkY E) : ∀ n, GkY (clpY E n) := by sorry
theorem gk_chl {E : SpC → SpC} (hE : GkY E) : ∀ n, GkY (chlY E n) := by sorry
theorem gk_opr {m : Nat} {E I : SpC → SpC} (hE : GkY E) (hI : GkY I) : GkY (oprY m E I) := by sorry
theorem gk_chc {O E C : SpC → SpC} (hO : GkY O) (hE : GkY E) (hC : GkY C) : GkY (chcY O E C) := by sorry
theorem gk_xps {O E C : SpC → SpC} (hO : GkY O) (hE : GkY E) (hC : GkY C) : GkY (xpsY O E C) := by sorry
theorem gk_lv : ∀ n, GkY (lvY n).1 ∧ GkY (lvY n).2.1 ∧ GkY (lvY n).2.2 := by sorry
theorem gk_e {n : Nat} : GkY (eY n) := (gk_lv n).1
theorem gk_c {n : Nat} : GkY (cY n) := (gk_lv n).2.1
theorem gk_o {n : Nat} : GkY (oY n) := (gk_lv n).2.2
theorem gk_op {n : Nat} : GkY (opY n) := gk_opr gk_e gk_o
theorem pk_xp {c : Int} {s : SpC} : PkY s (xpY c s) := by sorry
theorem pk_typ {s : SpC} : PkY s (typY s) := by sorry
theorem gk_cnd {n : Nat} : GkY (cndY n) := fun s => ((gk_xp s).tr (gk_e _)).tr (gk_xp _)
theorem gk_va2 {n : Nat} {f : Int} : GkY (va2Y n f) := by sorry
theorem pk_var {n : Nat} {s : SpC} : PkY s (varY n s) := by sorry
theorem gk_fex {n : Nat} : GkY (fexY n) := fun s => (gk_e s).tr (gk_clp gk_e _ _)
theorem pk_cas {n : Nat} {s : SpC} : PkY s (casY n s) := by sorry
theorem gk_blk {Rw : Int → SpC → SpC} (h : ∀ sw, GkY (Rw sw)) : GkY (blkY Rw) := fun s => ((gk_xp s).tr (h _ _)).tr (gk_xp _)
theorem gk_si3 {k : Int} : GkY (si3Y k) := by sorry
theorem gk_si2 {n : Nat} {k : Int} : GkY (si2Y n k) := by sorry
theorem gk_if2 {St : SpC → SpC} (h : GkY St) : GkY (if2Y St) := by sorry
theorem gk_tr1 : GkY tr1Y := by sorry
theorem gk_tr2 {Rw : Int → SpC → SpC} (h : ∀ sw, GkY (Rw sw)) : GkY (tr2Y Rw) := by sorry
theorem gk_tr3 {Rw : Int → SpC → SpC} (h : ∀ sw, GkY (Rw sw)) : GkY (tr3Y Rw) := by sorry
theorem gk_fo1 {n : Nat} : GkY (fo1Y n) := by sorry
theorem gk_fo2 {n : Nat} : GkY (fo2Y n) := by sorry
theorem gk_fo3 {n : Nat} : GkY (fo3Y n) := by sorry
theorem pk_sm {n : Nat} {St : SpC → SpC} {Rw : Int → SpC → SpC} (hS : GkY St) (hR : ∀ sw, GkY (Rw sw)) {s : SpC} : PkY s (smY n St Rw s) := by sorry
theorem gk_rp2 {n : Nat} {S : SpC → SpC} (hS : GkY S) : GkY (rp2Y n S) := by sorry
theorem gk_rpa {n : Nat} {S : SpC → SpC} (hS : GkY S) {sw b : Int} : GkY (rpaY n S sw b) := by sorry
theorem gk_rwl {n : Nat} {S : SpC → SpC} (hS : GkY S) {sw : Int} : ∀ (f : Nat) (b : Int), GkY (rwlY n S sw f b) := by sorry
theorem gk_ls : ∀ n, GkY (lsY n).1 ∧ ∀ sw, GkY ((lsY n).2 sw) := by sorry
theorem gk_st {n : Nat} : GkY (stY n) := (gk_ls n).1
theorem gk_rw {n : Nat} {sw : Int} : GkY (rwY n sw) := (gk_ls n).2 sw
theorem pk_st {n : Nat} {s : SpC} : PkY s (stY n s) := by sorry
theorem pk_rp2 {n : Nat} {s : SpC} : PkY s (rp2Y n (stY n) s) := by sorry
theorem gk_pa2 {i : Nat} {ty f : Int} : GkY (pa2Y i ty f) := by sorry
theorem gk_pa1 {i : Nat} : GkY (pa1Y i) := by sorry
theorem gk_pal : ∀ f i, GkY (palY f i) := by sorry
theorem gk_par : GkY parY := by sorry
theorem gdm {d : Int × Int × List Int} : ∀ {l : List (Int × Int × List Int)} {i : Nat}, (l.map (fun m => (m.1, m.2.1))).getD i (d.1, d.2.1) = ((l.getD i d).1, (l.getD i d).2.1) := by sorry
theorem LkY.mt {s t : SpC} (h : LkY s t) : (zMs t).length = (zMs s).length ∧ ∀ k, ((mth t k).1, (mth t k).2.1) = ((mth s k).1, (mth s k).2.1) := by sorry
theorem MkX.fr {c : Nat} {M : List Nat} {σ τ : CsC} (h : FrE M σ τ) (h9 : M.elem 999 = false) (h1 : M.elem 181 = false) (h4 : M.elem 184 = false) (h6 : M.elem 186 = false) (hc : c ≤ cnC σ) : MkX c σ τ := by sorry
theorem pL_k {σ : CsC} {o a k j : Nat} {w : Int64} (h : j ≠ k) : fLC (pLC σ o k w) a j = fLC σ a j := u2C_nk h
theorem MkX.rf {c : Nat} {σ : CsC} : MkX c σ σ := ⟨fun _ _ => ⟨rfl, rfl, rfl⟩, Nat.le_refl _⟩
abbrev Pz_readMethod : ((Int → Int) × (Nat → Nat) × (Nat → Nat) × (Nat → Nat) × (Nat → Nat) × ZS × (Nat → Nat) × (Nat → Nat)) → CpC := fun y As σ => match y with
  | (N, Eo, A, B, V, z, J, F) => As = [.inr (.inr (some (Eo 0)))] ∧ (ZC N Eo A B V (prS (Eo 0) σ) z) ∧ (z.2.2.2.1 = ([], -1)) ∧ (MhC N Eo B J F σ z) ∧ (zFt (meM N z).1 = 0)
abbrev Qz_readMethod : ((Int → Int) × (Nat → Nat) × (Nat → Nat) × (Nat → Nat) × (Nat → Nat) × ZS × (Nat → Nat) × (Nat → Nat)) → CqC := fun y As σ w τ => match y, As with
  | (N, Eo, A, B, V, z, J, F), [_] => w = none ∧ ∃ (E' A' B' V' : Nat → Nat), (∀ k, k < 1000 + (zMs z.1).length → E' k = Eo k) ∧ ZC N E' A' B' V' (prS (E' 0) τ) (rsM (meM N z)) ∧ MhC N E' B' (upA J (zMs z.1).length (snM z)) (upA F (zMs z.1).length (zVs z.1).length) τ (rsM (meM N z))
  | _, _ => True
abbrev Uz_readMethod : CqC := fun As σ w τ => ∀ y, Pz_readMethod y As σ → Qz_readMethod y As σ w τ
set_option maxHeartbeats 4000000 in
theorem pz_readMethod (y : (Int → Int) × (Nat → Nat) × (Nat → Nat) × (Nat → Nat) × (Nat → Nat) × ZS × (Nat → Nat) × (Nat → Nat)) : PbC KX7_readMethod [(125, TrP, EqC 125), (132, TrP, EqC 132), (128, TrP, EqC 128), (234, TrP, EqC 234), (111, TrP, EqC 111), (236, TrP, EqC 236), (135, TrP, EqC 135), (143, TrP, EqC 143), (127, TrP, EqC 127)] [(125, Uz_code9), (132, Uz_isType), (128, Uz_accept9), (111, Uz_Method), (135, Uz_readParams), (143, Uz_readBody)] (fun As σ => Pz_readMethod y As σ ∧ cnC σ ≤ 1000000 ∧ ∃ w τ, uqC quL 134 As σ w τ) (Qz_readMethod y) := by sorry
theorem wz_readMethod : ∀ (L : Nat) (As : List AvC) (σ : CsC) (w : Option AvC) (τ : CsC), EvF L 134 As σ w τ → Uz_readMethod As σ w τ := by sorry
def Pv_paramZ (N : Int → Int) (z : ZS) (i kn : Nat) : UP1 := fun A1 σ => match A1 with
  | [.int m, .int k] => PaR σ z.1 i ∧ m = gI σ 36 ∧ PZ N σ z kn ∧ k.toInt = (kn : Int)
  | _ => False
def Qv_paramZ (N : Int → Int) (z : ZS) (i kn : Nat) : UQ1 := fun A1 σ w τ => match A1 with
  | [.int m, .int k] => (w = some (.int 0) ∧ FlR τ (pa1Y i z.1)) ∨ (w = some (.int 1) ∧ i < 6 ∧ PaR τ (pa1Y i z.1) (i + 1) ∧ gI τ 36 = gI σ 36 ∧ gI τ 49 = gI σ 49 ∧ aI τ 37 = aI σ 37 ∧ PZ N τ (pa1M N i z) kn)
  | _ => False
def Qw_paramZ : UQ1 := fun A1 σ w τ => ∀ (N : Int → Int) (z : ZS) (i kn : Nat), Pv_paramZ N z i kn A1 σ → Qv_paramZ N z i kn A1 σ w τ
set_option maxRecDepth 100000 in
set_option maxHeartbeats 4000000 in
theorem v_paramZ (N : Int → Int) (z : ZS) (i kn : Nat) : UMet 39 (Pv_paramZ N z i kn) (Qv_paramZ N z i kn) := by sorry
theorem w_paramZ : UMet 39 (fun _ _ => True) Qw_paramZ := by sorry
def Pv_methodZ (N : Int → Int) (z : ZS) : UP1 := fun A1 σ => match A1 with
  | [] => MhR σ z.1 ∧ MZ N σ z
  | _ => False
def Qv_methodZ (N : Int → Int) (z : ZS) : UQ1 := fun A1 σ w τ => match A1 with
  | [] => (w = some (.int 0) ∧ FlR τ (meM N z).1) ∨ (w = some (.int 1) ∧ MhR τ (meM N z).1 ∧ MZ N τ (meM N z))
  | _ => False
def Qw_methodZ : UQ1 := fun A1 σ w τ => ∀ (N : Int → Int) (z : ZS), Pv_methodZ N z A1 σ → Qv_methodZ N z A1 σ w τ
set_option maxRecDepth 100000 in
set_option maxHeartbeats 4000000 in
theorem v_methodZ (N : Int → Int) (z : ZS) : UMet 38 (Pv_methodZ N z) (Qv_methodZ N z) := by sorry
theorem w_methodZ : UMet 38 (fun _ _ => True) Qw_methodZ := fun A1 σ _ w τ h N z hP => v_methodZ N z A1 σ hP w τ h
def Pv_parseZ (N : Int → Int) (z : ZS) : UP1 := fun A1 σ => match A1 with
  | [] => ShR (sI (sI σ 14 0) 15 0) z.1 ∧ Z0Y z.1 ∧ z.2.1 = [] ∧ tnM z = 0 ∧ TlZ σ z.1 ∧ NmZ N σ
  | _ => False
def Qv_parseZ (N : Int → Int) (z : ZS) : UQ1 := fun A1 σ w τ => match A1 with
  | [] => (w = some (.int 0) ∧ FlR τ (prM N 11 z).1) ∨ (w = some (.int 1) ∧ MhR τ (prM N 11 z).1 ∧ MZ N τ (prM N 11 z))
  | _ => False
def Qw_parseZ : UQ1 := fun A1 σ w τ => ∀ (N : Int → Int) (z : ZS), Pv_parseZ N z A1 σ → Qv_parseZ N z A1 σ w τ
set_option maxRecDepth 100000 in
set_option maxHeartbeats 4000000 in
theorem v_parseZ (N : Int → Int) (z : ZS) : UMet 37 (Pv_parseZ N z) (Qv_parseZ N z) := by sorry
theorem w_parseZ : UMet 37 (fun _ _ => True) Qw_parseZ := fun A1 σ _ w τ h N z hP => v_parseZ N z A1 σ hP w τ h
/-! what tokens are worth: reference -/
theorem mL_eq {σ : RS} {k : Nat} {f : Nat → Int64} : aL (sM σ k f) k = f := by sorry
theorem mL_ne {σ : RS} {k r : Nat} {f : Nat → Int64} (h : r ≠ k) : aL (sM σ k f) r = aL σ r := by sorry
theorem uL_eq {f : Nat → Int64} {k : Nat} {x : Int64} : vp_updL f k x k = x := if_pos rfl
theorem uL_ne {f : Nat → Int64} {k i : Nat} {x : Int64} (h : i ≠ k) : vp_updL f k x i = f i := if_neg h
def TvR (t : Nat) (σ τ : RS) : Prop := (∀ k, k ≠ 7 → k ≠ 9 → aL τ k = aL σ k) ∧ ∀ j, j ≠ t → aL τ 7 j = aL σ 7 j ∧ aL τ 9 j = aL σ 9 j ∧ aI τ 8 j = aI σ 8 j ∧ aI τ 10 j = aI σ 10 j ∧ aI τ 11 j = aI σ 11 j
theorem TvR.rf {t : Nat} {σ : RS} : TvR t σ σ := ⟨fun _ _ _ => rfl, fun _ _ => ⟨rfl, rfl, rfl, rfl, rfl⟩⟩
theorem TvR.i {t k : Nat} {σ τ : RS} {v : Int32} (h : TvR t σ τ) : TvR t σ (sI τ k v) := h
theorem uA_j {τ : RS} {k m t j : Nat} {v : Int32} (hj : j ≠ t) : aI (sA τ k (upd (aI τ k) t v)) m j = aI τ m j := by sorry
theorem uM_j {τ : RS} {k m t j : Nat} {v : Int64} (hj : j ≠ t) : aL (sM τ k (vp_updL (aL τ k) t v)) m j = aL τ m j := by sorry
theorem TvR.u {t k : Nat} {σ τ : RS} {v : Int32} (h : TvR t σ τ) : TvR t σ (sA τ k (upd (aI τ k) t v)) := by sorry
theorem TvR.m {t k : Nat} {σ τ : RS} {v : Int64} (h : TvR t σ τ) (hk : k = 7 ∨ k = 9) : TvR t σ (sM τ k (vp_updL (aL τ k) t v)) := by sorry
/-- a NAME's first eight bytes, and the two behind them (newest first) -/
def hwY : List Int → Int64
  | [] => 0
  | d :: l => if l.length < 8 then hwY l <<< (Int32.toInt64 8 &&& 63) ||| (Int32.ofInt d).toInt64 else hwY l
def lwY : List Int → Int32
  | [] => 0
  | d :: l => if l.length < 8 then lwY l else if l.length < 10 then lwY l <<< (8 &&& 31) ||| Int32.ofInt d else lwY l
theorem hw_a {d : Int} {l : List Int} {r : Int32} (h : l.length < 8) (e : r.toInt = d) : hwY l <<< (Int32.toInt64 8 &&& 63) ||| r.toInt64 = hwY (d :: l) := by sorry
theorem hw_b {d : Int} {l : List Int} (h : ¬ l.length < 8) : hwY l = hwY (d :: l) := by sorry
theorem lw_a {d : Int} {l : List Int} (h : l.length < 8) : lwY l = lwY (d :: l) := by sorry
theorem lw_b {d : Int} {l : List Int} {r : Int32} (h : ¬ l.length < 8) (g : l.length < 10) (e : r.toInt = d) : lwY l <<< (8 &&& 31) ||| r = lwY (d :: l) := by sorry
theorem lw_c {d : Int} {l : List Int} (h : ¬ l.length < 10) : lwY l = lwY (d :: l) := by sorry
theorem i32_of {d : Int} (h0 : 0 ≤ d) (h1 : d < 256) : (Int32.ofInt d).toInt = d := Int32.toInt_ofInt_of_le (by omega) (by omega)
theorem hw_v : ∀ l : List Int, alY l → l.length ≤ 8 → (hwY l).toInt = vlY 256 l := by sorry
theorem hw_c : ∀ (m l : List Int), l.length = 8 → hwY (m ++ l) = hwY l := by sorry
theorem lw_0 : ∀ l : List Int, l.length ≤ 8 → lwY l = 0 := by sorry
theorem lo_8 {h r : Int32} {a : Int} (hh : h.toInt = a) (h0 : 0 ≤ a) (h1 : a < 2 ^ 20) (r0 : 0 ≤ r.toInt ∧ r.toInt < 256) : (h <<< (8 &&& 31) ||| r).toInt = 256 * a + r.toInt := by sorry
theorem lw_v : ∀ m l : List Int, alY m → l.length = 8 → m.length ≤ 2 → (lwY (m ++ l)).toInt = vlY 256 m := by sorry
/-- both tell the NAME -/
theorem hl_inj {l m : List Int} (hl : alY l) (hm : alY m) (h1 : l.length ≤ 10) (h2 : l.length = m.length) (e1 : hwY l = hwY m) (e2 : lwY l = lwY m) : l = m := by sorry
/-- a NUMBER's value -/
def nvY (x : TxY) : Nat → Int → Int → Int
  | 0, _, v => v
  | f + 1, e, v => if isDY (btY x e) then nvY x f (e + 1) (10 * v + (btY x e - 48)) else v
theorem nv_go {x : TxY} {e v : Int} (h : e < x.2) (hc : isDY (btY x e)) : nvY x (x.2 - e).toNat e v = nvY x (x.2 - (e + 1)).toNat (e + 1) (10 * v + (btY x e - 48)) := by sorry
theorem nv_no {x : TxY} {e v : Int} (hc : ¬ isDY (btY x e)) : nvY x (x.2 - e).toNat e v = v := by sorry
/-- over: the value passes the greatest long by more than one -/
def OVR (k v : Int) (lo : Int32) : Prop := 0 ≤ v ∧ (k ≤ 19 → v < ((10 ^ k.toNat : Nat) : Int)) ∧ (lo = 0 ∨ lo = 1) ∧ (k ≤ 19 → (lo = 1 ↔ 9223372036854775808 < v))
theorem i64_v {v : Int} (h0 : 0 ≤ v) (h1 : v < 10000000000000000000) : ((Int64.ofInt v).toInt = v ∧ v < 9223372036854775808) ∨ ((Int64.ofInt v).toInt = v - 18446744073709551616 ∧ 9223372036854775808 ≤ v) := by sorry
theorem p10 {k : Int} {n : Nat} (h : k.toNat ≤ n) : ((10 ^ k.toNat : Nat) : Int) ≤ ((10 ^ n : Nat) : Int) := Int.ofNat_le.mpr (Nat.pow_le_pow_right (by decide) h)
theorem OVR.h {k v : Int} {lo : Int32} (h : OVR k v lo) (hk : k ≤ 18) : (Int64.ofInt v).toInt = v ∧ v < 1000000000000000000 ∧ ¬ lo = 1 := by sorry
theorem OVR.s {k v d : Int} {lo lo' : Int32} (h : OVR k v lo) (h0 : 0 ≤ k) (d0 : 0 ≤ d ∧ d ≤ 9) (hl : (lo' = 1 ∧ (922337203685477580 < (Int64.ofInt v).toInt ∨ ((Int64.ofInt v).toInt = 922337203685477580 ∧ 8 < d))) ∨ (lo' = lo ∧ ¬ (922337203685477580 < (Int64.ofInt v).toInt ∨ ((Int64.ofInt v).toInt = 922337203685477580 ∧ 8 < d)))) : OVR (k + 1) (10 * v + d) lo' := by sorry
theorem lg_t (x y : Int64) : (lg_cmp x y < 0 ∧ ¬ lg_cmp x y = 0 ∧ ¬ 0 < lg_cmp x y ∧ x.toInt < y.toInt) ∨ (lg_cmp x y = 0 ∧ x.toInt = y.toInt) ∨ (0 < lg_cmp x y ∧ ¬ lg_cmp x y = 0 ∧ ¬ lg_cmp x y < 0 ∧ y.toInt < x.toInt) := by sorry
theorem i64_10 {v : Int} {d : Int32} : Int64.ofInt 10 * Int64.ofInt v + d.toInt64 = Int64.ofInt (10 * v + d.toInt) := by sorry
def grY (c v : Int) : Int32 := if c = 76 then (if 9223372036854775808 < v then 2 else if v = 9223372036854775808 then 1 else 0) else (if 2147483648 < v then 2 else if v = 2147483648 then 1 else 0)
theorem gr_of {c k v : Int} {lo g : Int32} (hO : OVR k v lo) (hk : k ≤ 19) (h0 : 0 ≤ k) (h : (c = 76 ∧ ((g = 2 ∧ lo = 1) ∨ (g = 1 ∧ ¬ lo = 1 ∧ (Int64.ofInt v).toInt < 0) ∨ (g = 0 ∧ ¬ lo = 1 ∧ ¬ (Int64.ofInt v).toInt < 0))) ∨ (¬ c = 76 ∧ ((g = 2 ∧ (lo = 1 ∨ (Int64.ofInt v).toInt < 0 ∨ 2147483648 < (Int64.ofInt v).toInt)) ∨ (g = 1 ∧ ¬ lo = 1 ∧ (Int64.ofInt v).toInt = 2147483648) ∨ (g = 0 ∧ ¬ lo = 1 ∧ ¬ (Int64.ofInt v).toInt < 0 ∧ (Int64.ofInt v).toInt < 2147483648)))) : g = grY c v := by sorry
theorem i64_b {b : Int32} {v : Int} (h : b.toInt = v) : b.toInt64 = Int64.ofInt v := by sorry
def Pv_wordT (x : TxY) (i : Int) : UP1 := fun A1 σ => match A1 with
  | [.int t] => TxR σ x ∧ (gI σ 13).toInt = i ∧ 0 ≤ i ∧ i < x.2
  | _ => False
def Qv_wordT (x : TxY) (i : Int) : UQ1 := fun A1 σ w τ => match A1 with
  | [.int t] => TvR t.toNatClampNeg σ τ ∧ aL τ 7 t.toNatClampNeg = hwY (nmY x (x.2 - i).toNat i []).2 ∧ aI τ 8 t.toNatClampNeg = lwY (nmY x (x.2 - i).toNat i []).2
  | _ => False
def Qw_wordT : UQ1 := fun A1 σ w τ => ∀ (x : TxY) (i : Int), Pv_wordT x i A1 σ → Qv_wordT x i A1 σ w τ
set_option maxRecDepth 100000 in
set_option maxHeartbeats 4000000 in
theorem v_wordT (x : TxY) (i : Int) : UMet 7 (Pv_wordT x i) (Qv_wordT x i) := by sorry
theorem w_wordT : UMet 7 (fun _ _ => True) Qw_wordT := fun A1 σ _ w τ h x i hP => v_wordT x i A1 σ hP w τ h
def Pv_numberT (x : TxY) (i : Int) : UP1 := fun A1 σ => match A1 with
  | [.int t] => TxR σ x ∧ (gI σ 13).toInt = i ∧ 0 ≤ i ∧ i < x.2
  | _ => False
def Qv_numberT (x : TxY) (i : Int) : UQ1 := fun A1 σ w τ => match A1 with
  | [.int t] => TvR t.toNatClampNeg σ τ ∧ (¬ 19 < ndY x (x.2 - i).toNat i - i → (¬ aI τ 10 t.toNatClampNeg = 0 ↔ btY x (ndY x (x.2 - i).toNat i) = 76) ∧ aL τ 9 t.toNatClampNeg = Int64.ofInt (nvY x (x.2 - i).toNat i 0) ∧ aI τ 11 t.toNatClampNeg = grY (btY x (ndY x (x.2 - i).toNat i)) (nvY x (x.2 - i).toNat i 0))
  | _ => False
def Qw_numberT : UQ1 := fun A1 σ w τ => ∀ (x : TxY) (i : Int), Pv_numberT x i A1 σ → Qv_numberT x i A1 σ w τ
set_option maxRecDepth 100000 in
set_option maxHeartbeats 4000000 in
theorem v_numberT (x : TxY) (i : Int) : UMet 9 (Pv_numberT x i) (Qv_numberT x i) := by sorry
theorem w_numberT : UMet 9 (fun _ _ => True) Qw_numberT := fun A1 σ _ w τ h x i hP => v_numberT x i A1 σ hP w τ h
def Pv_characterT (x : TxY) (i : Int) : UP1 := fun A1 σ => match A1 with
  | [.int t] => TxR σ x ∧ (gI σ 13).toInt = i ∧ 0 ≤ i ∧ i < x.2
  | _ => False
def Qv_characterT (x : TxY) (i : Int) : UQ1 := fun A1 σ w τ => match A1 with
  | [.int t] => TvR t.toNatClampNeg σ τ ∧ ((32 ≤ btY x (i + 1) ∧ btY x (i + 1) ≤ 126 ∧ ¬ btY x (i + 1) = 39 ∧ ¬ btY x (i + 1) = 92 ∧ btY x (i + 2) = 39) → aL τ 9 t.toNatClampNeg = Int64.ofInt (btY x (i + 1)))
  | _ => False
def Qw_characterT : UQ1 := fun A1 σ w τ => ∀ (x : TxY) (i : Int), Pv_characterT x i A1 σ → Qv_characterT x i A1 σ w τ
set_option maxRecDepth 100000 in
set_option maxHeartbeats 4000000 in
theorem v_characterT (x : TxY) (i : Int) : UMet 10 (Pv_characterT x i) (Qv_characterT x i) := by sorry
theorem w_characterT : UMet 10 (fun _ _ => True) Qw_characterT := fun A1 σ _ w τ h x i hP => v_characterT x i A1 σ hP w τ h
def Pv_signT : UP1 := fun A1 σ => match A1 with
  | [.int t] => True
  | _ => False
def Qv_signT : UQ1 := fun A1 σ w τ => match A1 with
  | [.int t] => TvR t.toNatClampNeg σ τ
  | _ => False
def Qw_signT : UQ1 := fun A1 σ w τ => Pv_signT A1 σ → Qv_signT A1 σ w τ
set_option maxRecDepth 100000 in
set_option maxHeartbeats 4000000 in
theorem v_signT : UMet 11 (Pv_signT) (Qv_signT) := by sorry
theorem w_signT : UMet 11 (fun _ _ => True) Qw_signT := fun A1 σ _ w τ h hP => v_signT A1 σ hP w τ h
/-! the lexer, with what tokens are worth -/
def VkT (τ : RS) (x : TxY) (k : Nat) : Prop := ((oneY x (atY x k)).2 = 80 → aL τ 7 k = hwY (nmY x (x.2 - atY x k).toNat (atY x k) []).2 ∧ aI τ 8 k = lwY (nmY x (x.2 - atY x k).toNat (atY x k) []).2) ∧ ((oneY x (atY x k)).2 = 81 ∨ (oneY x (atY x k)).2 = 82 → (¬ aI τ 10 k = 0 ↔ (oneY x (atY x k)).2 = 82) ∧ aL τ 9 k = Int64.ofInt (nvY x (x.2 - atY x k).toNat (atY x k) 0) ∧ aI τ 11 k = grY (if (oneY x (atY x k)).2 = 82 then 76 else 0) (nvY x (x.2 - atY x k).toNat (atY x k) 0)) ∧ ((oneY x (atY x k)).2 = 83 → aL τ 9 k = Int64.ofInt (btY x (atY x k + 1)))
def TkT (τ : RS) (x : TxY) (n : Nat) : Prop := ∀ k, k < n → VkT τ x k
theorem VkT.fr {σ τ : RS} {x : TxY} {k : Nat} (h : VkT σ x k) (e7 : aL τ = aL σ) (e8 : aI τ 8 = aI σ 8) (e10 : aI τ 10 = aI σ 10) (e11 : aI τ 11 = aI σ 11) : VkT τ x k := by sorry
theorem TkT.fr {σ τ : RS} {x : TxY} {n : Nat} (h : TkT σ x n) (e7 : aL τ = aL σ) (e8 : aI τ 8 = aI σ 8) (e10 : aI τ 10 = aI σ 10) (e11 : aI τ 11 = aI σ 11) : TkT τ x n := fun k hk => (h k hk).fr e7 e8 e10 e11
theorem TkT.lk {σ τ : RS} {x : TxY} {n : Nat} (h : TkT σ x n) (l : TvR n σ τ) : TkT τ x n := by sorry
theorem vk_word {τ : RS} {x : TxY} {n : Nat} (hc : isLY (btY x (atY x n))) (h1 : aL τ 7 n = hwY (nmY x (x.2 - atY x n).toNat (atY x n) []).2) (h2 : aI τ 8 n = lwY (nmY x (x.2 - atY x n).toNat (atY x n) []).2) : VkT τ x n := by sorry
theorem vk_num {τ : RS} {x : TxY} {n : Nat} (hl : ¬ isLY (btY x (atY x n))) (hc : isDY (btY x (atY x n))) (h : ¬ 19 < ndY x (x.2 - atY x n).toNat (atY x n) - atY x n → (¬ aI τ 10 n = 0 ↔ btY x (ndY x (x.2 - atY x n).toNat (atY x n)) = 76) ∧ aL τ 9 n = Int64.ofInt (nvY x (x.2 - atY x n).toNat (atY x n) 0) ∧ aI τ 11 n = grY (btY x (ndY x (x.2 - atY x n).toNat (atY x n))) (nvY x (x.2 - atY x n).toNat (atY x n) 0)) : VkT τ x n := by sorry
theorem vk_chr {τ : RS} {x : TxY} {n : Nat} (hc : btY x (atY x n) = 39) (h : (32 ≤ btY x (atY x n + 1) ∧ btY x (atY x n + 1) ≤ 126 ∧ ¬ btY x (atY x n + 1) = 39 ∧ ¬ btY x (atY x n + 1) = 92 ∧ btY x (atY x n + 2) = 39) → aL τ 9 n = Int64.ofInt (btY x (atY x n + 1))) : VkT τ x n := by sorry
theorem vk_sgn {τ : RS} {x : TxY} {n : Nat} (hl : ¬ isLY (btY x (atY x n))) (hd : ¬ isDY (btY x (atY x n))) (hc : ¬ btY x (atY x n) = 39) : VkT τ x n := by sorry
def Qw_wordB : UQ1 := fun A1 σ w τ => Qw_word A1 σ w τ ∧ Qw_wordT A1 σ w τ
theorem w_wordB : UMet 7 (fun _ _ => True) Qw_wordB := by sorry
def Qw_numberB : UQ1 := fun A1 σ w τ => Qw_number A1 σ w τ ∧ Qw_numberT A1 σ w τ
theorem w_numberB : UMet 9 (fun _ _ => True) Qw_numberB := by sorry
def Qw_characterB : UQ1 := fun A1 σ w τ => Qw_character A1 σ w τ ∧ Qw_characterT A1 σ w τ
theorem w_characterB : UMet 10 (fun _ _ => True) Qw_characterB := by sorry
def Qw_signB : UQ1 := fun A1 σ w τ => Qw_sign A1 σ w τ ∧ Qw_signT A1 σ w τ
theorem w_signB : UMet 11 (fun _ _ => True) Qw_signB := by sorry
def Pv_lexerT (x : TxY) : UP1 := fun A1 σ => match A1 with
  | [] => okY x ∧ (gI σ 1).toInt = x.2 ∧ (∀ j, (aI σ 0 j).toInt = x.1 j)
  | _ => False
def Qv_lexerT (x : TxY) : UQ1 := fun A1 σ w τ => match A1 with
  | [] => w = none ∧ LxQ σ τ x ∧ ∃ n : Nat, (gI τ 2).toInt = n + 1 ∧ TkT τ x n
  | _ => False
def Qw_lexerT : UQ1 := fun A1 σ w τ => ∀ (x : TxY), Pv_lexerT x A1 σ → Qv_lexerT x A1 σ w τ
set_option maxRecDepth 100000 in
set_option maxHeartbeats 4000000 in
theorem v_lexerT (x : TxY) : UMet 6 (Pv_lexerT x) (Qv_lexerT x) := by sorry
theorem w_lexerT : UMet 6 (fun _ _ => True) Qw_lexerT := fun A1 σ _ w τ h x hP => v_lexerT x A1 σ hP w τ h
/-- NAMES by their bytes -/
def nbZ (x : TxY) (i : Nat) : List Int := (nmY x (x.2 - atY x i).toNat (atY x i) []).2
def nN (x : TxY) (i : Int) : Int := vlY 256 (nbZ x i.toNat)
theorem nm_al {x : TxY} : ∀ (f : Nat) (e : Int) (l : List Int), alY l → alY (nmY x f e l).2 := by sorry
theorem nb_al {x : TxY} {i : Nat} : alY (nbZ x i) := nm_al _ _ _ (fun d hd => absurd hd List.not_mem_nil)
theorem one_80 {x : TxY} {i : Int} (h : (oneY x i).2 = 80) : isLY (btY x i) ∧ (oneY x i).1 = (nmY x (x.2 - i).toNat i []).1 - i ∧ (oneY x i).1 ≤ 10 := by sorry
theorem nb_len {x : TxY} {i : Nat} (h : (oneY x (atY x i)).2 = 80) (ha : atY x i < x.2) (h0 : 0 ≤ atY x i) : ((nbZ x i).length : Int) = (oneY x (atY x i)).1 ∧ (nbZ x i).length ≤ 10 := by sorry
theorem at_0 {x : TxY} (hx : 0 ≤ x.2) : ∀ {n : Nat}, (∀ k, k < n → atY x k < x.2 ∧ ¬ (oneY x (atY x k)).1 = 0) → ∀ k, k ≤ n → 0 ≤ atY x k ∧ atY x k ≤ x.2 := by sorry
/-! behind the lexer: what the parse asks of NAMES and of longs -/
theorem tk_1 {w c : Int} (h : tkR 1 w c) : c = 80 := by sorry
theorem tk_2 {w c : Int} (h : tkR 2 w c) : c = 81 ∨ c = 82 := by sorry
/-- a token that is no last one, in both -/
theorem lx_in {σ τ : RS} {x : TxY} {s : SpC} {n : Nat} (hx : okY x) (hL : LxQ σ τ x) (hT : TkS x s n) {i : Nat} (hi : i < nT (gI τ 2)) (h5 : i ≤ 500) (h3 : aI τ 3 i = 1 ∨ aI τ 3 i = 2) : (i + 1 < nT (gI τ 2)) ∧ i < n ∧ tkR (aI τ 3 i).toInt (aI τ 6 i).toInt (oneY x (atY x i)).2 ∧ (aI τ 5 i).toInt = (oneY x (atY x i)).1 ∧ zK s i = (oneY x (atY x i)).2 ∧ atY x i < x.2 ∧ 0 ≤ atY x i := by sorry
theorem tz_of {σ τ : RS} {x : TxY} {s : SpC} {n : Nat} (hx : okY x) (hL : LxQ σ τ x) (hV : ∃ m : Nat, (gI τ 2).toInt = m + 1 ∧ TkT τ x m) (hT : TkS x s n) : TlZ τ s ∧ NmZ (nN x) τ := by sorry
/-! what tokens are worth: class -/
def LwC (r c : Nat) (σ τ : CsC) : Prop := ∀ a j, a < cnC σ → ¬ (a = r ∧ j = c) → eLC τ a j = eLC σ a j
theorem LwC.rf {r c : Nat} {σ : CsC} : LwC r c σ σ := fun _ _ _ _ => rfl
theorem LwC.e {r c : Nat} {σ τ : CsC} (e : eLC τ = eLC σ) : LwC r c σ τ := fun a j _ _ => by rw [e]
theorem LwC.q {r c k : Nat} {v : Int64} {σ τ : CsC} (e : eLC τ = eLC σ) (hk : k = c) : LwC r c σ (qLC τ r (vp_updL (eLC τ r) k v)) ∧ eLC (qLC τ r (vp_updL (eLC τ r) k v)) r c = v := by sorry
abbrev Pz_cutCharacter : ((Int → Int) × (Nat → Nat) × (Nat → Nat) × (Nat → Nat) × (Nat → Nat) × ZS × TxY × Nat × Nat) → CpC := fun y As σ => match y with
  | (N, E, A, B, V, z, x, r, c) => ∃ (p0 : Nat) (p1 : Int32), As = [.inr (.inr (some p0)), .inl p1] ∧ (fRC σ p0 304 = some r) ∧ ((fIC σ p0 305).toInt = (c : Int)) ∧ (TxC σ p0 x) ∧ (0 ≤ p1.toInt ∧ p1.toInt < x.2)
abbrev Qz_cutCharacter : ((Int → Int) × (Nat → Nat) × (Nat → Nat) × (Nat → Nat) × (Nat → Nat) × ZS × TxY × Nat × Nat) → CqC := fun y As σ w τ => match y, As with
  | (N, E, A, B, V, z, x, r, c), [.inr (.inr (some p0)), .inl p1] => ∀ rr, w = some (.inl rr) → LwC r c σ τ ∧ (0 < rr.toInt → (eLC τ r c).toInt = btY x (p1.toInt + 1))
  | _, _ => True
abbrev Uz_cutCharacter : CqC := fun As σ w τ => ∀ y, Pz_cutCharacter y As σ → Qz_cutCharacter y As σ w τ
set_option maxHeartbeats 4000000 in
theorem pz_cutCharacter (y : (Int → Int) × (Nat → Nat) × (Nat → Nat) × (Nat → Nat) × (Nat → Nat) × ZS × TxY × Nat × Nat) : PbC KX9_cutCharacter [(189, TrP, EqC 189)] [] (fun As σ => Pz_cutCharacter y As σ ∧ cnC σ ≤ 1000000 ∧ ∃ w τ, uqC quL 196 As σ w τ) (Qz_cutCharacter y) := by sorry
theorem wz_cutCharacter : ∀ (L : Nat) (As : List AvC) (σ : CsC) (w : Option AvC) (τ : CsC), EvF L 196 As σ w τ → Uz_cutCharacter As σ w τ := by sorry
abbrev Pz_cutNumber : ((Int → Int) × (Nat → Nat) × (Nat → Nat) × (Nat → Nat) × (Nat → Nat) × ZS × TxY × Nat × Nat) → CpC := fun y As σ => match y with
  | (N, E, A, B, V, z, x, r, c) => ∃ (p0 : Nat) (p1 : Int32), As = [.inr (.inr (some p0)), .inl p1] ∧ (fRC σ p0 304 = some r) ∧ ((fIC σ p0 305).toInt = (c : Int)) ∧ (TxC σ p0 x) ∧ (0 ≤ p1.toInt ∧ p1.toInt < x.2)
abbrev Qz_cutNumber : ((Int → Int) × (Nat → Nat) × (Nat → Nat) × (Nat → Nat) × (Nat → Nat) × ZS × TxY × Nat × Nat) → CqC := fun y As σ w τ => match y, As with
  | (N, E, A, B, V, z, x, r, c), [.inr (.inr (some p0)), .inl p1] => ∀ rr, w = some (.inl rr) → LwC r c σ τ ∧ (0 < rr.toInt → eLC τ r c = Int64.ofInt (nvY x (x.2 - p1.toInt).toNat p1.toInt 0))
  | _, _ => True
abbrev Uz_cutNumber : CqC := fun As σ w τ => ∀ y, Pz_cutNumber y As σ → Qz_cutNumber y As σ w τ
set_option maxHeartbeats 4000000 in
theorem pz_cutNumber (y : (Int → Int) × (Nat → Nat) × (Nat → Nat) × (Nat → Nat) × (Nat → Nat) × ZS × TxY × Nat × Nat) : PbC KX9_cutNumber [(189, TrP, EqC 189), (193, TrP, EqC 193)] [] (fun As σ => Pz_cutNumber y As σ ∧ cnC σ ≤ 1000000 ∧ ∃ w τ, uqC quL 195 As σ w τ) (Qz_cutNumber y) := by sorry
theorem wz_cutNumber : ∀ (L : Nat) (As : List AvC) (σ : CsC) (w : Option AvC) (τ : CsC), EvF L 195 As σ w τ → Uz_cutNumber As σ w τ := by sorry
abbrev Pz_cutName : ((Int → Int) × (Nat → Nat) × (Nat → Nat) × (Nat → Nat) × (Nat → Nat) × ZS × TxY × Nat × Nat) → CpC := fun y As σ => match y with
  | (N, E, A, B, V, z, x, r, c) => ∃ (p0 : Nat) (p1 : Int32), As = [.inr (.inr (some p0)), .inl p1] ∧ (fRC σ p0 304 = some r) ∧ ((fIC σ p0 305).toInt = (c : Int)) ∧ (TxC σ p0 x) ∧ (0 ≤ p1.toInt ∧ p1.toInt < x.2)
abbrev Qz_cutName : ((Int → Int) × (Nat → Nat) × (Nat → Nat) × (Nat → Nat) × (Nat → Nat) × ZS × TxY × Nat × Nat) → CqC := fun y As σ w τ => match y, As with
  | (N, E, A, B, V, z, x, r, c), [.inr (.inr (some p0)), .inl p1] => ∀ rr, w = some (.inl rr) → LwC r c σ τ ∧ (0 < rr.toInt → (eLC τ r c).toInt = kyY (naY x p1.toInt).2)
  | _, _ => True
abbrev Uz_cutName : CqC := fun As σ w τ => ∀ y, Pz_cutName y As σ → Qz_cutName y As σ w τ
set_option maxHeartbeats 4000000 in
theorem pz_cutName (y : (Int → Int) × (Nat → Nat) × (Nat → Nat) × (Nat → Nat) × (Nat → Nat) × ZS × TxY × Nat × Nat) : PbC KX9_cutName [(189, TrP, EqC 189), (192, TrP, EqC 192), (185, TrP, EqC 185), (193, TrP, EqC 193)] [] (fun As σ => Pz_cutName y As σ ∧ cnC σ ≤ 1000000 ∧ ∃ w τ, uqC quL 194 As σ w τ) (Qz_cutName y) := by sorry
theorem wz_cutName : ∀ (L : Nat) (As : List AvC) (σ : CsC) (w : Option AvC) (τ : CsC), EvF L 194 As σ w τ → Uz_cutName As σ w τ := by sorry
/-! what a token is worth: cutOne -/
def WoC (x : TxY) (i : Int) (v : Int64) : Prop := ((oneY x i).2 = 80 → v.toInt = kyY (naY x i).2) ∧ ((oneY x i).2 = 81 ∨ (oneY x i).2 = 82 → v = Int64.ofInt (nvY x (x.2 - i).toNat i 0)) ∧ ((oneY x i).2 = 83 → v.toInt = btY x (i + 1))
theorem wt_n9 {x : TxY} {i : Int} {v : Int64} (h : isLY (btY x i)) (hv : v.toInt = kyY (naY x i).2) : WoC x i v := by sorry
theorem wt_d9 {x : TxY} {i : Int} {v : Int64} (h : ¬ isLY (btY x i)) (h2 : isDY (btY x i)) (hv : v = Int64.ofInt (nvY x (x.2 - i).toNat i 0)) : WoC x i v := by sorry
theorem wt_c9 {x : TxY} {i : Int} {v : Int64} (h : ¬ isLY (btY x i)) (h2 : ¬ isDY (btY x i)) (h3 : btY x i = 39) (hv : v.toInt = btY x (i + 1)) : WoC x i v := by sorry
theorem wt_s9 {x : TxY} {i : Int} {v : Int64} (h : ¬ isLY (btY x i)) (h2 : ¬ isDY (btY x i)) (h3 : ¬ btY x i = 39) : WoC x i v := by sorry
abbrev Pz_cutOne : ((Int → Int) × (Nat → Nat) × (Nat → Nat) × (Nat → Nat) × (Nat → Nat) × ZS × TxY × Nat × Nat) → CpC := fun y As σ => match y with
  | (N, E, A, B, V, z, x, r, c) => ∃ (p0 : Nat) (p1 : Int32), As = [.inr (.inr (some p0)), .inl p1] ∧ (fRC σ p0 304 = some r) ∧ ((fIC σ p0 305).toInt = (c : Int)) ∧ (TxC σ p0 x) ∧ (0 ≤ p1.toInt ∧ p1.toInt < x.2)
abbrev Qz_cutOne : ((Int → Int) × (Nat → Nat) × (Nat → Nat) × (Nat → Nat) × (Nat → Nat) × ZS × TxY × Nat × Nat) → CqC := fun y As σ w τ => match y, As with
  | (N, E, A, B, V, z, x, r, c), [.inr (.inr (some p0)), .inl p1] => ∀ rr, w = some (.inl rr) → LwC r c σ τ ∧ (0 < rr.toInt → WoC x p1.toInt (eLC τ r c))
  | _, _ => True
abbrev Uz_cutOne : CqC := fun As σ w τ => ∀ y, Pz_cutOne y As σ → Qz_cutOne y As σ w τ
set_option maxHeartbeats 4000000 in
theorem pz_cutOne (y : (Int → Int) × (Nat → Nat) × (Nat → Nat) × (Nat → Nat) × (Nat → Nat) × ZS × TxY × Nat × Nat) : PbC KX9_cutOne [(189, TrP, EqC 189), (192, TrP, EqC 192), (193, TrP, EqC 193), (197, TrP, EqC 197), (196, TrP, EqC 196), (195, TrP, EqC 195), (194, TrP, EqC 194)] [(196, Uz_cutCharacter), (195, Uz_cutNumber), (194, Uz_cutName)] (fun As σ => Pz_cutOne y As σ ∧ cnC σ ≤ 1000000 ∧ ∃ w τ, uqC quL 191 As σ w τ) (Qz_cutOne y) := by sorry
theorem wz_cutOne : ∀ (L : Nat) (As : List AvC) (σ : CsC) (w : Option AvC) (τ : CsC), EvF L 191 As σ w τ → Uz_cutOne As σ w τ := by sorry
/-! what tokens are worth: cutText -/
def WtR (x : TxY) (p0 p1 r a0 a1 a2 a3 a6 : Nat) (υ : CsC) (k : Nat) : Prop := ((fRC υ p0 304 = some r ∧ fRC υ p0 307 = some p1 ∧ fRC υ p0 306 = some a6) ∧ (fRC υ p0 300 = some a0 ∧ fRC υ p0 301 = some a1 ∧ fRC υ p0 302 = some a2 ∧ fRC υ p0 303 = some a3)) ∧ ((fIC υ p0 305).toInt = (k : Int) ∧ TxC υ p0 x ∧ WdC υ p0) ∧ (∀ j, j < k → WoC x (atY x j) (eLC υ r j)) ∧ (r < cnC υ ∧ a6 < cnC υ)
theorem WtR.i {x : TxY} {p0 p1 r a0 a1 a2 a3 a6 b : Nat} {υ : CsC} {k : Nat} {f : Nat → Int32} (h : WtR x p0 p1 r a0 a1 a2 a3 a6 υ k) (hb : p1 ≠ b) : WtR x p0 p1 r a0 a1 a2 a3 a6 (qIC υ b f) k := by sorry
theorem WtR.c {x : TxY} {p0 p1 r a0 a1 a2 a3 a6 : Nat} {υ τ : CsC} {k : Nat} (h : WtR x p0 p1 r a0 a1 a2 a3 a6 υ k) (f : FrC υ τ p0) (l : LwC r k υ τ) (n2 : p1 ≠ a2) (n6 : a6 ≠ r) (hc : cnC υ ≤ cnC τ) : WtR x p0 p1 r a0 a1 a2 a3 a6 τ k := by sorry
theorem WtR.p {x : TxY} {p0 p1 r a0 a1 a2 a3 a6 : Nat} {υ : CsC} {k : Nat} {v : Int32} (h : WtR x p0 p1 r a0 a1 a2 a3 a6 υ k) (hv : v.toInt = (k : Int) + 1) (hk : WoC x (atY x k) (eLC υ r k)) : WtR x p0 p1 r a0 a1 a2 a3 a6 (pIC υ p0 305 v) (k + 1) := by sorry
theorem nI_25 {n : Nat} (h : n = 2500) : (nI n).toInt = 2500 := by sorry
abbrev Pz_cutText : ((Int → Int) × (Nat → Nat) × (Nat → Nat) × (Nat → Nat) × (Nat → Nat) × ZS × TxY × Nat) → CpC := fun y As σ => match y with
  | (N, E, A, B, V, z, x, r) => ∃ (p0 : Nat) (p1 : Nat) (p2 : Int32), As = [.inr (.inr (some p0)), .inr (.inr (some p1)), .inl p2] ∧ (HI0 σ ∧ TyC σ p0 10) ∧ (TyC σ p1 101) ∧ (fRC σ p0 304 = some r) ∧ (x.2 = p2.toInt ∧ (∀ j : Nat, (j : Int) < x.2 → (eIC σ p1 j &&& 255).toInt = x.1 j) ∧ okY x) ∧ (alC σ p1 = 2500) ∧ (WdC σ p0) ∧ (cnC σ < 1000000)
abbrev Qz_cutText : ((Int → Int) × (Nat → Nat) × (Nat → Nat) × (Nat → Nat) × (Nat → Nat) × ZS × TxY × Nat) → CqC := fun y As σ w τ => match y, As with
  | (N, E, A, B, V, z, x, r), [.inr (.inr (some p0)), .inr (.inr (some p1)), .inl p2] => ∀ n : Nat, (fIC τ p0 305).toInt = (n : Int) → ∀ j, j < n → WoC x (atY x j) (eLC τ r j)
  | _, _ => True
abbrev Uz_cutText : CqC := fun As σ w τ => ∀ y, Pz_cutText y As σ → Qz_cutText y As σ w τ
set_option maxHeartbeats 4000000 in
theorem pz_cutText (y : (Int → Int) × (Nat → Nat) × (Nat → Nat) × (Nat → Nat) × (Nat → Nat) × ZS × TxY × Nat) : PbC KX9_cutText [(190, TrP, EqC 190), (191, TrP, EqC 191)] [(191, Uz_cutOne)] (fun As σ => Pz_cutText y As σ ∧ cnC σ ≤ 1000000 ∧ ∃ w τ, uqC quL 188 As σ w τ) (Qz_cutText y) := by sorry
theorem wz_cutText : ∀ (L : Nat) (As : List AvC) (σ : CsC) (w : Option AvC) (τ : CsC), EvF L 188 As σ w τ → Uz_cutText As σ w τ := by sorry
/-! readProgram -/
theorem me_eq {N : Int → Int} {z : ZS} (h9 : zFt (mthY z.1) = 0) : meM N z = coM 54 (zMs (accM z).1).length 0 (zAt (accM z).1) (boM (rwM N 20) 21 [] (paM N (accM (me0M (codY z.1 - 50) (accM z))))) := by sorry
theorem me_rs {N : Int → Int} {z : ZS} (h9 : zFt (mthY z.1) = 0) : meM N (rsM z) = meM N z := by sorry
/-- nothing is laid yet -/
def z0S (s : SpC) : ZS := (s, [], (0, fun _ => ((0, 0, 0, 0), [], (0, 0, 0, 0, 0, 0, 0))), ([], -1), (fun _ => -2, fun _ => 0, 0))
/-- bodies and first variables of methods -/
def jfM (N : Int → Int) : Nat → ZS → (Nat → Nat) × (Nat → Nat) → (Nat → Nat) × (Nat → Nat)
  | 0, _, q => q
  | f + 1, z, q => if zFt z.1 = 0 then (if codY z.1 = 84 then q else jfM N f (meM N z) (upA q.1 (zMs z.1).length (snM z), upA q.2 (zMs z.1).length (zVs z.1).length)) else q
def enE (p0 p1 t l1 l2 l3 l4 r2 r3 r4 : Nat) : Nat → Nat := fun k => if k = 0 then p0 else if k = 1 then p1 else if k = 2 then t else if k = 211 then l1 else if k = 212 then l2 else if k = 213 then l3 else if k = 214 then l4 else if k = 302 then r2 else if k = 303 then r3 else if k = 304 then r4 else 0
theorem ZC.z0 {N : Int → Int} {E A B V : Nat → Nat} {σ : CsC} {s : SpC} (hE : EnC E σ) (h0 : Z0Y s) (h1 : (fIC σ (E 0) 242).toInt = 0) (h2 : (fIC σ (E 0) 243).toInt = 0) (h3 : ∀ j, (eIC σ (E 302) j).toInt = zK s j) (h4 : ∀ j : Nat, (eLC σ (E 304) j).toInt = N j) (hl : ∀ k, k = 211 ∨ k = 212 ∨ k = 213 ∨ k = 214 → (fIC σ (E k) 2).toInt = 0) : ZC N E A B V (prS (E 0) σ) (rsM (z0S s)) := by sorry
theorem TkS.cu {τ : CsC} {t p2 n : Nat} {x : TxY} {s : SpC} (h : CuC τ t p2 x n) (hk : ∀ a, fRC τ t 302 = some a → ∀ j, zK s j = (eIC τ a j).toInt) (hl : ∀ a, fRC τ t 300 = some a → ∀ j, zL s j = (eIC τ a j).toInt) : TkS x s n := by sorry
abbrev Pz_readProgram : ((Int → Int) × (Nat → Nat) × (Nat → Nat) × (Nat → Nat) × (Nat → Nat) × ZS × TxY) → CpC := fun y As σ => match y with
  | (N, E, A, B, V, z, x) => ∃ (p0 : Nat) (p1 : Nat) (p2 : Nat) (p3 : Int32), As = [.inr (.inr (some p0)), .inr (.inr (some p1)), .inr (.inr (some p2)), .inl p3] ∧ (TyC σ p1 7) ∧ (TyC σ p2 101) ∧ (cnC σ < 1000000) ∧ (alC σ p2 = 2500) ∧ (x.2 = p3.toInt ∧ (∀ j : Nat, (j : Int) < x.2 → (eIC σ p2 j &&& 255).toInt = x.1 j) ∧ okY x) ∧ (∀ t, fRC σ p1 210 = some t → WdC σ t) ∧ (∀ s n, Z0Y s → TkS x s n → zFt (prlY 11 s) = 0)
abbrev Qz_readProgram : ((Int → Int) × (Nat → Nat) × (Nat → Nat) × (Nat → Nat) × (Nat → Nat) × ZS × TxY) → CqC := fun y As σ w τ => match y, As with
  | (N, E, A, B, V, z, x), [.inr (.inr (some p0)), .inr (.inr (some p1)), .inr (.inr (some p2)), .inl p3] => w = some (.inl 0) ∧ ∃ (s : SpC) (n : Nat) (N : Int → Int) (E A B V : Nat → Nat), (Z0Y s ∧ TkS x s n ∧ ∀ k : Nat, k < n → ∃ v : Int64, v.toInt = N (k : Int) ∧ WoC x (atY x k) v) ∧ (E 0 = p0 ∧ E 1 = p1) ∧ ZC N E A B V (prS (E 0) τ) (rsM (prM N 11 (z0S s))) ∧ MhC N E B (jfM N 11 (z0S s) (fun _ => 0, fun _ => 0)).1 (jfM N 11 (z0S s) (fun _ => 0, fun _ => 0)).2 τ (rsM (prM N 11 (z0S s)))
  | _, _ => True
abbrev Uz_readProgram : CqC := fun As σ w τ => ∀ y, Pz_readProgram y As σ → Qz_readProgram y As σ w τ
set_option maxHeartbeats 4000000 in
theorem pz_readProgram (y : (Int → Int) × (Nat → Nat) × (Nat → Nat) × (Nat → Nat) × (Nat → Nat) × ZS × TxY) : PbC KX7_readProgram [(117, TrP, EqC 117), (188, TrP, EqC 188), (125, TrP, EqC 125), (134, TrP, EqC 134)] [(188, Uz_cutText), (125, Uz_code0), (134, Uz_readMethod)] (fun As σ => Pz_readProgram y As σ ∧ cnC σ ≤ 1000000 ∧ ∃ w τ, uqC quL 123 As σ w τ) (Qz_readProgram y) := by sorry
theorem wz_readProgram : ∀ (L : Nat) (As : List AvC) (σ : CsC) (w : Option AvC) (τ : CsC), EvF L 123 As σ w τ → Uz_readProgram As σ w τ := by sorry
/-! judging, purely: TYPES, CONSTANTS and what exps make of them -/
abbrev nuT (t : Int) : Prop := 1 ≤ t ∧ t ≤ 4
abbrev smT (t : Int) : Prop := t = 1 ∨ t = 2
/-- the same, or it WIDENS -/
abbrev wdT (a b : Int) : Prop := a = b ∨ (smT a ∧ b = 3) ∨ ((smT a ∨ a = 3) ∧ b = 4)
def pmT (t : Int) : Int := if t = 4 then 4 else 3
def nrT (t : Int) (v : Int64) : Int64 := if t = 1 then v.toInt32.toInt8.toInt32.toInt64 else if t = 2 then (v.toInt32.toUInt32 % 65536).toInt32.toInt64 else if t = 3 then v.toInt32.toInt64 else v
/-- shifts in a TYPE -/
def shT (sg t : Int) (a b : Int64) : Int64 :=
  if t = 4 then (fun (y : Int32) => if sg = 31 then a <<< (y.toInt64 &&& 63) else if sg = 32 then a >>> (y.toInt64 &&& 63) else (a.toUInt64 >>> (y.toInt64.toUInt64 &&& Int64.toUInt64 63)).toInt64) (b &&& 63).toInt32
  else (fun (y x : Int32) => (if sg = 31 then x <<< (y &&& 31) else if sg = 32 then x >>> (y &&& 31) else (x.toUInt32 >>> (y.toUInt32 &&& Int32.toUInt32 31)).toInt32).toInt64) (b &&& 31).toInt32 a.toInt32
abbrev cmT (sg : Int) (a b : Int64) : Prop := if sg = 25 then a = b else if sg = 26 then ¬ a = b else if sg = 27 then a.toInt < b.toInt else if sg = 28 then a.toInt ≤ b.toInt else if sg = 29 then b.toInt < a.toInt else b.toInt ≤ a.toInt
/-- what an operator makes of two values -/
def wkT (sg t : Int) (a b : Int64) : Int64 :=
  if sg = 34 then nrT t (a + b) else if sg = 35 then nrT t (a - b) else if sg = 36 then nrT t (a * b)
  else if sg = 37 then (if b = 0 then 0 else nrT t (a / b)) else if sg = 38 then (if b = 0 then 0 else nrT t (a - a / b * b))
  else if sg = 24 then a &&& b else if sg = 22 then a ||| b else if sg = 23 then a ^^^ b
  else if sg = 31 ∨ sg = 32 ∨ sg = 33 then shT sg t a b
  else if cmT sg a b then 1 else 0
def alT (sg t : Int) (a : Int64) : Int64 := if sg = 35 then nrT t (-a) else if sg = 40 then ~~~a else if sg = 39 then a ^^^ 1 else a
abbrev ltT (sg t : Int) : Prop := ((sg = 20 ∨ sg = 21) ∧ t = 0) ∨ (¬ (sg = 20 ∨ sg = 21) ∧ (nuT t ∨ (22 ≤ sg ∧ sg ≤ 26 ∧ t = 0)))
abbrev rtT (l r : Int) : Prop := (l = 0 ∧ r = 0) ∨ (¬ l = 0 ∧ nuT r)
def wrT (sg l r : Int) : Int := if l = 0 then 0 else if 31 ≤ sg ∧ sg ≤ 33 then pmT l else if l = 4 ∨ r = 4 then 4 else 3
/-- of an exp: TYPE, CONSTANT (1), value, what else (the method that a call means; the TYPE in which an operator works) -/
abbrev TvT : Type := Int × Int × Int64 × Int
def hlT (e : TvT) (t : Int) : Bool := decide (¬ e.2.1 = 0) && decide (nrT t e.2.2.1 = e.2.2.1)
theorem hl_iff {e : TvT} {t : Int} : hlT e t = true ↔ ¬ e.2.1 = 0 ∧ nrT t e.2.2.1 = e.2.2.1 := by sorry
abbrev ftT (e : TvT) (t : Int) : Prop := wdT e.1 t ∨ (smT t ∧ (smT e.1 ∨ e.1 = 3) ∧ hlT e t = true)
def ctT (b c : TvT) : Int := if b.1 = c.1 then b.1 else if smT b.1 ∧ c.1 = 3 ∧ hlT c b.1 = true then b.1 else if smT c.1 ∧ b.1 = 3 ∧ hlT b c.1 = true then c.1 else if b.1 = 4 ∨ c.1 = 4 then 4 else 3
/-- CONSTANT, value of a chain -/
def csT (sg : Int) (a b : TvT) : Int := if ¬ a.2.1 = 0 ∧ ¬ b.2.1 = 0 ∧ ¬ ((sg = 37 ∨ sg = 38) ∧ b.2.2.1 = 0) then 1 else 0
def cvT (sg w : Int) (a b : Int64) : Int64 := if sg = 21 then a &&& b else if sg = 20 then a ||| b else wkT sg w a b
/-- of exps by their numbers, of variables (CONSTANT, value) -/
abbrev TbT : Type := (Nat → TvT) × (Nat → Int × Int64)
/-- a method: key, TYPE, its params' TYPES -/
abbrev MtT : Type := Int × Int × List Int
def tkT : List Int → List Int → Bool
  | [], [] => true
  | a :: l, b :: m => decide (wdT a b) && tkT l m
  | _, _ => false
/-- methods by their numbers (10 out, 11 in) -/
abbrev MfT : Type := Nat → Option MtT
/-- whether one takes arguments of these TYPES under this NAME -/
def taT (ms : MfT) (key : Int) (as : List Int) (i : Nat) : Bool := match ms i with
  | some m => decide (m.1 = key) && tkT as m.2.2
  | none => false
/-- whether params are as narrow as those of all that take them, below k -/
def naT (ms : MfT) (key : Int) (as ps : List Int) : Nat → Bool
  | 0 => true
  | k + 1 => naT ms key as ps k && (match ms k with
    | some n => !(taT ms key as k) || tkT ps n.2.2
    | none => true)
def odT (i : Nat) : Nat := (i + 10) % 12
def psT (ms : MfT) (i : Nat) : List Int := match ms i with
  | some m => m.2.2
  | none => []
/-- the one that a call means, of the last k in the order out, in, 0, 1 .. -/
def bsT (ms : MfT) (key : Int) (as : List Int) : Nat → Int
  | 0 => -1
  | k + 1 => if taT ms key as (odT (11 - k)) = true ∧ naT ms key as (psT ms (odT (11 - k))) 12 = true then (odT (11 - k) : Int) else bsT ms key as k
/-- what stands around: worth of tokens, TYPE and final of variables, how many there are, methods -/
abbrev CxT : Type := (Int → Int) × (Nat → Int × Int) × Nat × MfT
abbrev knT (C : CxT) (l : Int) : Prop := 0 ≤ l ∧ l < (C.2.2.1 : Int)
def vtT (C : CxT) (l : Int) : Int × Int := C.2.1 l.toNat
def opT (T : TbT) (q : Int) : TvT := T.1 q.toNat
/-- a NUMBER; g: the greatest one -/
abbrev nbT (v g : Int64) (lk : Int) : Prop := (v.toInt < 0 ∨ g.toInt < v.toInt) ∧ ¬ (v = g + 1 ∧ lk = 1)
def gtT (sg : Int) : Int64 := if sg = 82 then Int64.ofInt 9223372036854775807 else Int64.ofInt 2147483647
def nyT (sg : Int) : Int := if sg = 82 then 4 else 3
def x0T (t : TvT) (x : XrZ) : Option TvT := if nbT t.2.2.1 (gtT x.1.2.1) x.2.1.2.1 then none else some (nyT x.1.2.1, t.2.1, nrT (nyT x.1.2.1) t.2.2.1, t.2.2.2)
def x2T (C : CxT) (T : TbT) (t : TvT) (x : XrZ) : Option TvT := if knT C x.2.1.2.1 then some (if (T.2 x.2.1.2.1.toNat).1 = 0 then ((vtT C x.2.1.2.1).1, t.2) else ((vtT C x.2.1.2.1).1, 1, (T.2 x.2.1.2.1.toNat).2, t.2.2.2)) else none
def x3T (a t : TvT) : Option TvT := some (a.1, a.2.1, nrT a.1 a.2.2.1, t.2.2.2)
def auT (sg a : Int) : Int := if sg = 39 then a else pmT a
def x4T (a t : TvT) (x : XrZ) : Option TvT := if (x.1.2.1 = 39 ∧ a.1 = 0) ∨ (¬ x.1.2.1 = 39 ∧ nuT a.1) then some (auT x.1.2.1 a.1, a.2.1, alT x.1.2.1 (auT x.1.2.1 a.1) a.2.2.1, t.2.2.2) else none
def x5T (a t : TvT) (x : XrZ) : Option TvT := if (nuT a.1 ∧ nuT x.2.1.2.2) ∨ (a.1 = 0 ∧ x.2.1.2.2 = 0) then some (x.2.1.2.2, a.2.1, nrT x.2.1.2.2 a.2.2.1, t.2.2.2) else none
def x6T (C : CxT) (t : TvT) (x : XrZ) : Option TvT := if (knT C x.2.1.2.1 ∧ (vtT C x.2.1.2.1).2 = 0) ∧ nuT (vtT C x.2.1.2.1).1 then some ((vtT C x.2.1.2.1).1, t.2) else none
def x7T (a b t : TvT) (x : XrZ) : Option TvT := if ltT x.1.2.1 a.1 ∧ rtT a.1 b.1 then some (if 25 ≤ x.1.2.1 ∧ x.1.2.1 ≤ 30 then 0 else wrT x.1.2.1 a.1 b.1, csT x.1.2.1 a b, if csT x.1.2.1 a b = 1 then cvT x.1.2.1 (wrT x.1.2.1 a.1 b.1) a.2.2.1 b.2.2.1 else t.2.2.1, wrT x.1.2.1 a.1 b.1) else none
def x8T (a b c t : TvT) : Option TvT := if (a.1 = 0 ∧ ¬ b.1 = 5) ∧ rtT b.1 c.1 then some (ctT b c, if (¬ a.2.1 = 0 ∧ ¬ b.2.1 = 0) ∧ ¬ c.2.1 = 0 then 1 else 0, if a.2.2.1 = 1 then b.2.2.1 else c.2.2.1, t.2.2.2) else none
def x9T (C : CxT) (b t : TvT) (x : XrZ) : Option TvT := if (knT C x.2.1.2.1 ∧ (vtT C x.2.1.2.1).2 = 0) ∧ ((x.1.2.1 = 8 ∧ ftT b (vtT C x.2.1.2.1).1) ∨ (¬ x.1.2.1 = 8 ∧ ltT x.1.2.1 (vtT C x.2.1.2.1).1 ∧ rtT (vtT C x.2.1.2.1).1 b.1)) then some ((vtT C x.2.1.2.1).1, t.2.1, t.2.2.1, wrT x.1.2.1 (vtT C x.2.1.2.1).1 b.1) else none
def agT (T : TbT) (l : List Int) : List Int := l.map (fun q => (opT T q).1)
def cmaT (C : CxT) (T : TbT) (x : XrZ) : Int := bsT C.2.2.2 (C.1 x.1.2.2.1) (agT T x.2.2.2) 12
def mtyT (C : CxT) (i : Int) : Int := match C.2.2.2 i.toNat with
  | some m => m.2.1
  | none => 0
def xaT (C : CxT) (T : TbT) (t : TvT) (x : XrZ) : Option TvT := if (∀ q ∈ agT T x.2.2.2, ¬ q = 5) ∧ 0 ≤ cmaT C T x then some (mtyT C (cmaT C T x), t.2.1, t.2.2.1, cmaT C T x) else none
def xsT (C : CxT) (a t : TvT) (x : XrZ) : Option TvT := if knT C x.2.1.2.1 ∧ ftT a (vtT C x.2.1.2.1).1 then some t else none
/-- what exp i becomes: none where an ERROR is told at it -/
def exT (C : CxT) (T : TbT) (i : Nat) (x : XrZ) : Option TvT :=
  if x.1.1 = 0 then x0T (T.1 i) x
  else if x.1.1 = 2 then x2T C T (T.1 i) x
  else if x.1.1 = 3 then x3T (opT T x.2.2.1.2.1) (T.1 i)
  else if x.1.1 = 4 then x4T (opT T x.2.2.1.2.1) (T.1 i) x
  else if x.1.1 = 5 then x5T (opT T x.2.2.1.2.1) (T.1 i) x
  else if x.1.1 = 6 then x6T C (T.1 i) x
  else if x.1.1 = 7 then x7T (opT T x.2.2.1.2.1) (opT T x.2.2.1.2.2.1) (T.1 i) x
  else if x.1.1 = 8 then x8T (opT T x.2.2.1.2.1) (opT T x.2.2.1.2.2.1) (opT T x.2.2.1.2.2.2.1) (T.1 i)
  else if x.1.1 = 9 then x9T C (opT T x.2.2.1.2.2.1) (T.1 i) x
  else if x.1.1 = 10 then xaT C T (T.1 i) x
  else if x.1.1 = 15 then xsT C (opT T x.2.2.1.2.1) (T.1 i) x
  else some (T.1 i)
/-- what a variable becomes behind a MARK_STORE -/
def vrT (C : CxT) (T : TbT) (x : XrZ) : Nat → Int × Int64 := if x.1.1 = 15 then (fun v => if (v : Int) = x.2.1.2.1 then (if ¬ (vtT C x.2.1.2.1).2 = 0 ∧ ¬ (opT T x.2.2.1.2.1).2.1 = 0 then 1 else 0, (opT T x.2.2.1.2.1).2.2.1) else T.2 v) else T.2
/-- one exp more -/
def stT (C : CxT) (T : TbT) (i : Nat) (x : XrZ) : Option TbT := (exT C T i x).map (fun e => (fun j => if j = i then e else T.1 j, vrT C T x))
/-- as they are read -/
def t0T (N : Int → Int) (xs : Nat → XrZ) : TbT := (fun i => (tyX (xs i), coX (xs i), Int64.ofInt (vaX N (xs i)), if (xs i).1.1 = 10 then -1 else 0), fun _ => (0, 0))
/-- the first i exps: none behind an ERROR -/
def tbT (C : CxT) (xs : Nat → XrZ) : Nat → Option TbT
  | 0 => some (t0T C.1 xs)
  | i + 1 => (tbT C xs i).bind (fun T => stT C T i (xs i))
theorem tb_n {C : CxT} {xs : Nat → XrZ} {i : Nat} (h : tbT C xs i = none) : ∀ j, i ≤ j → tbT C xs j = none := by sorry
theorem tb_p {C : CxT} {xs : Nat → XrZ} {j : Nat} {U : TbT} (h : tbT C xs (j + 1) = some U) : ∃ T e, tbT C xs j = some T ∧ exT C T j (xs j) = some e ∧ U = (fun k => if k = j then e else T.1 k, vrT C T (xs j)) := by sorry
theorem tb_s {C : CxT} {xs : Nat → XrZ} {j : Nat} {T : TbT} {e : TvT} (h : tbT C xs j = some T) (q : exT C T j (xs j) = some e) : tbT C xs (j + 1) = some (fun k => if k = j then e else T.1 k, vrT C T (xs j)) := by sorry
theorem tb_e {C : CxT} {xs : Nat → XrZ} {j : Nat} {T : TbT} (h : tbT C xs j = some T) (q : exT C T j (xs j) = none) : tbT C xs (j + 1) = none := by sorry
/-- what is judged stays -/
theorem tb_o {C : CxT} {xs : Nat → XrZ} {i : Nat} {T : TbT} (h : tbT C xs i = some T) : ∀ (j : Nat) (U : TbT), i ≤ j → tbT C xs j = some U → ∀ k, k < i → U.1 k = T.1 k := by sorry
theorem ex_0 {C : CxT} {T : TbT} {i : Nat} {x : XrZ} (h : x.1.1 = 0) : exT C T i x = x0T (T.1 i) x := by sorry
theorem ex_2 {C : CxT} {T : TbT} {i : Nat} {x : XrZ} (h : x.1.1 = 2) : exT C T i x = x2T C T (T.1 i) x := by sorry
theorem ex_3 {C : CxT} {T : TbT} {i : Nat} {x : XrZ} (h : x.1.1 = 3) : exT C T i x = x3T (opT T x.2.2.1.2.1) (T.1 i) := by sorry
theorem ex_4 {C : CxT} {T : TbT} {i : Nat} {x : XrZ} (h : x.1.1 = 4) : exT C T i x = x4T (opT T x.2.2.1.2.1) (T.1 i) x := by sorry
theorem ex_5 {C : CxT} {T : TbT} {i : Nat} {x : XrZ} (h : x.1.1 = 5) : exT C T i x = x5T (opT T x.2.2.1.2.1) (T.1 i) x := by sorry
theorem ex_6 {C : CxT} {T : TbT} {i : Nat} {x : XrZ} (h : x.1.1 = 6) : exT C T i x = x6T C (T.1 i) x := by sorry
theorem ex_7 {C : CxT} {T : TbT} {i : Nat} {x : XrZ} (h : x.1.1 = 7) : exT C T i x = x7T (opT T x.2.2.1.2.1) (opT T x.2.2.1.2.2.1) (T.1 i) x := by sorry
theorem ex_8 {C : CxT} {T : TbT} {i : Nat} {x : XrZ} (h : x.1.1 = 8) : exT C T i x = x8T (opT T x.2.2.1.2.1) (opT T x.2.2.1.2.2.1) (opT T x.2.2.1.2.2.2.1) (T.1 i) := by sorry
theorem ex_9 {C : CxT} {T : TbT} {i : Nat} {x : XrZ} (h : x.1.1 = 9) : exT C T i x = x9T C (opT T x.2.2.1.2.2.1) (T.1 i) x := by sorry
theorem ex_10 {C : CxT} {T : TbT} {i : Nat} {x : XrZ} (h : x.1.1 = 10) : exT C T i x = xaT C T (T.1 i) x := by sorry
theorem ex_15 {C : CxT} {T : TbT} {i : Nat} {x : XrZ} (h : x.1.1 = 15) : exT C T i x = xsT C (opT T x.2.2.1.2.1) (T.1 i) x := by sorry
theorem ex_d {C : CxT} {T : TbT} {i : Nat} {x : XrZ} (h : x.1.1 = 1 ∨ (11 ≤ x.1.1 ∧ x.1.1 ≤ 14)) : exT C T i x = some (T.1 i) := by sorry
theorem vr_d {C : CxT} {T : TbT} {x : XrZ} (h : ¬ x.1.1 = 15) : vrT C T x = T.2 := if_neg h
abbrev Pz_isNumber : ((Int → Int) × (Nat → Nat) × (Nat → Nat) × (Nat → Nat) × (Nat → Nat) × ZS) → CpC := fun y As σ => match y with
  | (N, E, A, B, V, z) => ∃ (p0 : Int32), As = [.inl p0]
abbrev Qz_isNumber : ((Int → Int) × (Nat → Nat) × (Nat → Nat) × (Nat → Nat) × (Nat → Nat) × ZS) → CqC := fun y As σ w τ => match y, As with
  | (N, E, A, B, V, z), [.inl p0] => ∃ r, w = some (.inl r) ∧ ((r.toInt = 1 ∧ (nuT p0.toInt)) ∨ (r.toInt = 0 ∧ ¬ (nuT p0.toInt))) ∧ σ = τ
  | _, _ => True
abbrev Uz_isNumber : CqC := fun As σ w τ => ∀ y, Pz_isNumber y As σ → Qz_isNumber y As σ w τ
set_option maxHeartbeats 4000000 in
theorem pz_isNumber (y : (Int → Int) × (Nat → Nat) × (Nat → Nat) × (Nat → Nat) × (Nat → Nat) × ZS) : PbC KX11_isNumber [] [] (fun As σ => Pz_isNumber y As σ ∧ cnC σ ≤ 1000000 ∧ ∃ w τ, uqC quL 223 As σ w τ) (Qz_isNumber y) := by sorry
theorem wz_isNumber : ∀ (L : Nat) (As : List AvC) (σ : CsC) (w : Option AvC) (τ : CsC), EvF L 223 As σ w τ → Uz_isNumber As σ w τ := by sorry
abbrev Pz_isDivision : ((Int → Int) × (Nat → Nat) × (Nat → Nat) × (Nat → Nat) × (Nat → Nat) × ZS) → CpC := fun y As σ => match y with
  | (N, E, A, B, V, z) => ∃ (p0 : Int32), As = [.inl p0]
abbrev Qz_isDivision : ((Int → Int) × (Nat → Nat) × (Nat → Nat) × (Nat → Nat) × (Nat → Nat) × ZS) → CqC := fun y As σ w τ => match y, As with
  | (N, E, A, B, V, z), [.inl p0] => ∃ r, w = some (.inl r) ∧ ((r.toInt = 1 ∧ (p0.toInt = 37 ∨ p0.toInt = 38)) ∨ (r.toInt = 0 ∧ ¬ (p0.toInt = 37 ∨ p0.toInt = 38))) ∧ σ = τ
  | _, _ => True
abbrev Uz_isDivision : CqC := fun As σ w τ => ∀ y, Pz_isDivision y As σ → Qz_isDivision y As σ w τ
set_option maxHeartbeats 4000000 in
theorem pz_isDivision (y : (Int → Int) × (Nat → Nat) × (Nat → Nat) × (Nat → Nat) × (Nat → Nat) × ZS) : PbC KX11_isDivision [] [] (fun As σ => Pz_isDivision y As σ ∧ cnC σ ≤ 1000000 ∧ ∃ w τ, uqC quL 227 As σ w τ) (Qz_isDivision y) := by sorry
theorem wz_isDivision : ∀ (L : Nat) (As : List AvC) (σ : CsC) (w : Option AvC) (τ : CsC), EvF L 227 As σ w τ → Uz_isDivision As σ w τ := by sorry
abbrev Pz_sameOrWidens : ((Int → Int) × (Nat → Nat) × (Nat → Nat) × (Nat → Nat) × (Nat → Nat) × ZS) → CpC := fun y As σ => match y with
  | (N, E, A, B, V, z) => ∃ (p0 : Int32) (p1 : Int32), As = [.inl p0, .inl p1]
abbrev Qz_sameOrWidens : ((Int → Int) × (Nat → Nat) × (Nat → Nat) × (Nat → Nat) × (Nat → Nat) × ZS) → CqC := fun y As σ w τ => match y, As with
  | (N, E, A, B, V, z), [.inl p0, .inl p1] => ∃ r, w = some (.inl r) ∧ ((r.toInt = 1 ∧ (wdT p0.toInt p1.toInt)) ∨ (r.toInt = 0 ∧ ¬ (wdT p0.toInt p1.toInt))) ∧ σ = τ
  | _, _ => True
abbrev Uz_sameOrWidens : CqC := fun As σ w τ => ∀ y, Pz_sameOrWidens y As σ → Qz_sameOrWidens y As σ w τ
set_option maxHeartbeats 4000000 in
theorem pz_sameOrWidens (y : (Int → Int) × (Nat → Nat) × (Nat → Nat) × (Nat → Nat) × (Nat → Nat) × ZS) : PbC KX11_sameOrWidens [] [] (fun As σ => Pz_sameOrWidens y As σ ∧ cnC σ ≤ 1000000 ∧ ∃ w τ, uqC quL 224 As σ w τ) (Qz_sameOrWidens y) := by sorry
theorem wz_sameOrWidens : ∀ (L : Nat) (As : List AvC) (σ : CsC) (w : Option AvC) (τ : CsC), EvF L 224 As σ w τ → Uz_sameOrWidens As σ w τ := by sorry
abbrev Pz_isLogical : ((Int → Int) × (Nat → Nat) × (Nat → Nat) × (Nat → Nat) × (Nat → Nat) × ZS) → CpC := fun y As σ => match y with
  | (N, E, A, B, V, z) => ∃ (p0 : Int32), As = [.inl p0]
abbrev Qz_isLogical : ((Int → Int) × (Nat → Nat) × (Nat → Nat) × (Nat → Nat) × (Nat → Nat) × ZS) → CqC := fun y As σ w τ => match y, As with
  | (N, E, A, B, V, z), [.inl p0] => ∃ r, w = some (.inl r) ∧ ((r.toInt = 1 ∧ (p0.toInt = 20 ∨ p0.toInt = 21)) ∨ (r.toInt = 0 ∧ ¬ (p0.toInt = 20 ∨ p0.toInt = 21))) ∧ σ = τ
  | _, _ => True
abbrev Uz_isLogical : CqC := fun As σ w τ => ∀ y, Pz_isLogical y As σ → Qz_isLogical y As σ w τ
set_option maxHeartbeats 4000000 in
theorem pz_isLogical (y : (Int → Int) × (Nat → Nat) × (Nat → Nat) × (Nat → Nat) × (Nat → Nat) × ZS) : PbC KX3_isLogical [] [] (fun As σ => Pz_isLogical y As σ ∧ cnC σ ≤ 1000000 ∧ ∃ w τ, uqC quL 64 As σ w τ) (Qz_isLogical y) := by sorry
theorem wz_isLogical : ∀ (L : Nat) (As : List AvC) (σ : CsC) (w : Option AvC) (τ : CsC), EvF L 64 As σ w τ → Uz_isLogical As σ w τ := by sorry
abbrev Pz_takesBoth : ((Int → Int) × (Nat → Nat) × (Nat → Nat) × (Nat → Nat) × (Nat → Nat) × ZS) → CpC := fun y As σ => match y with
  | (N, E, A, B, V, z) => ∃ (p0 : Int32), As = [.inl p0]
abbrev Qz_takesBoth : ((Int → Int) × (Nat → Nat) × (Nat → Nat) × (Nat → Nat) × (Nat → Nat) × ZS) → CqC := fun y As σ w τ => match y, As with
  | (N, E, A, B, V, z), [.inl p0] => ∃ r, w = some (.inl r) ∧ ((r.toInt = 1 ∧ (22 ≤ p0.toInt ∧ p0.toInt ≤ 26)) ∨ (r.toInt = 0 ∧ ¬ (22 ≤ p0.toInt ∧ p0.toInt ≤ 26))) ∧ σ = τ
  | _, _ => True
abbrev Uz_takesBoth : CqC := fun As σ w τ => ∀ y, Pz_takesBoth y As σ → Qz_takesBoth y As σ w τ
set_option maxHeartbeats 4000000 in
theorem pz_takesBoth (y : (Int → Int) × (Nat → Nat) × (Nat → Nat) × (Nat → Nat) × (Nat → Nat) × ZS) : PbC KX3_takesBoth [] [] (fun As σ => Pz_takesBoth y As σ ∧ cnC σ ≤ 1000000 ∧ ∃ w τ, uqC quL 65 As σ w τ) (Qz_takesBoth y) := by sorry
theorem wz_takesBoth : ∀ (L : Nat) (As : List AvC) (σ : CsC) (w : Option AvC) (τ : CsC), EvF L 65 As σ w τ → Uz_takesBoth As σ w τ := by sorry
abbrev Pz_isSmall : ((Int → Int) × (Nat → Nat) × (Nat → Nat) × (Nat → Nat) × (Nat → Nat) × ZS) → CpC := fun y As σ => match y with
  | (N, E, A, B, V, z) => ∃ (p0 : Int32), As = [.inl p0]
abbrev Qz_isSmall : ((Int → Int) × (Nat → Nat) × (Nat → Nat) × (Nat → Nat) × (Nat → Nat) × ZS) → CqC := fun y As σ w τ => match y, As with
  | (N, E, A, B, V, z), [.inl p0] => ∃ r, w = some (.inl r) ∧ ((r.toInt = 1 ∧ (smT p0.toInt)) ∨ (r.toInt = 0 ∧ ¬ (smT p0.toInt))) ∧ σ = τ
  | _, _ => True
abbrev Uz_isSmall : CqC := fun As σ w τ => ∀ y, Pz_isSmall y As σ → Qz_isSmall y As σ w τ
set_option maxHeartbeats 4000000 in
theorem pz_isSmall (y : (Int → Int) × (Nat → Nat) × (Nat → Nat) × (Nat → Nat) × (Nat → Nat) × ZS) : PbC KX3_isSmall [] [] (fun As σ => Pz_isSmall y As σ ∧ cnC σ ≤ 1000000 ∧ ∃ w τ, uqC quL 73 As σ w τ) (Qz_isSmall y) := by sorry
theorem wz_isSmall : ∀ (L : Nat) (As : List AvC) (σ : CsC) (w : Option AvC) (τ : CsC), EvF L 73 As σ w τ → Uz_isSmall As σ w τ := by sorry
abbrev Pz_isLeftTaken : ((Int → Int) × (Nat → Nat) × (Nat → Nat) × (Nat → Nat) × (Nat → Nat) × ZS) → CpC := fun y As σ => match y with
  | (N, E, A, B, V, z) => ∃ (p0 : Int32) (p1 : Int32), As = [.inl p0, .inl p1]
abbrev Qz_isLeftTaken : ((Int → Int) × (Nat → Nat) × (Nat → Nat) × (Nat → Nat) × (Nat → Nat) × ZS) → CqC := fun y As σ w τ => match y, As with
  | (N, E, A, B, V, z), [.inl p0, .inl p1] => ∃ r, w = some (.inl r) ∧ ((r.toInt = 1 ∧ (ltT p0.toInt p1.toInt)) ∨ (r.toInt = 0 ∧ ¬ (ltT p0.toInt p1.toInt))) ∧ σ = τ
  | _, _ => True
abbrev Uz_isLeftTaken : CqC := fun As σ w τ => ∀ y, Pz_isLeftTaken y As σ → Qz_isLeftTaken y As σ w τ
set_option maxHeartbeats 4000000 in
theorem pz_isLeftTaken (y : (Int → Int) × (Nat → Nat) × (Nat → Nat) × (Nat → Nat) × (Nat → Nat) × ZS) : PbC KX3_isLeftTaken [(64, TrP, EqC 64), (223, TrP, EqC 223), (65, TrP, EqC 65)] [(64, Uz_isLogical), (223, Uz_isNumber), (65, Uz_takesBoth)] (fun As σ => Pz_isLeftTaken y As σ ∧ cnC σ ≤ 1000000 ∧ ∃ w τ, uqC quL 66 As σ w τ) (Qz_isLeftTaken y) := by sorry
theorem wz_isLeftTaken : ∀ (L : Nat) (As : List AvC) (σ : CsC) (w : Option AvC) (τ : CsC), EvF L 66 As σ w τ → Uz_isLeftTaken As σ w τ := by sorry
abbrev Pz_isRightTaken : ((Int → Int) × (Nat → Nat) × (Nat → Nat) × (Nat → Nat) × (Nat → Nat) × ZS) → CpC := fun y As σ => match y with
  | (N, E, A, B, V, z) => ∃ (p0 : Int32) (p1 : Int32) (p2 : Int32), As = [.inl p0, .inl p1, .inl p2]
abbrev Qz_isRightTaken : ((Int → Int) × (Nat → Nat) × (Nat → Nat) × (Nat → Nat) × (Nat → Nat) × ZS) → CqC := fun y As σ w τ => match y, As with
  | (N, E, A, B, V, z), [.inl p0, .inl p1, .inl p2] => ∃ r, w = some (.inl r) ∧ ((r.toInt = 1 ∧ (rtT p1.toInt p2.toInt)) ∨ (r.toInt = 0 ∧ ¬ (rtT p1.toInt p2.toInt))) ∧ σ = τ
  | _, _ => True
abbrev Uz_isRightTaken : CqC := fun As σ w τ => ∀ y, Pz_isRightTaken y As σ → Qz_isRightTaken y As σ w τ
set_option maxHeartbeats 4000000 in
theorem pz_isRightTaken (y : (Int → Int) × (Nat → Nat) × (Nat → Nat) × (Nat → Nat) × (Nat → Nat) × ZS) : PbC KX3_isRightTaken [(223, TrP, EqC 223)] [(223, Uz_isNumber)] (fun As σ => Pz_isRightTaken y As σ ∧ cnC σ ≤ 1000000 ∧ ∃ w τ, uqC quL 67 As σ w τ) (Qz_isRightTaken y) := by sorry
theorem wz_isRightTaken : ∀ (L : Nat) (As : List AvC) (σ : CsC) (w : Option AvC) (τ : CsC), EvF L 67 As σ w τ → Uz_isRightTaken As σ w τ := by sorry
abbrev Pz_promoted : ((Int → Int) × (Nat → Nat) × (Nat → Nat) × (Nat → Nat) × (Nat → Nat) × ZS) → CpC := fun y As σ => match y with
  | (N, E, A, B, V, z) => ∃ (p0 : Int32), As = [.inl p0]
abbrev Qz_promoted : ((Int → Int) × (Nat → Nat) × (Nat → Nat) × (Nat → Nat) × (Nat → Nat) × ZS) → CqC := fun y As σ w τ => match y, As with
  | (N, E, A, B, V, z), [.inl p0] => ∃ r, w = some (.inl r) ∧ r.toInt = pmT p0.toInt ∧ σ = τ
  | _, _ => True
abbrev Uz_promoted : CqC := fun As σ w τ => ∀ y, Pz_promoted y As σ → Qz_promoted y As σ w τ
set_option maxHeartbeats 4000000 in
theorem pz_promoted (y : (Int → Int) × (Nat → Nat) × (Nat → Nat) × (Nat → Nat) × (Nat → Nat) × ZS) : PbC KX3_promoted [] [] (fun As σ => Pz_promoted y As σ ∧ cnC σ ≤ 1000000 ∧ ∃ w τ, uqC quL 58 As σ w τ) (Qz_promoted y) := by sorry
theorem wz_promoted : ∀ (L : Nat) (As : List AvC) (σ : CsC) (w : Option AvC) (τ : CsC), EvF L 58 As σ w τ → Uz_promoted As σ w τ := by sorry
abbrev Pz_workType : ((Int → Int) × (Nat → Nat) × (Nat → Nat) × (Nat → Nat) × (Nat → Nat) × ZS) → CpC := fun y As σ => match y with
  | (N, E, A, B, V, z) => ∃ (p0 : Int32) (p1 : Int32) (p2 : Int32), As = [.inl p0, .inl p1, .inl p2]
abbrev Qz_workType : ((Int → Int) × (Nat → Nat) × (Nat → Nat) × (Nat → Nat) × (Nat → Nat) × ZS) → CqC := fun y As σ w τ => match y, As with
  | (N, E, A, B, V, z), [.inl p0, .inl p1, .inl p2] => ∃ r, w = some (.inl r) ∧ r.toInt = wrT p0.toInt p1.toInt p2.toInt ∧ σ = τ
  | _, _ => True
abbrev Uz_workType : CqC := fun As σ w τ => ∀ y, Pz_workType y As σ → Qz_workType y As σ w τ
set_option maxHeartbeats 4000000 in
theorem pz_workType (y : (Int → Int) × (Nat → Nat) × (Nat → Nat) × (Nat → Nat) × (Nat → Nat) × ZS) : PbC KX3_workType [(58, TrP, EqC 58)] [(58, Uz_promoted)] (fun As σ => Pz_workType y As σ ∧ cnC σ ≤ 1000000 ∧ ∃ w τ, uqC quL 68 As σ w τ) (Qz_workType y) := by sorry
theorem wz_workType : ∀ (L : Nat) (As : List AvC) (σ : CsC) (w : Option AvC) (τ : CsC), EvF L 68 As σ w τ → Uz_workType As σ w τ := by sorry
abbrev Pz_narrowed : ((Int → Int) × (Nat → Nat) × (Nat → Nat) × (Nat → Nat) × (Nat → Nat) × ZS) → CpC := fun y As σ => match y with
  | (N, E, A, B, V, z) => ∃ (p0 : Int32) (p1 : Int64), As = [.inl p0, .inr (.inl p1)]
abbrev Qz_narrowed : ((Int → Int) × (Nat → Nat) × (Nat → Nat) × (Nat → Nat) × (Nat → Nat) × ZS) → CqC := fun y As σ w τ => match y, As with
  | (N, E, A, B, V, z), [.inl p0, .inr (.inl p1)] => ∃ r, w = some (.inr (.inl r)) ∧ r = nrT p0.toInt p1 ∧ σ = τ
  | _, _ => True
abbrev Uz_narrowed : CqC := fun As σ w τ => ∀ y, Pz_narrowed y As σ → Qz_narrowed y As σ w τ
set_option maxHeartbeats 4000000 in
theorem pz_narrowed (y : (Int → Int) × (Nat → Nat) × (Nat → Nat) × (Nat → Nat) × (Nat → Nat) × ZS) : PbC KX11_narrowed [] [] (fun As σ => Pz_narrowed y As σ ∧ cnC σ ≤ 1000000 ∧ ∃ w τ, uqC quL 228 As σ w τ) (Qz_narrowed y) := by sorry
theorem wz_narrowed : ∀ (L : Nat) (As : List AvC) (σ : CsC) (w : Option AvC) (τ : CsC), EvF L 228 As σ w τ → Uz_narrowed As σ w τ := by sorry
/-! the class's judge: values; what is asked of one exp -/
theorem lcmp3 {x y : Int64} : (y.toInt < x.toInt ∧ (lg_cmp x y).toInt = 1) ∨ (x.toInt = y.toInt ∧ (lg_cmp x y).toInt = 0) ∨ (x.toInt < y.toInt ∧ (lg_cmp x y).toInt = -1) := by sorry
theorem eqL {x y : Int64} : x = y ↔ x.toInt = y.toInt := Int64.toInt_inj.symm
/-- TYPE, CONSTANT, value of an exp's object -/
def tvC (σ : CsC) (o : Nat) : TvT := ((fIC σ o 68).toInt, (fIC σ o 70).toInt, fLC σ o 71, 0)
theorem ft_c {a b : TvT} (h1 : a.1 = b.1) (h2 : a.2.1 = b.2.1) (h3 : a.2.2.1 = b.2.2.1) (t : Int) : ftT a t ↔ ftT b t := by sorry
theorem ct_c {a b c d : TvT} (h1 : a.1 = b.1) (h2 : a.2.1 = b.2.1) (h3 : a.2.2.1 = b.2.2.1) (g1 : c.1 = d.1) (g2 : c.2.1 = d.2.1) (g3 : c.2.2.1 = d.2.2.1) : ctT a c = ctT b d := by sorry
abbrev Pz_compared : ((Int → Int) × (Nat → Nat) × (Nat → Nat) × (Nat → Nat) × (Nat → Nat) × ZS) → CpC := fun y As σ => match y with
  | (N, E, A, B, V, z) => ∃ (p0 : Int32) (p1 : Int64) (p2 : Int64), As = [.inl p0, .inr (.inl p1), .inr (.inl p2)]
abbrev Qz_compared : ((Int → Int) × (Nat → Nat) × (Nat → Nat) × (Nat → Nat) × (Nat → Nat) × ZS) → CqC := fun y As σ w τ => match y, As with
  | (N, E, A, B, V, z), [.inl p0, .inr (.inl p1), .inr (.inl p2)] => ∃ r, w = some (.inl r) ∧ ((r.toInt = 1 ∧ (cmT p0.toInt p1 p2)) ∨ (r.toInt = 0 ∧ ¬ (cmT p0.toInt p1 p2))) ∧ σ = τ
  | _, _ => True
abbrev Uz_compared : CqC := fun As σ w τ => ∀ y, Pz_compared y As σ → Qz_compared y As σ w τ
set_option maxHeartbeats 4000000 in
theorem pz_compared (y : (Int → Int) × (Nat → Nat) × (Nat → Nat) × (Nat → Nat) × (Nat → Nat) × ZS) : PbC KX11_compared [] [] (fun As σ => Pz_compared y As σ ∧ cnC σ ≤ 1000000 ∧ ∃ w τ, uqC quL 231 As σ w τ) (Qz_compared y) := by sorry
theorem wz_compared : ∀ (L : Nat) (As : List AvC) (σ : CsC) (w : Option AvC) (τ : CsC), EvF L 231 As σ w τ → Uz_compared As σ w τ := by sorry
abbrev Pz_shifted : ((Int → Int) × (Nat → Nat) × (Nat → Nat) × (Nat → Nat) × (Nat → Nat) × ZS) → CpC := fun y As σ => match y with
  | (N, E, A, B, V, z) => ∃ (p0 : Int32) (p1 : Int32) (p2 : Int64) (p3 : Int64), As = [.inl p0, .inl p1, .inr (.inl p2), .inr (.inl p3)]
abbrev Qz_shifted : ((Int → Int) × (Nat → Nat) × (Nat → Nat) × (Nat → Nat) × (Nat → Nat) × ZS) → CqC := fun y As σ w τ => match y, As with
  | (N, E, A, B, V, z), [.inl p0, .inl p1, .inr (.inl p2), .inr (.inl p3)] => ∃ r, w = some (.inr (.inl r)) ∧ r = shT p0.toInt p1.toInt p2 p3 ∧ σ = τ
  | _, _ => True
abbrev Uz_shifted : CqC := fun As σ w τ => ∀ y, Pz_shifted y As σ → Qz_shifted y As σ w τ
set_option maxHeartbeats 4000000 in
theorem pz_shifted (y : (Int → Int) × (Nat → Nat) × (Nat → Nat) × (Nat → Nat) × (Nat → Nat) × ZS) : PbC KX11_shifted [] [] (fun As σ => Pz_shifted y As σ ∧ cnC σ ≤ 1000000 ∧ ∃ w τ, uqC quL 230 As σ w τ) (Qz_shifted y) := by sorry
theorem wz_shifted : ∀ (L : Nat) (As : List AvC) (σ : CsC) (w : Option AvC) (τ : CsC), EvF L 230 As σ w τ → Uz_shifted As σ w τ := by sorry
abbrev Pz_worked : ((Int → Int) × (Nat → Nat) × (Nat → Nat) × (Nat → Nat) × (Nat → Nat) × ZS) → CpC := fun y As σ => match y with
  | (N, E, A, B, V, z) => ∃ (p0 : Int32) (p1 : Int32) (p2 : Int64) (p3 : Int64), As = [.inl p0, .inl p1, .inr (.inl p2), .inr (.inl p3)]
abbrev Qz_worked : ((Int → Int) × (Nat → Nat) × (Nat → Nat) × (Nat → Nat) × (Nat → Nat) × ZS) → CqC := fun y As σ w τ => match y, As with
  | (N, E, A, B, V, z), [.inl p0, .inl p1, .inr (.inl p2), .inr (.inl p3)] => ∃ r, w = some (.inr (.inl r)) ∧ r = wkT p0.toInt p1.toInt p2 p3 ∧ σ = τ
  | _, _ => True
abbrev Uz_worked : CqC := fun As σ w τ => ∀ y, Pz_worked y As σ → Qz_worked y As σ w τ
set_option maxHeartbeats 4000000 in
theorem pz_worked (y : (Int → Int) × (Nat → Nat) × (Nat → Nat) × (Nat → Nat) × (Nat → Nat) × ZS) : PbC KX11_worked [(231, TrP, EqC 231), (230, TrP, EqC 230), (228, TrP, EqC 228)] [(231, Uz_compared), (230, Uz_shifted), (228, Uz_narrowed)] (fun As σ => Pz_worked y As σ ∧ cnC σ ≤ 1000000 ∧ ∃ w τ, uqC quL 229 As σ w τ) (Qz_worked y) := by sorry
theorem wz_worked : ∀ (L : Nat) (As : List AvC) (σ : CsC) (w : Option AvC) (τ : CsC), EvF L 229 As σ w τ → Uz_worked As σ w τ := by sorry
abbrev Pz_workedAlone : ((Int → Int) × (Nat → Nat) × (Nat → Nat) × (Nat → Nat) × (Nat → Nat) × ZS) → CpC := fun y As σ => match y with
  | (N, E, A, B, V, z) => ∃ (p0 : Int32) (p1 : Int32) (p2 : Int64), As = [.inl p0, .inl p1, .inr (.inl p2)]
abbrev Qz_workedAlone : ((Int → Int) × (Nat → Nat) × (Nat → Nat) × (Nat → Nat) × (Nat → Nat) × ZS) → CqC := fun y As σ w τ => match y, As with
  | (N, E, A, B, V, z), [.inl p0, .inl p1, .inr (.inl p2)] => ∃ r, w = some (.inr (.inl r)) ∧ r = alT p0.toInt p1.toInt p2 ∧ σ = τ
  | _, _ => True
abbrev Uz_workedAlone : CqC := fun As σ w τ => ∀ y, Pz_workedAlone y As σ → Qz_workedAlone y As σ w τ
set_option maxHeartbeats 4000000 in
theorem pz_workedAlone (y : (Int → Int) × (Nat → Nat) × (Nat → Nat) × (Nat → Nat) × (Nat → Nat) × ZS) : PbC KX11_workedAlone [(228, TrP, EqC 228)] [(228, Uz_narrowed)] (fun As σ => Pz_workedAlone y As σ ∧ cnC σ ≤ 1000000 ∧ ∃ w τ, uqC quL 232 As σ w τ) (Qz_workedAlone y) := by sorry
theorem wz_workedAlone : ∀ (L : Nat) (As : List AvC) (σ : CsC) (w : Option AvC) (τ : CsC), EvF L 232 As σ w τ → Uz_workedAlone As σ w τ := by sorry
abbrev Pz_acts : ((Int → Int) × (Nat → Nat) × (Nat → Nat) × (Nat → Nat) × (Nat → Nat) × ZS) → CpC := fun y As σ => match y with
  | (N, E, A, B, V, z) => ∃ (p0 : Nat), As = [.inr (.inr (some p0))]
abbrev Qz_acts : ((Int → Int) × (Nat → Nat) × (Nat → Nat) × (Nat → Nat) × (Nat → Nat) × ZS) → CqC := fun y As σ w τ => match y, As with
  | (N, E, A, B, V, z), [.inr (.inr (some p0))] => ∃ r, w = some (.inl r) ∧ ((r.toInt = 1 ∧ ((fIC σ p0 60).toInt = 9 ∨ (fIC σ p0 60).toInt = 6 ∨ (fIC σ p0 60).toInt = 10)) ∨ (r.toInt = 0 ∧ ¬ ((fIC σ p0 60).toInt = 9 ∨ (fIC σ p0 60).toInt = 6 ∨ (fIC σ p0 60).toInt = 10))) ∧ σ = τ
  | _, _ => True
abbrev Uz_acts : CqC := fun As σ w τ => ∀ y, Pz_acts y As σ → Qz_acts y As σ w τ
set_option maxHeartbeats 4000000 in
theorem pz_acts (y : (Int → Int) × (Nat → Nat) × (Nat → Nat) × (Nat → Nat) × (Nat → Nat) × ZS) : PbC KX1_acts [] [] (fun As σ => Pz_acts y As σ ∧ cnC σ ≤ 1000000 ∧ ∃ w τ, uqC quL 18 As σ w τ) (Qz_acts y) := by sorry
theorem wz_acts : ∀ (L : Nat) (As : List AvC) (σ : CsC) (w : Option AvC) (τ : CsC), EvF L 18 As σ w τ → Uz_acts As σ w τ := by sorry
abbrev Pz_isTakenAlone : ((Int → Int) × (Nat → Nat) × (Nat → Nat) × (Nat → Nat) × (Nat → Nat) × ZS) → CpC := fun y As σ => match y with
  | (N, E, A, B, V, z) => ∃ (p0 : Nat) (p1 : Int32), As = [.inr (.inr (some p0)), .inl p1]
abbrev Qz_isTakenAlone : ((Int → Int) × (Nat → Nat) × (Nat → Nat) × (Nat → Nat) × (Nat → Nat) × ZS) → CqC := fun y As σ w τ => match y, As with
  | (N, E, A, B, V, z), [.inr (.inr (some p0)), .inl p1] => ∃ r, w = some (.inl r) ∧ ((r.toInt = 1 ∧ (((fIC σ p0 60).toInt = 5 ∧ ((nuT p1.toInt ∧ nuT (fIC σ p0 69).toInt) ∨ (p1.toInt = 0 ∧ (fIC σ p0 69).toInt = 0))) ∨ (¬ (fIC σ p0 60).toInt = 5 ∧ (((fIC σ p0 61).toInt = 39 ∧ p1.toInt = 0) ∨ (¬ (fIC σ p0 61).toInt = 39 ∧ nuT p1.toInt))))) ∨ (r.toInt = 0 ∧ ¬ (((fIC σ p0 60).toInt = 5 ∧ ((nuT p1.toInt ∧ nuT (fIC σ p0 69).toInt) ∨ (p1.toInt = 0 ∧ (fIC σ p0 69).toInt = 0))) ∨ (¬ (fIC σ p0 60).toInt = 5 ∧ (((fIC σ p0 61).toInt = 39 ∧ p1.toInt = 0) ∨ (¬ (fIC σ p0 61).toInt = 39 ∧ nuT p1.toInt)))))) ∧ σ = τ
  | _, _ => True
abbrev Uz_isTakenAlone : CqC := fun As σ w τ => ∀ y, Pz_isTakenAlone y As σ → Qz_isTakenAlone y As σ w τ
set_option maxHeartbeats 4000000 in
theorem pz_isTakenAlone (y : (Int → Int) × (Nat → Nat) × (Nat → Nat) × (Nat → Nat) × (Nat → Nat) × ZS) : PbC KX3_isTakenAlone [(223, TrP, EqC 223)] [(223, Uz_isNumber)] (fun As σ => Pz_isTakenAlone y As σ ∧ cnC σ ≤ 1000000 ∧ ∃ w τ, uqC quL 57 As σ w τ) (Qz_isTakenAlone y) := by sorry
theorem wz_isTakenAlone : ∀ (L : Nat) (As : List AvC) (σ : CsC) (w : Option AvC) (τ : CsC), EvF L 57 As σ w τ → Uz_isTakenAlone As σ w τ := by sorry
abbrev Pz_isFaulty : ((Int → Int) × (Nat → Nat) × (Nat → Nat) × (Nat → Nat) × (Nat → Nat) × ZS) → CpC := fun y As σ => match y with
  | (N, E, A, B, V, z) => ∃ (p0 : Option Nat), As = [.inr (.inr p0)]
abbrev Qz_isFaulty : ((Int → Int) × (Nat → Nat) × (Nat → Nat) × (Nat → Nat) × (Nat → Nat) × ZS) → CqC := fun y As σ w τ => match y, As with
  | (N, E, A, B, V, z), [.inr (.inr p0)] => ∃ r, w = some (.inl r) ∧ ((r.toInt = 1 ∧ (∀ a, p0 = some a → (fIC σ a 68).toInt = -1)) ∨ (r.toInt = 0 ∧ ¬ (∀ a, p0 = some a → (fIC σ a 68).toInt = -1))) ∧ σ = τ
  | _, _ => True
abbrev Uz_isFaulty : CqC := fun As σ w τ => ∀ y, Pz_isFaulty y As σ → Qz_isFaulty y As σ w τ
set_option maxHeartbeats 4000000 in
theorem pz_isFaulty (y : (Int → Int) × (Nat → Nat) × (Nat → Nat) × (Nat → Nat) × (Nat → Nat) × ZS) : PbC KX3_isFaulty [] [] (fun As σ => Pz_isFaulty y As σ ∧ cnC σ ≤ 1000000 ∧ ∃ w τ, uqC quL 52 As σ w τ) (Qz_isFaulty y) := by sorry
theorem wz_isFaulty : ∀ (L : Nat) (As : List AvC) (σ : CsC) (w : Option AvC) (τ : CsC), EvF L 52 As σ w τ → Uz_isFaulty As σ w τ := by sorry
abbrev Pz_isHeld : ((Int → Int) × (Nat → Nat) × (Nat → Nat) × (Nat → Nat) × (Nat → Nat) × ZS) → CpC := fun y As σ => match y with
  | (N, E, A, B, V, z) => ∃ (p0 : Nat) (p1 : Int32), As = [.inr (.inr (some p0)), .inl p1]
abbrev Qz_isHeld : ((Int → Int) × (Nat → Nat) × (Nat → Nat) × (Nat → Nat) × (Nat → Nat) × ZS) → CqC := fun y As σ w τ => match y, As with
  | (N, E, A, B, V, z), [.inr (.inr (some p0)), .inl p1] => ∃ r, w = some (.inl r) ∧ ((r.toInt = 1 ∧ (hlT (tvC σ p0) p1.toInt = true)) ∨ (r.toInt = 0 ∧ ¬ (hlT (tvC σ p0) p1.toInt = true))) ∧ σ = τ
  | _, _ => True
abbrev Uz_isHeld : CqC := fun As σ w τ => ∀ y, Pz_isHeld y As σ → Qz_isHeld y As σ w τ
set_option maxHeartbeats 4000000 in
theorem pz_isHeld (y : (Int → Int) × (Nat → Nat) × (Nat → Nat) × (Nat → Nat) × (Nat → Nat) × ZS) : PbC KX3_isHeld [(228, TrP, EqC 228)] [(228, Uz_narrowed)] (fun As σ => Pz_isHeld y As σ ∧ cnC σ ≤ 1000000 ∧ ∃ w τ, uqC quL 74 As σ w τ) (Qz_isHeld y) := by sorry
theorem wz_isHeld : ∀ (L : Nat) (As : List AvC) (σ : CsC) (w : Option AvC) (τ : CsC), EvF L 74 As σ w τ → Uz_isHeld As σ w τ := by sorry
abbrev Pz_fits : ((Int → Int) × (Nat → Nat) × (Nat → Nat) × (Nat → Nat) × (Nat → Nat) × ZS) → CpC := fun y As σ => match y with
  | (N, E, A, B, V, z) => ∃ (p0 : Nat) (p1 : Int32), As = [.inr (.inr (some p0)), .inl p1]
abbrev Qz_fits : ((Int → Int) × (Nat → Nat) × (Nat → Nat) × (Nat → Nat) × (Nat → Nat) × ZS) → CqC := fun y As σ w τ => match y, As with
  | (N, E, A, B, V, z), [.inr (.inr (some p0)), .inl p1] => ∃ r, w = some (.inl r) ∧ ((r.toInt = 1 ∧ (ftT (tvC σ p0) p1.toInt)) ∨ (r.toInt = 0 ∧ ¬ (ftT (tvC σ p0) p1.toInt))) ∧ σ = τ
  | _, _ => True
abbrev Uz_fits : CqC := fun As σ w τ => ∀ y, Pz_fits y As σ → Qz_fits y As σ w τ
set_option maxHeartbeats 4000000 in
theorem pz_fits (y : (Int → Int) × (Nat → Nat) × (Nat → Nat) × (Nat → Nat) × (Nat → Nat) × ZS) : PbC KX3_fits [(224, TrP, EqC 224), (73, TrP, EqC 73), (74, TrP, EqC 74)] [(224, Uz_sameOrWidens), (73, Uz_isSmall), (74, Uz_isHeld)] (fun As σ => Pz_fits y As σ ∧ cnC σ ≤ 1000000 ∧ ∃ w τ, uqC quL 75 As σ w τ) (Qz_fits y) := by sorry
theorem wz_fits : ∀ (L : Nat) (As : List AvC) (σ : CsC) (w : Option AvC) (τ : CsC), EvF L 75 As σ w τ → Uz_fits As σ w τ := by sorry
abbrev Pz_choiceType : ((Int → Int) × (Nat → Nat) × (Nat → Nat) × (Nat → Nat) × (Nat → Nat) × ZS) → CpC := fun y As σ => match y with
  | (N, E, A, B, V, z) => ∃ (p0 : Nat) (p1 : Nat), As = [.inr (.inr (some p0)), .inr (.inr (some p1))]
abbrev Qz_choiceType : ((Int → Int) × (Nat → Nat) × (Nat → Nat) × (Nat → Nat) × (Nat → Nat) × ZS) → CqC := fun y As σ w τ => match y, As with
  | (N, E, A, B, V, z), [.inr (.inr (some p0)), .inr (.inr (some p1))] => ∃ r, w = some (.inl r) ∧ r.toInt = ctT (tvC σ p0) (tvC σ p1) ∧ σ = τ
  | _, _ => True
abbrev Uz_choiceType : CqC := fun As σ w τ => ∀ y, Pz_choiceType y As σ → Qz_choiceType y As σ w τ
set_option maxHeartbeats 4000000 in
theorem pz_choiceType (y : (Int → Int) × (Nat → Nat) × (Nat → Nat) × (Nat → Nat) × (Nat → Nat) × ZS) : PbC KX3_choiceType [(73, TrP, EqC 73), (74, TrP, EqC 74)] [(73, Uz_isSmall), (74, Uz_isHeld)] (fun As σ => Pz_choiceType y As σ ∧ cnC σ ≤ 1000000 ∧ ∃ w τ, uqC quL 72 As σ w τ) (Qz_choiceType y) := by sorry
theorem wz_choiceType : ∀ (L : Nat) (As : List AvC) (σ : CsC) (w : Option AvC) (τ : CsC), EvF L 72 As σ w τ → Uz_choiceType As σ w τ := by sorry
abbrev Pz_workedChain : ((Int → Int) × (Nat → Nat) × (Nat → Nat) × (Nat → Nat) × (Nat → Nat) × ZS) → CpC := fun y As σ => match y with
  | (N, E, A, B, V, z) => ∃ (p0 : Nat) (p1 : Int64) (p2 : Int64), As = [.inr (.inr (some p0)), .inr (.inl p1), .inr (.inl p2)]
abbrev Qz_workedChain : ((Int → Int) × (Nat → Nat) × (Nat → Nat) × (Nat → Nat) × (Nat → Nat) × ZS) → CqC := fun y As σ w τ => match y, As with
  | (N, E, A, B, V, z), [.inr (.inr (some p0)), .inr (.inl p1), .inr (.inl p2)] => ∃ r, w = some (.inr (.inl r)) ∧ r = cvT (fIC σ p0 61).toInt (fIC σ p0 69).toInt p1 p2 ∧ σ = τ
  | _, _ => True
abbrev Uz_workedChain : CqC := fun As σ w τ => ∀ y, Pz_workedChain y As σ → Qz_workedChain y As σ w τ
set_option maxHeartbeats 4000000 in
theorem pz_workedChain (y : (Int → Int) × (Nat → Nat) × (Nat → Nat) × (Nat → Nat) × (Nat → Nat) × ZS) : PbC KX3_workedChain [(229, TrP, EqC 229)] [(229, Uz_worked)] (fun As σ => Pz_workedChain y As σ ∧ cnC σ ≤ 1000000 ∧ ∃ w τ, uqC quL 70 As σ w τ) (Qz_workedChain y) := by sorry
theorem wz_workedChain : ∀ (L : Nat) (As : List AvC) (σ : CsC) (w : Option AvC) (τ : CsC), EvF L 70 As σ w τ → Uz_workedChain As σ w τ := by sorry
/-! the class's judge: exps -/
theorem and01 {x y : Int32} {a b : Int} (hx : x.toInt = a) (hy : y.toInt = b) (ha : a = 0 ∨ a = 1) (hb : b = 0 ∨ b = 1) : (x &&& y).toInt = if a = 1 ∧ b = 1 then 1 else 0 := by sorry
theorem and00 {x y : Int32} (hx : x.toInt = 0) : (x &&& y).toInt = 0 := by sorry
/-- fields of one object alone have changed, and of them those in M -/
def XuC (M : List Nat) (σ τ : CsC) (o : Nat) : Prop := (∀ a k, (M.elem k = false ∨ a ≠ o) → fIC τ a k = fIC σ a k ∧ fLC τ a k = fLC σ a k ∧ fRC τ a k = fRC σ a k) ∧ (eIC τ = eIC σ ∧ eLC τ = eLC σ ∧ eRC τ = eRC σ) ∧ cnC τ = cnC σ
theorem XuC.rf {M : List Nat} {σ : CsC} {o : Nat} : XuC M σ σ o := ⟨fun _ _ _ => ⟨rfl, rfl, rfl⟩, ⟨rfl, rfl, rfl⟩, rfl⟩
theorem XuC.pI {M : List Nat} {σ τ υ : CsC} {o k : Nat} {v : Int32} (h : XuC M σ τ o) (hk : M.elem k = true) (e : pIC τ o k v = υ) : XuC M σ υ o := by sorry
theorem XuC.pL {M : List Nat} {σ τ υ : CsC} {o k : Nat} {v : Int64} (h : XuC M σ τ o) (hk : M.elem k = true) (e : pLC τ o k v = υ) : XuC M σ υ o := by sorry
theorem pI_g {τ υ : CsC} {o k : Nat} {v : Int32} (e : pIC τ o k v = υ) : fIC υ o k = v := by sorry
theorem pL_g {τ υ : CsC} {o k : Nat} {v : Int64} (e : pLC τ o k v = υ) : fLC υ o k = v := by sorry
theorem pI_o {τ υ : CsC} {o k j : Nat} {v : Int32} (e : pIC τ o k v = υ) (h : j ≠ k) : fIC υ o j = fIC τ o j := by sorry
theorem pI_ol {τ υ : CsC} {o k j : Nat} {v : Int32} (e : pIC τ o k v = υ) : fLC υ o j = fLC τ o j := by sorry
theorem pL_oi {τ υ : CsC} {o k j : Nat} {v : Int64} (e : pLC τ o k v = υ) : fIC υ o j = fIC τ o j := by sorry
theorem pL_ol {τ υ : CsC} {o k j : Nat} {v : Int64} (e : pLC τ o k v = υ) (h : j ≠ k) : fLC υ o j = fLC τ o j := by sorry
/-- an ERROR is told -/
abbrev erC (E : Nat → Nat) (σ : CsC) : Prop := ¬ fIC σ (E 1) 217 = 0
theorem er_pI {E : Nat → Nat} {τ υ : CsC} {o k : Nat} {v : Int32} (e : pIC τ o k v = υ) (hk : 217 ≠ k) (h : erC E τ) : erC E υ := by sorry
theorem er_pL {E : Nat → Nat} {τ υ : CsC} {o k : Nat} {v : Int64} (e : pLC τ o k v = υ) (h : erC E τ) : erC E υ := by sorry
theorem XuC.er {M : List Nat} {E : Nat → Nat} {σ τ : CsC} {o : Nat} (h : XuC M σ τ o) (hM : M.elem 217 = false) (q : fIC σ (E 1) 217 = 0) : fIC τ (E 1) 217 = 0 := ((h.1 (E 1) 217 (Or.inl hM)).1).trans q
/-- an exp's object: what was read of it, but its operands -/
def XqC (σ : CsC) (x : XrZ) (o : Nat) : Prop := ((fIC σ o 60).toInt = x.1.1 ∧ (fIC σ o 61).toInt = x.1.2.1 ∧ (fIC σ o 62).toInt = x.1.2.2.1) ∧ (¬ x.1.1 = 10 → (fIC σ o 67).toInt = x.2.1.2.1) ∧ (x.1.1 = 5 → (fIC σ o 69).toInt = x.2.1.2.2)
/-- variables -/
def VpC (E V : Nat → Nat) (σ : CsC) (C : CxT) : Prop := (fRC σ (E 3) 121 = some (E 1) ∧ fRC σ (E 1) 212 = some (E 212)) ∧ LiC σ (E 212) C.2.2.1 V ∧ ∀ v, v < C.2.2.1 → (fIC σ (V v) 331).toInt = (C.2.1 v).1 ∧ (fIC σ (V v) 332).toInt = (C.2.1 v).2
/-- what an exp has become -/
def TwC (τ : CsC) (o : Nat) (r : TvT) : Prop := (fIC τ o 68).toInt = r.1 ∧ (fIC τ o 70).toInt = r.2.1 ∧ fLC τ o 71 = r.2.2.1
/-- where the judge finds its program -/
def PjC (E : Nat → Nat) (σ : CsC) : Prop := fRC σ (E 3) 121 = some (E 1) ∧ E 1 < cnC σ ∧ E 3 < cnC σ
theorem PjC.fr {E : Nat → Nat} {M : List Nat} {σ τ : CsC} (h : PjC E σ) (f : FrE M σ τ) (h1 : M.elem 999 = false) (h2 : M.elem 121 = false) : PjC E τ := by sorry
theorem PjC.xu {E : Nat → Nat} {M : List Nat} {σ τ : CsC} {o : Nat} (h : PjC E σ) (x : XuC M σ τ o) (h2 : M.elem 121 = false) : PjC E τ := by sorry
theorem PjC.pI {E : Nat → Nat} {τ υ : CsC} {o k : Nat} {v : Int32} (h : PjC E τ) (e : pIC τ o k v = υ) : PjC E υ := by sorry
theorem PjC.pL {E : Nat → Nat} {τ υ : CsC} {o k : Nat} {v : Int64} (h : PjC E τ) (e : pLC τ o k v = υ) : PjC E υ := by sorry
theorem TwC.cg {σ τ : CsC} {o : Nat} {r : TvT} (h : TwC σ o r) (f : ∀ k, fIC τ o k = fIC σ o k ∧ fLC τ o k = fLC σ o k) : TwC τ o r := by sorry
/-- what judging an exp does: M: the fields that it writes -/
def JqC (E : Nat → Nat) (M : List Nat) (σ τ : CsC) (o : Nat) (q : Option TvT) (W : TvT → Prop) : Prop := (q = none ∧ erC E τ) ∨ ∃ r, q = some r ∧ fIC τ (E 1) 217 = 0 ∧ XuC M σ τ o ∧ TwC τ o r ∧ W r
theorem JqC.we {E : Nat → Nat} {M : List Nat} {σ τ υ : CsC} {o : Nat} {q : Option TvT} {W : TvT → Prop} (e : WeC τ υ) (h : JqC E M σ τ o q W) : JqC E M σ υ o q W := by sorry
abbrev Pz_tell : ((Int → Int) × (Nat → Nat) × (Nat → Nat) × (Nat → Nat) × (Nat → Nat) × ZS) → CpC := fun y As σ => match y with
  | (N, E, A, B, V, z) => ∃ (p1 : Int32) (p2 : Int32), As = [.inr (.inr (some (E 1))), .inl p1, .inl p2] ∧ (¬ p1.toInt = 0)
abbrev Qz_tell : ((Int → Int) × (Nat → Nat) × (Nat → Nat) × (Nat → Nat) × (Nat → Nat) × ZS) → CqC := fun y As σ w τ => match y, As with
  | (N, E, A, B, V, z), [_, .inl p1, .inl p2] => w = none ∧ erC E τ
  | _, _ => True
abbrev Uz_tell : CqC := fun As σ w τ => ∀ y, Pz_tell y As σ → Qz_tell y As σ w τ
set_option maxHeartbeats 4000000 in
theorem pz_tell (y : (Int → Int) × (Nat → Nat) × (Nat → Nat) × (Nat → Nat) × (Nat → Nat) × ZS) : PbC KX6_tell [] [] (fun As σ => Pz_tell y As σ ∧ cnC σ ≤ 1000000 ∧ ∃ w τ, uqC quL 118 As σ w τ) (Qz_tell y) := by sorry
theorem wz_tell : ∀ (L : Nat) (As : List AvC) (σ : CsC) (w : Option AvC) (τ : CsC), EvF L 118 As σ w τ → Uz_tell As σ w τ := by sorry
abbrev Pz_isWanted : ((Int → Int) × (Nat → Nat) × (Nat → Nat) × (Nat → Nat) × (Nat → Nat) × ZS) → CpC := fun y As σ => match y with
  | (N, E, A, B, V, z) => ∃ (p1 : Int32) (p2 : Int32), As = [.inr (.inr (some (E 3))), .inl p1, .inl p2] ∧ (PjC E σ)
abbrev Qz_isWanted : ((Int → Int) × (Nat → Nat) × (Nat → Nat) × (Nat → Nat) × (Nat → Nat) × ZS) → CqC := fun y As σ w τ => match y, As with
  | (N, E, A, B, V, z), [_, .inl p1, .inl p2] => w = some (.inl p1) ∧ ((¬ p1.toInt = 0 ∧ σ = τ) ∨ (p1.toInt = 0 ∧ erC E τ))
  | _, _ => True
abbrev Uz_isWanted : CqC := fun As σ w τ => ∀ y, Pz_isWanted y As σ → Qz_isWanted y As σ w τ
set_option maxHeartbeats 4000000 in
theorem pz_isWanted (y : (Int → Int) × (Nat → Nat) × (Nat → Nat) × (Nat → Nat) × (Nat → Nat) × ZS) : PbC KX3_isWanted [(118, TrP, EqC 118)] [(118, Uz_tell)] (fun As σ => Pz_isWanted y As σ ∧ cnC σ ≤ 1000000 ∧ ∃ w τ, uqC quL 62 As σ w τ) (Qz_isWanted y) := by sorry
theorem wz_isWanted : ∀ (L : Nat) (As : List AvC) (σ : CsC) (w : Option AvC) (τ : CsC), EvF L 62 As σ w τ → Uz_isWanted As σ w τ := by sorry
abbrev Pz_variableOf : ((Int → Int) × (Nat → Nat) × (Nat → Nat) × (Nat → Nat) × (Nat → Nat) × ZS × CxT × Int) → CpC := fun y As σ => match y with
  | (N, E, A, B, V, z, C, l) => ∃ (p1 : Nat), As = [.inr (.inr (some (E 3))), .inr (.inr (some p1))] ∧ (VpC E V σ C) ∧ ((fIC σ p1 67).toInt = l)
abbrev Qz_variableOf : ((Int → Int) × (Nat → Nat) × (Nat → Nat) × (Nat → Nat) × (Nat → Nat) × ZS × CxT × Int) → CqC := fun y As σ w τ => match y, As with
  | (N, E, A, B, V, z, C, l), [_, .inr (.inr (some p1))] => σ = τ ∧ ((knT C l ∧ w = some (.inr (.inr (some (V l.toNat))))) ∨ (¬ knT C l ∧ w = some (.inr (.inr none))))
  | _, _ => True
abbrev Uz_variableOf : CqC := fun As σ w τ => ∀ y, Pz_variableOf y As σ → Qz_variableOf y As σ w τ
set_option maxHeartbeats 4000000 in
theorem pz_variableOf (y : (Int → Int) × (Nat → Nat) × (Nat → Nat) × (Nat → Nat) × (Nat → Nat) × ZS × CxT × Int) : PbC KX3_variableOf [(234, TrP, EqC 234), (235, TrP, EqC 235)] [] (fun As σ => Pz_variableOf y As σ ∧ cnC σ ≤ 1000000 ∧ ∃ w τ, uqC quL 51 As σ w τ) (Qz_variableOf y) := by sorry
theorem wz_variableOf : ∀ (L : Nat) (As : List AvC) (σ : CsC) (w : Option AvC) (τ : CsC), EvF L 51 As σ w τ → Uz_variableOf As σ w τ := by sorry
abbrev Pz_mayChange : ((Int → Int) × (Nat → Nat) × (Nat → Nat) × (Nat → Nat) × (Nat → Nat) × ZS) → CpC := fun y As σ => match y with
  | (N, E, A, B, V, z) => ∃ (p1 : Nat) (p2 : Option Nat), As = [.inr (.inr (some (E 3))), .inr (.inr (some p1)), .inr (.inr p2)] ∧ (PjC E σ) ∧ (∀ o, p2 = some o → o < cnC σ)
abbrev Qz_mayChange : ((Int → Int) × (Nat → Nat) × (Nat → Nat) × (Nat → Nat) × (Nat → Nat) × ZS) → CqC := fun y As σ w τ => match y, As with
  | (N, E, A, B, V, z), [_, .inr (.inr (some p1)), .inr (.inr p2)] => ∃ r, w = some (.inl r) ∧ ((r.toInt = 1 ∧ (∃ o, p2 = some o ∧ (fIC σ o 332).toInt = 0) ∧ σ = τ) ∨ (r.toInt = 0 ∧ (∀ o, p2 = some o → ¬ (fIC σ o 332).toInt = 0) ∧ erC E τ))
  | _, _ => True
abbrev Uz_mayChange : CqC := fun As σ w τ => ∀ y, Pz_mayChange y As σ → Qz_mayChange y As σ w τ
set_option maxHeartbeats 4000000 in
theorem pz_mayChange (y : (Int → Int) × (Nat → Nat) × (Nat → Nat) × (Nat → Nat) × (Nat → Nat) × ZS) : PbC KX3_mayChange [(118, TrP, EqC 118)] [(118, Uz_tell)] (fun As σ => Pz_mayChange y As σ ∧ cnC σ ≤ 1000000 ∧ ∃ w τ, uqC quL 59 As σ w τ) (Qz_mayChange y) := by sorry
theorem wz_mayChange : ∀ (L : Nat) (As : List AvC) (σ : CsC) (w : Option AvC) (τ : CsC), EvF L 59 As σ w τ → Uz_mayChange As σ w τ := by sorry
abbrev Pz_areTaken : ((Int → Int) × (Nat → Nat) × (Nat → Nat) × (Nat → Nat) × (Nat → Nat) × ZS) → CpC := fun y As σ => match y with
  | (N, E, A, B, V, z) => ∃ (p1 : Nat) (p2 : Int32) (p3 : Nat), As = [.inr (.inr (some (E 3))), .inr (.inr (some p1)), .inl p2, .inr (.inr (some p3))] ∧ (PjC E σ)
abbrev Qz_areTaken : ((Int → Int) × (Nat → Nat) × (Nat → Nat) × (Nat → Nat) × (Nat → Nat) × ZS) → CqC := fun y As σ w τ => match y, As with
  | (N, E, A, B, V, z), [_, .inr (.inr (some p1)), .inl p2, .inr (.inr (some p3))] => ∃ r, w = some (.inl r) ∧ (¬ (fIC σ p3 68).toInt = -1 → (r.toInt = 1 ∧ (ltT (fIC σ p1 61).toInt p2.toInt ∧ rtT p2.toInt (fIC σ p3 68).toInt) ∧ σ = τ) ∨ (r.toInt = 0 ∧ ¬ (ltT (fIC σ p1 61).toInt p2.toInt ∧ rtT p2.toInt (fIC σ p3 68).toInt) ∧ erC E τ))
  | _, _ => True
abbrev Uz_areTaken : CqC := fun As σ w τ => ∀ y, Pz_areTaken y As σ → Qz_areTaken y As σ w τ
set_option maxHeartbeats 4000000 in
theorem pz_areTaken (y : (Int → Int) × (Nat → Nat) × (Nat → Nat) × (Nat → Nat) × (Nat → Nat) × ZS) : PbC KX3_areTaken [(66, TrP, EqC 66), (62, TrP, EqC 62), (52, TrP, EqC 52), (67, TrP, EqC 67)] [(66, Uz_isLeftTaken), (62, Uz_isWanted), (52, Uz_isFaulty), (67, Uz_isRightTaken)] (fun As σ => Pz_areTaken y As σ ∧ cnC σ ≤ 1000000 ∧ ∃ w τ, uqC quL 63 As σ w τ) (Qz_areTaken y) := by sorry
theorem wz_areTaken : ∀ (L : Nat) (As : List AvC) (σ : CsC) (w : Option AvC) (τ : CsC), EvF L 63 As σ w τ → Uz_areTaken As σ w τ := by sorry
abbrev Pz_judgeNumber : ((Int → Int) × (Nat → Nat) × (Nat → Nat) × (Nat → Nat) × (Nat → Nat) × ZS × XrZ × TvT) → CpC := fun y As σ => match y with
  | (N, E, A, B, V, z, x, t) => ∃ (p1 : Nat), As = [.inr (.inr (some (E 3))), .inr (.inr (some p1))] ∧ (PjC E σ) ∧ (fIC σ (E 1) 217 = 0) ∧ (p1 < cnC σ) ∧ (XqC σ x p1) ∧ (TwC σ p1 t) ∧ (x.1.1 = 0) ∧ ((fIC σ p1 67).toInt = x.2.1.2.1)
abbrev Qz_judgeNumber : ((Int → Int) × (Nat → Nat) × (Nat → Nat) × (Nat → Nat) × (Nat → Nat) × ZS × XrZ × TvT) → CqC := fun y As σ w τ => match y, As with
  | (N, E, A, B, V, z, x, t), [_, .inr (.inr (some p1))] => w = none ∧ JqC E [68, 70, 71] σ τ p1 (x0T t x) (fun r => r.2.2.2 = t.2.2.2)
  | _, _ => True
abbrev Uz_judgeNumber : CqC := fun As σ w τ => ∀ y, Pz_judgeNumber y As σ → Qz_judgeNumber y As σ w τ
set_option maxHeartbeats 4000000 in
theorem pz_judgeNumber (y : (Int → Int) × (Nat → Nat) × (Nat → Nat) × (Nat → Nat) × (Nat → Nat) × ZS × XrZ × TvT) : PbC KX3_judgeNumber [(118, TrP, EqC 118), (228, TrP, EqC 228)] [(118, Uz_tell), (228, Uz_narrowed)] (fun As σ => Pz_judgeNumber y As σ ∧ cnC σ ≤ 1000000 ∧ ∃ w τ, uqC quL 54 As σ w τ) (Qz_judgeNumber y) := by sorry
theorem wz_judgeNumber : ∀ (L : Nat) (As : List AvC) (σ : CsC) (w : Option AvC) (τ : CsC), EvF L 54 As σ w τ → Uz_judgeNumber As σ w τ := by sorry
/-! the class's judge: exps, one by one -/
def o1T (a t : TvT) (x : XrZ) : Option TvT := if x.1.1 = 3 then x3T a t else if x.1.1 = 4 then x4T a t x else x5T a t x
abbrev Pz_judgeName : ((Int → Int) × (Nat → Nat) × (Nat → Nat) × (Nat → Nat) × (Nat → Nat) × ZS × CxT × (Nat → TvT) × (Nat → Int × Int64) × XrZ × TvT) → CpC := fun y As σ => match y with
  | (N, E, A, B, V, z, C, T1, T2, x, t) => ∃ (p1 : Nat), As = [.inr (.inr (some (E 3))), .inr (.inr (some p1))] ∧ (PjC E σ) ∧ (fIC σ (E 1) 217 = 0) ∧ (p1 < cnC σ) ∧ (XqC σ x p1) ∧ (TwC σ p1 t) ∧ (x.1.1 = 2) ∧ (VpC E V σ C) ∧ (∀ v, v < C.2.2.1 → (fIC σ (V v) 335).toInt = (T2 v).1 ∧ (¬ (T2 v).1 = 0 → fLC σ (V v) 336 = (T2 v).2))
abbrev Qz_judgeName : ((Int → Int) × (Nat → Nat) × (Nat → Nat) × (Nat → Nat) × (Nat → Nat) × ZS × CxT × (Nat → TvT) × (Nat → Int × Int64) × XrZ × TvT) → CqC := fun y As σ w τ => match y, As with
  | (N, E, A, B, V, z, C, T1, T2, x, t), [_, .inr (.inr (some p1))] => w = none ∧ JqC E [68, 70, 71] σ τ p1 (x2T C (T1, T2) t x) (fun r => r.2.2.2 = t.2.2.2)
  | _, _ => True
abbrev Uz_judgeName : CqC := fun As σ w τ => ∀ y, Pz_judgeName y As σ → Qz_judgeName y As σ w τ
set_option maxHeartbeats 4000000 in
theorem pz_judgeName (y : (Int → Int) × (Nat → Nat) × (Nat → Nat) × (Nat → Nat) × (Nat → Nat) × ZS × CxT × (Nat → TvT) × (Nat → Int × Int64) × XrZ × TvT) : PbC KX3_judgeName [(51, TrP, EqC 51), (118, TrP, EqC 118)] [(51, Uz_variableOf), (118, Uz_tell)] (fun As σ => Pz_judgeName y As σ ∧ cnC σ ≤ 1000000 ∧ ∃ w τ, uqC quL 55 As σ w τ) (Qz_judgeName y) := by sorry
theorem wz_judgeName : ∀ (L : Nat) (As : List AvC) (σ : CsC) (w : Option AvC) (τ : CsC), EvF L 55 As σ w τ → Uz_judgeName As σ w τ := by sorry
abbrev Pz_judgeOfOne : ((Int → Int) × (Nat → Nat) × (Nat → Nat) × (Nat → Nat) × (Nat → Nat) × ZS × XrZ × TvT × Nat × TvT) → CpC := fun y As σ => match y with
  | (N, E, A, B, V, z, x, t, a, ta) => ∃ (p1 : Nat), As = [.inr (.inr (some (E 3))), .inr (.inr (some p1))] ∧ (PjC E σ) ∧ (fIC σ (E 1) 217 = 0) ∧ (p1 < cnC σ) ∧ (XqC σ x p1) ∧ (TwC σ p1 t) ∧ (x.1.1 = 3 ∨ x.1.1 = 4 ∨ x.1.1 = 5) ∧ (fRC σ p1 72 = some a) ∧ (a ≠ p1) ∧ (TwC σ a ta) ∧ (¬ ta.1 = -1)
abbrev Qz_judgeOfOne : ((Int → Int) × (Nat → Nat) × (Nat → Nat) × (Nat → Nat) × (Nat → Nat) × ZS × XrZ × TvT × Nat × TvT) → CqC := fun y As σ w τ => match y, As with
  | (N, E, A, B, V, z, x, t, a, ta), [_, .inr (.inr (some p1))] => w = none ∧ JqC E [68, 70, 71] σ τ p1 (o1T ta t x) (fun r => r.2.2.2 = t.2.2.2)
  | _, _ => True
abbrev Uz_judgeOfOne : CqC := fun As σ w τ => ∀ y, Pz_judgeOfOne y As σ → Qz_judgeOfOne y As σ w τ
set_option maxHeartbeats 4000000 in
theorem pz_judgeOfOne (y : (Int → Int) × (Nat → Nat) × (Nat → Nat) × (Nat → Nat) × (Nat → Nat) × ZS × XrZ × TvT × Nat × TvT) : PbC KX3_judgeOfOne [(52, TrP, EqC 52), (228, TrP, EqC 228), (57, TrP, EqC 57), (58, TrP, EqC 58), (232, TrP, EqC 232), (118, TrP, EqC 118)] [(52, Uz_isFaulty), (228, Uz_narrowed), (57, Uz_isTakenAlone), (58, Uz_promoted), (232, Uz_workedAlone), (118, Uz_tell)] (fun As σ => Pz_judgeOfOne y As σ ∧ cnC σ ≤ 1000000 ∧ ∃ w τ, uqC quL 56 As σ w τ) (Qz_judgeOfOne y) := by sorry
theorem wz_judgeOfOne : ∀ (L : Nat) (As : List AvC) (σ : CsC) (w : Option AvC) (τ : CsC), EvF L 56 As σ w τ → Uz_judgeOfOne As σ w τ := by sorry
abbrev Pz_judgeCount : ((Int → Int) × (Nat → Nat) × (Nat → Nat) × (Nat → Nat) × (Nat → Nat) × ZS × CxT × XrZ × TvT) → CpC := fun y As σ => match y with
  | (N, E, A, B, V, z, C, x, t) => ∃ (p1 : Nat), As = [.inr (.inr (some (E 3))), .inr (.inr (some p1))] ∧ (PjC E σ) ∧ (fIC σ (E 1) 217 = 0) ∧ (p1 < cnC σ) ∧ (XqC σ x p1) ∧ (TwC σ p1 t) ∧ (x.1.1 = 6) ∧ (VpC E V σ C)
abbrev Qz_judgeCount : ((Int → Int) × (Nat → Nat) × (Nat → Nat) × (Nat → Nat) × (Nat → Nat) × ZS × CxT × XrZ × TvT) → CqC := fun y As σ w τ => match y, As with
  | (N, E, A, B, V, z, C, x, t), [_, .inr (.inr (some p1))] => w = none ∧ JqC E [68, 70, 71] σ τ p1 (x6T C t x) (fun r => r.2.2.2 = t.2.2.2)
  | _, _ => True
abbrev Uz_judgeCount : CqC := fun As σ w τ => ∀ y, Pz_judgeCount y As σ → Qz_judgeCount y As σ w τ
set_option maxHeartbeats 4000000 in
theorem pz_judgeCount (y : (Int → Int) × (Nat → Nat) × (Nat → Nat) × (Nat → Nat) × (Nat → Nat) × ZS × CxT × XrZ × TvT) : PbC KX3_judgeCount [(51, TrP, EqC 51), (59, TrP, EqC 59), (223, TrP, EqC 223), (118, TrP, EqC 118)] [(51, Uz_variableOf), (59, Uz_mayChange), (223, Uz_isNumber), (118, Uz_tell)] (fun As σ => Pz_judgeCount y As σ ∧ cnC σ ≤ 1000000 ∧ ∃ w τ, uqC quL 60 As σ w τ) (Qz_judgeCount y) := by sorry
theorem wz_judgeCount : ∀ (L : Nat) (As : List AvC) (σ : CsC) (w : Option AvC) (τ : CsC), EvF L 60 As σ w τ → Uz_judgeCount As σ w τ := by sorry
abbrev Pz_judgeAssignment : ((Int → Int) × (Nat → Nat) × (Nat → Nat) × (Nat → Nat) × (Nat → Nat) × ZS × CxT × XrZ × TvT × Nat × TvT) → CpC := fun y As σ => match y with
  | (N, E, A, B, V, z, C, x, t, b, tb) => ∃ (p1 : Nat), As = [.inr (.inr (some (E 3))), .inr (.inr (some p1))] ∧ (PjC E σ) ∧ (fIC σ (E 1) 217 = 0) ∧ (p1 < cnC σ) ∧ (XqC σ x p1) ∧ (TwC σ p1 t) ∧ (x.1.1 = 9) ∧ (VpC E V σ C) ∧ (fRC σ p1 73 = some b) ∧ (b ≠ p1) ∧ (TwC σ b tb) ∧ (¬ tb.1 = -1)
abbrev Qz_judgeAssignment : ((Int → Int) × (Nat → Nat) × (Nat → Nat) × (Nat → Nat) × (Nat → Nat) × ZS × CxT × XrZ × TvT × Nat × TvT) → CqC := fun y As σ w τ => match y, As with
  | (N, E, A, B, V, z, C, x, t, b, tb), [_, .inr (.inr (some p1))] => w = none ∧ JqC E [68, 69, 70, 71] σ τ p1 (x9T C tb t x) (fun r => (fIC τ p1 69).toInt = r.2.2.2)
  | _, _ => True
abbrev Uz_judgeAssignment : CqC := fun As σ w τ => ∀ y, Pz_judgeAssignment y As σ → Qz_judgeAssignment y As σ w τ
set_option maxHeartbeats 4000000 in
theorem pz_judgeAssignment (y : (Int → Int) × (Nat → Nat) × (Nat → Nat) × (Nat → Nat) × (Nat → Nat) × ZS × CxT × XrZ × TvT × Nat × TvT) : PbC KX3_judgeAssignment [(51, TrP, EqC 51), (59, TrP, EqC 59), (63, TrP, EqC 63), (52, TrP, EqC 52), (75, TrP, EqC 75), (62, TrP, EqC 62), (68, TrP, EqC 68)] [(51, Uz_variableOf), (59, Uz_mayChange), (63, Uz_areTaken), (52, Uz_isFaulty), (75, Uz_fits), (62, Uz_isWanted), (68, Uz_workType)] (fun As σ => Pz_judgeAssignment y As σ ∧ cnC σ ≤ 1000000 ∧ ∃ w τ, uqC quL 61 As σ w τ) (Qz_judgeAssignment y) := by sorry
theorem wz_judgeAssignment : ∀ (L : Nat) (As : List AvC) (σ : CsC) (w : Option AvC) (τ : CsC), EvF L 61 As σ w τ → Uz_judgeAssignment As σ w τ := by sorry
/-! the class's judge: chains, choices, stores -/
/-- a variable's exp goes into it -/
def JsC (E : Nat → Nat) (σ τ : CsC) (v : Nat) (q : Option TvT) (ct : Int × Int64) : Prop := (q = none ∧ erC E τ) ∨ ((∃ r, q = some r) ∧ fIC τ (E 1) 217 = 0 ∧ XuC [335, 336] σ τ v ∧ (fIC τ v 335).toInt = ct.1 ∧ fLC τ v 336 = ct.2)
theorem JsC.we {E : Nat → Nat} {σ τ υ : CsC} {v : Nat} {q : Option TvT} {ct : Int × Int64} (e : WeC τ υ) (h : JsC E σ τ v q ct) : JsC E σ υ v q ct := by sorry
abbrev Pz_judgeChain : ((Int → Int) × (Nat → Nat) × (Nat → Nat) × (Nat → Nat) × (Nat → Nat) × ZS × XrZ × TvT × Nat × TvT × Nat × TvT) → CpC := fun y As σ => match y with
  | (N, E, A, B, V, z, x, t, a, ta, b, tb) => ∃ (p1 : Nat), As = [.inr (.inr (some (E 3))), .inr (.inr (some p1))] ∧ (PjC E σ) ∧ (fIC σ (E 1) 217 = 0) ∧ (p1 < cnC σ) ∧ (XqC σ x p1) ∧ (TwC σ p1 t) ∧ (x.1.1 = 7) ∧ (fRC σ p1 72 = some a) ∧ (a ≠ p1) ∧ (TwC σ a ta) ∧ (¬ ta.1 = -1) ∧ (fRC σ p1 73 = some b) ∧ (b ≠ p1) ∧ (TwC σ b tb) ∧ (¬ tb.1 = -1)
abbrev Qz_judgeChain : ((Int → Int) × (Nat → Nat) × (Nat → Nat) × (Nat → Nat) × (Nat → Nat) × ZS × XrZ × TvT × Nat × TvT × Nat × TvT) → CqC := fun y As σ w τ => match y, As with
  | (N, E, A, B, V, z, x, t, a, ta, b, tb), [_, .inr (.inr (some p1))] => w = none ∧ JqC E [68, 69, 70, 71] σ τ p1 (x7T ta tb t x) (fun r => (fIC τ p1 69).toInt = r.2.2.2)
  | _, _ => True
abbrev Uz_judgeChain : CqC := fun As σ w τ => ∀ y, Pz_judgeChain y As σ → Qz_judgeChain y As σ w τ
set_option maxHeartbeats 4000000 in
theorem pz_judgeChain (y : (Int → Int) × (Nat → Nat) × (Nat → Nat) × (Nat → Nat) × (Nat → Nat) × ZS × XrZ × TvT × Nat × TvT × Nat × TvT) : PbC KX3_judgeChain [(52, TrP, EqC 52), (63, TrP, EqC 63), (68, TrP, EqC 68), (227, TrP, EqC 227), (70, TrP, EqC 70)] [(52, Uz_isFaulty), (63, Uz_areTaken), (68, Uz_workType), (227, Uz_isDivision), (70, Uz_workedChain)] (fun As σ => Pz_judgeChain y As σ ∧ cnC σ ≤ 1000000 ∧ ∃ w τ, uqC quL 69 As σ w τ) (Qz_judgeChain y) := by sorry
theorem wz_judgeChain : ∀ (L : Nat) (As : List AvC) (σ : CsC) (w : Option AvC) (τ : CsC), EvF L 69 As σ w τ → Uz_judgeChain As σ w τ := by sorry
abbrev Pz_judgeChoice : ((Int → Int) × (Nat → Nat) × (Nat → Nat) × (Nat → Nat) × (Nat → Nat) × ZS × XrZ × TvT × Nat × TvT × Nat × TvT × Nat × TvT) → CpC := fun y As σ => match y with
  | (N, E, A, B, V, z, x, t, a, ta, b, tb, c, tc) => ∃ (p1 : Nat), As = [.inr (.inr (some (E 3))), .inr (.inr (some p1))] ∧ (PjC E σ) ∧ (fIC σ (E 1) 217 = 0) ∧ (p1 < cnC σ) ∧ (XqC σ x p1) ∧ (TwC σ p1 t) ∧ (x.1.1 = 8) ∧ (fRC σ p1 72 = some a) ∧ (a ≠ p1) ∧ (TwC σ a ta) ∧ (¬ ta.1 = -1) ∧ (fRC σ p1 73 = some b) ∧ (b ≠ p1) ∧ (TwC σ b tb) ∧ (¬ tb.1 = -1) ∧ (fRC σ p1 74 = some c) ∧ (c ≠ p1) ∧ (TwC σ c tc) ∧ (¬ tc.1 = -1)
abbrev Qz_judgeChoice : ((Int → Int) × (Nat → Nat) × (Nat → Nat) × (Nat → Nat) × (Nat → Nat) × ZS × XrZ × TvT × Nat × TvT × Nat × TvT × Nat × TvT) → CqC := fun y As σ w τ => match y, As with
  | (N, E, A, B, V, z, x, t, a, ta, b, tb, c, tc), [_, .inr (.inr (some p1))] => w = none ∧ JqC E [68, 70, 71] σ τ p1 (x8T ta tb tc t) (fun r => r.2.2.2 = t.2.2.2)
  | _, _ => True
abbrev Uz_judgeChoice : CqC := fun As σ w τ => ∀ y, Pz_judgeChoice y As σ → Qz_judgeChoice y As σ w τ
set_option maxHeartbeats 4000000 in
theorem pz_judgeChoice (y : (Int → Int) × (Nat → Nat) × (Nat → Nat) × (Nat → Nat) × (Nat → Nat) × ZS × XrZ × TvT × Nat × TvT × Nat × TvT × Nat × TvT) : PbC KX3_judgeChoice [(52, TrP, EqC 52), (62, TrP, EqC 62), (67, TrP, EqC 67), (72, TrP, EqC 72)] [(52, Uz_isFaulty), (62, Uz_isWanted), (67, Uz_isRightTaken), (72, Uz_choiceType)] (fun As σ => Pz_judgeChoice y As σ ∧ cnC σ ≤ 1000000 ∧ ∃ w τ, uqC quL 71 As σ w τ) (Qz_judgeChoice y) := by sorry
theorem wz_judgeChoice : ∀ (L : Nat) (As : List AvC) (σ : CsC) (w : Option AvC) (τ : CsC), EvF L 71 As σ w τ → Uz_judgeChoice As σ w τ := by sorry
abbrev Pz_judgeStore : ((Int → Int) × (Nat → Nat) × (Nat → Nat) × (Nat → Nat) × (Nat → Nat) × ZS × CxT × XrZ × TvT × Nat × TvT) → CpC := fun y As σ => match y with
  | (N, E, A, B, V, z, C, x, t, a, ta) => ∃ (p1 : Nat), As = [.inr (.inr (some (E 3))), .inr (.inr (some p1))] ∧ (PjC E σ) ∧ (fIC σ (E 1) 217 = 0) ∧ (p1 < cnC σ) ∧ (XqC σ x p1) ∧ (TwC σ p1 t) ∧ (x.1.1 = 15) ∧ (VpC E V σ C) ∧ (knT C x.2.1.2.1) ∧ (fRC σ p1 72 = some a) ∧ (TwC σ a ta) ∧ (¬ ta.1 = -1)
abbrev Qz_judgeStore : ((Int → Int) × (Nat → Nat) × (Nat → Nat) × (Nat → Nat) × (Nat → Nat) × ZS × CxT × XrZ × TvT × Nat × TvT) → CqC := fun y As σ w τ => match y, As with
  | (N, E, A, B, V, z, C, x, t, a, ta), [_, .inr (.inr (some p1))] => w = none ∧ JsC E σ τ (V x.2.1.2.1.toNat) (xsT C ta t x) ((if ¬ (vtT C x.2.1.2.1).2 = 0 ∧ ¬ ta.2.1 = 0 then (1 : Int) else 0), ta.2.2.1)
  | _, _ => True
abbrev Uz_judgeStore : CqC := fun As σ w τ => ∀ y, Pz_judgeStore y As σ → Qz_judgeStore y As σ w τ
set_option maxHeartbeats 4000000 in
theorem pz_judgeStore (y : (Int → Int) × (Nat → Nat) × (Nat → Nat) × (Nat → Nat) × (Nat → Nat) × ZS × CxT × XrZ × TvT × Nat × TvT) : PbC KX3_judgeStore [(51, TrP, EqC 51), (52, TrP, EqC 52), (75, TrP, EqC 75), (62, TrP, EqC 62)] [(51, Uz_variableOf), (52, Uz_isFaulty), (75, Uz_fits), (62, Uz_isWanted)] (fun As σ => Pz_judgeStore y As σ ∧ cnC σ ≤ 1000000 ∧ ∃ w τ, uqC quL 79 As σ w τ) (Qz_judgeStore y) := by sorry
theorem wz_judgeStore : ∀ (L : Nat) (As : List AvC) (σ : CsC) (w : Option AvC) (τ : CsC), EvF L 79 As σ w τ → Uz_judgeStore As σ w τ := by sorry
/-! the class's judge: methods, calls -/
/-- the object of a method by its number -/
def MoE (E : Nat → Nat) (i : Nat) : Nat := if i = 10 then E 215 else if i = 11 then E 216 else E (1000 + i)
/-- a method's object -/
def MkC (σ : CsC) (m : MtT) (o : Nat) : Prop := (fLC σ o 181).toInt = m.1 ∧ (fIC σ o 182).toInt = m.2.1 ∧ (fIC σ o 185).toInt = (m.2.2.length : Int) ∧ ∃ r, (fRC σ o 183 = some r ∧ r < cnC σ ∧ m.2.2.length ≤ 6) ∧ ∀ i, i < m.2.2.length → (eIC σ r i).toInt = m.2.2.getD i 0
/-- all of them; n: how many are told -/
def MaC (E : Nat → Nat) (σ : CsC) (ms : MfT) (n : Nat) : Prop := (fRC σ (E 1) 211 = some (E 211) ∧ fRC σ (E 1) 215 = some (E 215) ∧ fRC σ (E 1) 216 = some (E 216)) ∧ LiC σ (E 211) n (fun k => E (1000 + k)) ∧ n ≤ 10 ∧ (∀ i m, ms i = some m → (i < n ∨ i = 10 ∨ i = 11) ∧ MkC σ m (MoE E i)) ∧ ∀ i, ms i = none → ¬ (i < n ∨ i = 10 ∨ i = 11)
/-- arguments, one behind the other, from one that may be none -/
def ArC (σ : CsC) : Option Nat → List Nat → Prop
  | o, [] => o = none
  | o, a :: l => o = some a ∧ ArC σ (fRC σ a 75) l
def agO (σ : CsC) (as : List Nat) : List Int := as.map (fun o => (fIC σ o 68).toInt)
theorem ArC.n {σ : CsC} {as : List Nat} (h : ArC σ none as) : as = [] := by sorry
theorem ArC.s {σ : CsC} {b : Nat} {as : List Nat} (h : ArC σ (some b) as) : ∃ l, as = b :: l ∧ ArC σ (fRC σ b 75) l := by sorry
theorem tk_len : ∀ {a b : List Int}, tkT a b = true → a.length = b.length := by sorry
theorem tk_c {x y : Int} {a b : List Int} : tkT (x :: a) (y :: b) = true ↔ wdT x y ∧ tkT a b = true := by sorry
/-- one step of a loop over both -/
theorem tk_s {a b : List Int} {i : Nat} (ha : i < a.length) (hb : i < b.length) : tkT (a.drop i) (b.drop i) = true ↔ wdT (a.getD i 0) (b.getD i 0) ∧ tkT (a.drop (i + 1)) (b.drop (i + 1)) = true := by sorry
theorem tk_e {a b : List Int} {i : Nat} (ha : a.length ≤ i) (hb : b.length ≤ i) : tkT (a.drop i) (b.drop i) = true := by sorry
theorem ta_s {ms : MfT} {key : Int} {as : List Int} {i : Nat} {m : MtT} (h : ms i = some m) : taT ms key as i = true ↔ m.1 = key ∧ tkT as m.2.2 = true := by sorry
theorem ta_n {ms : MfT} {key : Int} {as : List Int} {i : Nat} (h : ms i = none) : ¬ taT ms key as i = true := by sorry
theorem na_s {ms : MfT} {key : Int} {as ps : List Int} {k : Nat} : naT ms key as ps (k + 1) = true ↔ naT ms key as ps k = true ∧ ∀ n, ms k = some n → taT ms key as k = true → tkT ps n.2.2 = true := by sorry
theorem na_no {ms : MfT} {key : Int} {as ps : List Int} {k : Nat} (h : ¬ naT ms key as ps k = true) : ∀ j, k ≤ j → ¬ naT ms key as ps j = true := by sorry
theorem aO_c {σ : CsC} {b : Nat} {l : List Nat} : agO σ (b :: l) = (fIC σ b 68).toInt :: agO σ l := rfl
theorem aO_l {σ : CsC} {as : List Nat} : (agO σ as).length = as.length := List.length_map _
theorem rem12 {x : Int32} (h1 : 10 ≤ x.toInt) (h2 : x.toInt ≤ 21) : (x - x / Int32.ofInt 12 * Int32.ofInt 12).toInt = x.toInt % 12 := by sorry
theorem dr_c {l : List Int} {i : Nat} (h : i < l.length) : l.drop i = l.getD i 0 :: l.drop (i + 1) := by sorry
theorem dr_0 (l : List Int) : l.drop 0 = l := rfl
theorem MkC.xu {M : List Nat} {σ τ : CsC} {p o : Nat} {m : MtT} (h : MkC σ m o) (x : XuC M σ τ p) (hM : [181, 182, 183, 185].all (fun k => !M.elem k) = true) : MkC τ m o := by sorry
theorem MaC.xu {E : Nat → Nat} {M : List Nat} {σ τ : CsC} {p : Nat} {ms : MfT} {n : Nat} (h : MaC E σ ms n) (x : XuC M σ τ p) (hM : [1, 2, 181, 182, 183, 185, 211, 215, 216].all (fun k => !M.elem k) = true) : MaC E τ ms n := by sorry
abbrev Pz_mtakes : ((Int → Int) × (Nat → Nat) × (Nat → Nat) × (Nat → Nat) × (Nat → Nat) × ZS × MtT × List Nat) → CpC := fun y As σ => match y with
  | (N, E, A, B, V, z, m, as) => ∃ (p0 : Nat) (p1 : Int64) (p2 : Int32) (p3 : Option Nat), As = [.inr (.inr (some p0)), .inr (.inl p1), .inl p2, .inr (.inr p3)] ∧ (MkC σ m p0) ∧ (ArC σ p3 as) ∧ (p2.toInt = (as.length : Int))
abbrev Qz_mtakes : ((Int → Int) × (Nat → Nat) × (Nat → Nat) × (Nat → Nat) × (Nat → Nat) × ZS × MtT × List Nat) → CqC := fun y As σ w τ => match y, As with
  | (N, E, A, B, V, z, m, as), [.inr (.inr (some p0)), .inr (.inl p1), .inl p2, .inr (.inr p3)] => ∃ r, w = some (.inl r) ∧ ((r.toInt = 1 ∧ (m.1 = p1.toInt ∧ tkT (agO σ as) m.2.2 = true)) ∨ (r.toInt = 0 ∧ ¬ (m.1 = p1.toInt ∧ tkT (agO σ as) m.2.2 = true))) ∧ σ = τ
  | _, _ => True
abbrev Uz_mtakes : CqC := fun As σ w τ => ∀ y, Pz_mtakes y As σ → Qz_mtakes y As σ w τ
set_option maxHeartbeats 4000000 in
theorem pz_mtakes (y : (Int → Int) × (Nat → Nat) × (Nat → Nat) × (Nat → Nat) × (Nat → Nat) × ZS × MtT × List Nat) : PbC KX5_takes [(224, TrP, EqC 224)] [(224, Uz_sameOrWidens)] (fun As σ => Pz_mtakes y As σ ∧ cnC σ ≤ 1000000 ∧ ∃ w τ, uqC quL 115 As σ w τ) (Qz_mtakes y) := by sorry
theorem wz_mtakes : ∀ (L : Nat) (As : List AvC) (σ : CsC) (w : Option AvC) (τ : CsC), EvF L 115 As σ w τ → Uz_mtakes As σ w τ := by sorry
abbrev Pz_isAsNarrowAs : ((Int → Int) × (Nat → Nat) × (Nat → Nat) × (Nat → Nat) × (Nat → Nat) × ZS × MtT × MtT) → CpC := fun y As σ => match y with
  | (N, E, A, B, V, z, m, k) => ∃ (p0 : Nat) (p1 : Nat), As = [.inr (.inr (some p0)), .inr (.inr (some p1))] ∧ (MkC σ m p0) ∧ (MkC σ k p1) ∧ (m.2.2.length = k.2.2.length)
abbrev Qz_isAsNarrowAs : ((Int → Int) × (Nat → Nat) × (Nat → Nat) × (Nat → Nat) × (Nat → Nat) × ZS × MtT × MtT) → CqC := fun y As σ w τ => match y, As with
  | (N, E, A, B, V, z, m, k), [.inr (.inr (some p0)), .inr (.inr (some p1))] => ∃ r, w = some (.inl r) ∧ ((r.toInt = 1 ∧ (tkT m.2.2 k.2.2 = true)) ∨ (r.toInt = 0 ∧ ¬ (tkT m.2.2 k.2.2 = true))) ∧ σ = τ
  | _, _ => True
abbrev Uz_isAsNarrowAs : CqC := fun As σ w τ => ∀ y, Pz_isAsNarrowAs y As σ → Qz_isAsNarrowAs y As σ w τ
set_option maxHeartbeats 4000000 in
theorem pz_isAsNarrowAs (y : (Int → Int) × (Nat → Nat) × (Nat → Nat) × (Nat → Nat) × (Nat → Nat) × ZS × MtT × MtT) : PbC KX5_isAsNarrowAs [(224, TrP, EqC 224)] [(224, Uz_sameOrWidens)] (fun As σ => Pz_isAsNarrowAs y As σ ∧ cnC σ ≤ 1000000 ∧ ∃ w τ, uqC quL 114 As σ w τ) (Qz_isAsNarrowAs y) := by sorry
theorem wz_isAsNarrowAs : ∀ (L : Nat) (As : List AvC) (σ : CsC) (w : Option AvC) (τ : CsC), EvF L 114 As σ w τ → Uz_isAsNarrowAs As σ w τ := by sorry
abbrev Pz_hasSameParams : ((Int → Int) × (Nat → Nat) × (Nat → Nat) × (Nat → Nat) × (Nat → Nat) × ZS × MtT × MtT) → CpC := fun y As σ => match y with
  | (N, E, A, B, V, z, m, k) => ∃ (p0 : Nat) (p1 : Nat), As = [.inr (.inr (some p0)), .inr (.inr (some p1))] ∧ (MkC σ m p0) ∧ (MkC σ k p1)
abbrev Qz_hasSameParams : ((Int → Int) × (Nat → Nat) × (Nat → Nat) × (Nat → Nat) × (Nat → Nat) × ZS × MtT × MtT) → CqC := fun y As σ w τ => match y, As with
  | (N, E, A, B, V, z, m, k), [.inr (.inr (some p0)), .inr (.inr (some p1))] => ∃ r, w = some (.inl r) ∧ ((r.toInt = 1 ∧ (m.2.2 = k.2.2)) ∨ (r.toInt = 0 ∧ ¬ (m.2.2 = k.2.2))) ∧ σ = τ
  | _, _ => True
abbrev Uz_hasSameParams : CqC := fun As σ w τ => ∀ y, Pz_hasSameParams y As σ → Qz_hasSameParams y As σ w τ
set_option maxHeartbeats 4000000 in
theorem pz_hasSameParams (y : (Int → Int) × (Nat → Nat) × (Nat → Nat) × (Nat → Nat) × (Nat → Nat) × ZS × MtT × MtT) : PbC KX5_hasSameParams [] [] (fun As σ => Pz_hasSameParams y As σ ∧ cnC σ ≤ 1000000 ∧ ∃ w τ, uqC quL 113 As σ w τ) (Qz_hasSameParams y) := by sorry
theorem wz_hasSameParams : ∀ (L : Nat) (As : List AvC) (σ : CsC) (w : Option AvC) (τ : CsC), EvF L 113 As σ w τ → Uz_hasSameParams As σ w τ := by sorry
abbrev Pz_methodOf : ((Int → Int) × (Nat → Nat) × (Nat → Nat) × (Nat → Nat) × (Nat → Nat) × ZS × MfT × Nat) → CpC := fun y As σ => match y with
  | (N, E, A, B, V, z, ms, nm) => ∃ (p1 : Int32), As = [.inr (.inr (some (E 1))), .inl p1] ∧ (MaC E σ ms nm)
abbrev Qz_methodOf : ((Int → Int) × (Nat → Nat) × (Nat → Nat) × (Nat → Nat) × (Nat → Nat) × ZS × MfT × Nat) → CqC := fun y As σ w τ => match y, As with
  | (N, E, A, B, V, z, ms, nm), [_, .inl p1] => σ = τ ∧ ((∃ m, 0 ≤ p1.toInt ∧ ms p1.toInt.toNat = some m ∧ w = some (.inr (.inr (some (MoE E p1.toInt.toNat))))) ∨ ((0 ≤ p1.toInt → ms p1.toInt.toNat = none) ∧ w = some (.inr (.inr none))))
  | _, _ => True
abbrev Uz_methodOf : CqC := fun As σ w τ => ∀ y, Pz_methodOf y As σ → Qz_methodOf y As σ w τ
set_option maxHeartbeats 4000000 in
theorem pz_methodOf (y : (Int → Int) × (Nat → Nat) × (Nat → Nat) × (Nat → Nat) × (Nat → Nat) × ZS × MfT × Nat) : PbC KX6_methodOf [(234, TrP, EqC 234), (235, TrP, EqC 235)] [] (fun As σ => Pz_methodOf y As σ ∧ cnC σ ≤ 1000000 ∧ ∃ w τ, uqC quL 119 As σ w τ) (Qz_methodOf y) := by sorry
theorem wz_methodOf : ∀ (L : Nat) (As : List AvC) (σ : CsC) (w : Option AvC) (τ : CsC), EvF L 119 As σ w τ → Uz_methodOf As σ w τ := by sorry
abbrev Pz_isNarrowest : ((Int → Int) × (Nat → Nat) × (Nat → Nat) × (Nat → Nat) × (Nat → Nat) × ZS × MfT × Nat × List Nat × MtT) → CpC := fun y As σ => match y with
  | (N, E, A, B, V, z, ms, nm, as, m) => ∃ (p1 : Nat) (p2 : Int64) (p3 : Int32) (p4 : Option Nat), As = [.inr (.inr (some (E 3))), .inr (.inr (some p1)), .inr (.inl p2), .inl p3, .inr (.inr p4)] ∧ (PjC E σ) ∧ (MaC E σ ms nm) ∧ (MkC σ m p1) ∧ (ArC σ p4 as) ∧ (p3.toInt = (as.length : Int)) ∧ (tkT (agO σ as) m.2.2 = true)
abbrev Qz_isNarrowest : ((Int → Int) × (Nat → Nat) × (Nat → Nat) × (Nat → Nat) × (Nat → Nat) × ZS × MfT × Nat × List Nat × MtT) → CqC := fun y As σ w τ => match y, As with
  | (N, E, A, B, V, z, ms, nm, as, m), [_, .inr (.inr (some p1)), .inr (.inl p2), .inl p3, .inr (.inr p4)] => ∃ r, w = some (.inl r) ∧ ((r.toInt = 1 ∧ (naT ms p2.toInt (agO σ as) m.2.2 12 = true)) ∨ (r.toInt = 0 ∧ ¬ (naT ms p2.toInt (agO σ as) m.2.2 12 = true))) ∧ σ = τ
  | _, _ => True
abbrev Uz_isNarrowest : CqC := fun As σ w τ => ∀ y, Pz_isNarrowest y As σ → Qz_isNarrowest y As σ w τ
set_option maxHeartbeats 4000000 in
theorem pz_isNarrowest (y : (Int → Int) × (Nat → Nat) × (Nat → Nat) × (Nat → Nat) × (Nat → Nat) × ZS × MfT × Nat × List Nat × MtT) : PbC KX3_isNarrowest [(119, TrP, EqC 119), (115, TrP, EqC 115), (114, TrP, EqC 114)] [(119, Uz_methodOf), (115, Uz_mtakes), (114, Uz_isAsNarrowAs)] (fun As σ => Pz_isNarrowest y As σ ∧ cnC σ ≤ 1000000 ∧ ∃ w τ, uqC quL 78 As σ w τ) (Qz_isNarrowest y) := by sorry
theorem wz_isNarrowest : ∀ (L : Nat) (As : List AvC) (σ : CsC) (w : Option AvC) (τ : CsC), EvF L 78 As σ w τ → Uz_isNarrowest As σ w τ := by sorry
/-! the class's judge: calls -/
/-- where tokens stand -/
def TnC (E : Nat → Nat) (σ : CsC) : Prop := fRC σ (E 1) 210 = some (E 2) ∧ fRC σ (E 2) 303 = some (E 303) ∧ fRC σ (E 2) 304 = some (E 304)
theorem TnC.xu {E : Nat → Nat} {M : List Nat} {σ τ : CsC} {p : Nat} (h : TnC E σ) (x : XuC M σ τ p) (h1 : M.elem 210 = false) (h2 : M.elem 303 = false) (h3 : M.elem 304 = false) : TnC E τ := by sorry
/-- as XuC, and one row of ints changes -/
def XwC (M : List Nat) (σ τ : CsC) (o r : Nat) : Prop := (∀ a k, (M.elem k = false ∨ a ≠ o) → fIC τ a k = fIC σ a k ∧ fLC τ a k = fLC σ a k ∧ fRC τ a k = fRC σ a k) ∧ ((∀ a, a ≠ r → eIC τ a = eIC σ a) ∧ eLC τ = eLC σ ∧ eRC τ = eRC σ) ∧ cnC τ = cnC σ
/-- what judging a call does -/
def JcC (E : Nat → Nat) (σ τ : CsC) (o : Nat) (f : Int) (q : Option TvT) : Prop := (q = none ∧ erC E τ) ∨ ∃ r, q = some r ∧ fIC τ (E 1) 217 = 0 ∧ XwC [67, 68] σ τ o (E 303) ∧ TwC τ o r ∧ (fIC τ o 67).toInt = r.2.2.2 ∧ ∃ v : Int32, v.toInt = 100 + r.2.2.2 ∧ eIC τ (E 303) = upd (eIC σ (E 303)) f.toNat v
theorem JcC.we {E : Nat → Nat} {σ τ υ : CsC} {o : Nat} {f : Int} {q : Option TvT} (e : WeC τ υ) (h : JcC E σ τ o f q) : JcC E σ υ o f q := by sorry
theorem bs_s {ms : MfT} {key : Int} {as : List Int} {i : Nat} (h : i < 12) : bsT ms key as (12 - i) = if taT ms key as (odT i) = true ∧ naT ms key as (psT ms (odT i)) 12 = true then (odT i : Int) else bsT ms key as (12 - (i + 1)) := by sorry
theorem ps_s {ms : MfT} {i : Nat} {m : MtT} (h : ms i = some m) : psT ms i = m.2.2 := by sorry
theorem bs_r {ms : MfT} {key : Int} {as : List Int} : ∀ k, bsT ms key as k = -1 ∨ ∃ i : Nat, bsT ms key as k = (i : Int) ∧ i < 12 ∧ taT ms key as i = true := by sorry
theorem xa_p {C : CxT} {T : TbT} {t : TvT} {x : XrZ} {as : List Int} (ha : agT T x.2.2.2 = as) {k : Int} (hk : bsT C.2.2.2 (C.1 x.1.2.2.1) as 12 = k) (h5 : ∀ q ∈ as, ¬ q = 5) (h0 : 0 ≤ k) : xaT C T t x = some (mtyT C k, t.2.1, t.2.2.1, k) := by sorry
theorem xa_n {C : CxT} {T : TbT} {t : TvT} {x : XrZ} {as : List Int} (ha : agT T x.2.2.2 = as) (h : ¬ ((∀ q ∈ as, ¬ q = 5) ∧ 0 ≤ bsT C.2.2.2 (C.1 x.1.2.2.1) as 12)) : xaT C T t x = none := by sorry
theorem ArC.cg {σ τ : CsC} : ∀ {as : List Nat} {o : Option Nat}, (∀ a, fRC τ a 75 = fRC σ a 75) → ArC σ o as → ArC τ o as := by sorry
abbrev Pz_calledMethod : ((Int → Int) × (Nat → Nat) × (Nat → Nat) × (Nat → Nat) × (Nat → Nat) × ZS × MfT × Nat × List Nat × Int × Int) → CpC := fun y As σ => match y with
  | (N, E, A, B, V, z, ms, nm, as, f, key) => ∃ (p1 : Nat) (p2 : Int32), As = [.inr (.inr (some (E 3))), .inr (.inr (some p1)), .inl p2] ∧ (PjC E σ) ∧ (MaC E σ ms nm) ∧ (TnC E σ) ∧ ((fIC σ p1 62).toInt = f) ∧ ((eLC σ (E 304) f.toNat).toInt = key) ∧ (ArC σ (fRC σ p1 72) as) ∧ (p2.toInt = (as.length : Int))
abbrev Qz_calledMethod : ((Int → Int) × (Nat → Nat) × (Nat → Nat) × (Nat → Nat) × (Nat → Nat) × ZS × MfT × Nat × List Nat × Int × Int) → CqC := fun y As σ w τ => match y, As with
  | (N, E, A, B, V, z, ms, nm, as, f, key), [_, .inr (.inr (some p1)), .inl p2] => ∃ r, w = some (.inl r) ∧ r.toInt = bsT ms key (agO σ as) 12 ∧ σ = τ
  | _, _ => True
abbrev Uz_calledMethod : CqC := fun As σ w τ => ∀ y, Pz_calledMethod y As σ → Qz_calledMethod y As σ w τ
set_option maxHeartbeats 4000000 in
theorem pz_calledMethod (y : (Int → Int) × (Nat → Nat) × (Nat → Nat) × (Nat → Nat) × (Nat → Nat) × ZS × MfT × Nat × List Nat × Int × Int) : PbC KX3_calledMethod [(119, TrP, EqC 119), (115, TrP, EqC 115), (78, TrP, EqC 78)] [(119, Uz_methodOf), (115, Uz_mtakes), (78, Uz_isNarrowest)] (fun As σ => Pz_calledMethod y As σ ∧ cnC σ ≤ 1000000 ∧ ∃ w τ, uqC quL 77 As σ w τ) (Qz_calledMethod y) := by sorry
theorem wz_calledMethod : ∀ (L : Nat) (As : List AvC) (σ : CsC) (w : Option AvC) (τ : CsC), EvF L 77 As σ w τ → Uz_calledMethod As σ w τ := by sorry
abbrev Pz_judgeCall : ((Int → Int) × (Nat → Nat) × (Nat → Nat) × (Nat → Nat) × (Nat → Nat) × ZS × CxT × Nat × List Nat × TbT × XrZ × TvT) → CpC := fun y As σ => match y with
  | (N, E, A, B, V, z, C, nm, as, T, x, t) => ∃ (p1 : Nat), As = [.inr (.inr (some (E 3))), .inr (.inr (some p1))] ∧ (PjC E σ) ∧ (fIC σ (E 1) 217 = 0) ∧ (p1 < cnC σ) ∧ (XqC σ x p1) ∧ (TwC σ p1 t) ∧ (x.1.1 = 10) ∧ (MaC E σ C.2.2.2 nm) ∧ (TnC E σ) ∧ ((eLC σ (E 304) x.1.2.2.1.toNat).toInt = C.1 x.1.2.2.1) ∧ (ArC σ (fRC σ p1 72) as) ∧ (agT T x.2.2.2 = agO σ as) ∧ (∀ o ∈ as, ¬ (fIC σ o 68).toInt = -1) ∧ (as.length ≤ 500)
abbrev Qz_judgeCall : ((Int → Int) × (Nat → Nat) × (Nat → Nat) × (Nat → Nat) × (Nat → Nat) × ZS × CxT × Nat × List Nat × TbT × XrZ × TvT) → CqC := fun y As σ w τ => match y, As with
  | (N, E, A, B, V, z, C, nm, as, T, x, t), [_, .inr (.inr (some p1))] => w = none ∧ JcC E σ τ p1 x.1.2.2.1 (xaT C T t x)
  | _, _ => True
abbrev Uz_judgeCall : CqC := fun As σ w τ => ∀ y, Pz_judgeCall y As σ → Qz_judgeCall y As σ w τ
set_option maxHeartbeats 4000000 in
theorem pz_judgeCall (y : (Int → Int) × (Nat → Nat) × (Nat → Nat) × (Nat → Nat) × (Nat → Nat) × ZS × CxT × Nat × List Nat × TbT × XrZ × TvT) : PbC KX3_judgeCall [(77, TrP, EqC 77), (119, TrP, EqC 119), (118, TrP, EqC 118), (52, TrP, EqC 52), (62, TrP, EqC 62)] [(77, Uz_calledMethod), (119, Uz_methodOf), (118, Uz_tell), (52, Uz_isFaulty), (62, Uz_isWanted)] (fun As σ => Pz_judgeCall y As σ ∧ cnC σ ≤ 1000000 ∧ ∃ w τ, uqC quL 76 As σ w τ) (Qz_judgeCall y) := by sorry
theorem wz_judgeCall : ∀ (L : Nat) (As : List AvC) (σ : CsC) (w : Option AvC) (τ : CsC), EvF L 76 As σ w τ → Uz_judgeCall As σ w τ := by sorry
/-! the class's judge: what stands while exps are judged -/
/-- what is told around: out of what is read -/
def CzT (N : Int → Int) (z : ZS) (ms : MfT) : CxT := (N, fun v => ((vth z.1 v).2.1, (vth z.1 v).2.2.1), (zVs z.1).length, ms)
/-- what was read, but for what the reader keeps of it -/
def ZD (N : Int → Int) (E A B V : Nat → Nat) (σ : CsC) (z : ZS) : Prop :=
  EnC E σ ∧ True ∧
  ((∀ j, (eIC σ (E 302) j).toInt = zK z.1 j) ∧ ∀ j : Nat, (eLC σ (E 304) j).toInt = N j) ∧
  (LiC σ (E 213) (xnM z) A ∧ LiC σ (E 214) (snM z) B ∧ LiC σ (E 212) (zVs z.1).length V ∧ LiC σ (E 211) (zMs z.1).length (fun k => E (1000 + k))) ∧
  ((∀ i, i < xnM z → XoC N A σ (xth z i) i (A i) ∧ oprX (xth z i) (xnM z)) ∧ ∀ i, i < xnM z → (∀ a ∈ (xth z i).2.2.2, (xth z i).2.2.1.1 ≤ a ∧ 0 ≤ a ∧ a < (i : Int)) ∧ ChC A σ (xth z i).2.2.2) ∧
  ((∀ j, j < snM z → SoC A B σ (reS z j) (B j) ∧ oprS (reS z j) (xnM z) (snM z)) ∧ ∀ i j, i < j → j < snM z → B i < B j) ∧
  (∀ v, v < (zVs z.1).length → VrC σ (vth z.1 v) (z.2.2.2.2.2.1 v) (V v)) ∧
  True ∧ True ∧ (zVs z.1).length ≤ 60 ∧ ∀ i j, i < j → j < (zVs z.1).length → V i < V j
theorem ZD.cg {N : Int → Int} {E A B V : Nat → Nat} {σ τ : CsC} {z : ZS} (h : ZD N E A B V σ z) (f : ∀ a k, ¬ k = 245 → ¬ k = 246 → fIC τ a k = fIC σ a k ∧ fLC τ a k = fLC σ a k ∧ fRC τ a k = fRC σ a k) (e : eIC τ = eIC σ ∧ eLC τ = eLC σ ∧ eRC τ = eRC σ) (c : cnC τ = cnC σ) : ZD N E A B V τ z := by sorry
theorem ZD.we {N : Int → Int} {E A B V : Nat → Nat} {σ τ : CsC} {z : ZS} (h : ZD N E A B V σ z) (w : WeC σ τ) : ZD N E A B V τ z := by sorry
theorem ZC.d {N : Int → Int} {E A B V : Nat → Nat} {σ : CsC} {e : Nat} {z : ZS} (h : ZC N E A B V (prS e σ) z) : ZD N E A B V σ z := by sorry
/-- what stands at first -/
def StC (N : Int → Int) (E A B V : Nat → Nat) (σ : CsC) (z : ZS) (ms : MfT) (nm : Nat) : Prop := (ZD N E A B V σ z ∧ SkM z [] ∧ ∀ i, i < xnM z → (xth z i).1.1 = 15 → 0 ≤ (xth z i).2.1.2.1 ∧ (xth z i).2.1.2.1 < ((zVs z.1).length : Int)) ∧ (PjC E σ ∧ fIC σ (E 1) 217 = 0 ∧ TnC E σ) ∧ MaC E σ ms nm ∧ ∀ i m r, ms i = some m → fRC σ (MoE E i) 183 = some r → r ≠ E 303
/-- what judging exps leaves alone -/
def JfC (E A : Nat → Nat) (z : ZS) (σ0 σ : CsC) : Prop := (∀ a k, [67, 68, 69, 70, 71, 335, 336].elem k = false → fIC σ a k = fIC σ0 a k ∧ fLC σ a k = fLC σ0 a k ∧ fRC σ a k = fRC σ0 a k) ∧ True ∧ ((∀ a, a ≠ E 303 → eIC σ a = eIC σ0 a) ∧ eLC σ = eLC σ0 ∧ eRC σ = eRC σ0) ∧ cnC σ = cnC σ0 ∧ (∀ k, k < xnM z → ¬ (xth z k).1.1 = 10 → fIC σ (A k) 67 = fIC σ0 (A k) 67) ∧ ∀ k, k < xnM z → ¬ (xth z k).1.1 = 7 → ¬ (xth z k).1.1 = 9 → fIC σ (A k) 69 = fIC σ0 (A k) 69
/-- what tokens mean: the calls among the first i exps -/
def mnT (z : ZS) (T : Nat → TvT) (r : Nat → Int) : Nat → Nat → Int
  | 0, j => r j
  | i + 1, j => if (xth z i).1.1 = 10 ∧ (xth z i).1.2.2.1.toNat = j then 100 + (T i).2.2.2 else mnT z T r i j
theorem mn_c {z : ZS} {T U : Nat → TvT} {r : Nat → Int} : ∀ {i : Nat}, (∀ k, k < i → T k = U k) → ∀ j, mnT z T r i j = mnT z U r i j := by sorry
/-- the first i exps are judged -/
def JxC (E A V : Nat → Nat) (z : ZS) (σ0 σ : CsC) (T : TbT) (i : Nat) : Prop := JfC E A z σ0 σ ∧ (∀ k, k < xnM z → TwC σ (A k) (T.1 k)) ∧ (∀ k, k < i → ((xth z k).1.1 = 7 ∨ (xth z k).1.1 = 9 → (fIC σ (A k) 69).toInt = (T.1 k).2.2.2) ∧ ((xth z k).1.1 = 10 → (fIC σ (A k) 67).toInt = (T.1 k).2.2.2)) ∧ (∀ v, v < (zVs z.1).length → (fIC σ (V v) 335).toInt = (T.2 v).1 ∧ (¬ (T.2 v).1 = 0 → fLC σ (V v) 336 = (T.2 v).2)) ∧ ∀ j : Nat, (eIC σ (E 303) j).toInt = mnT z T.1 (fun q => (eIC σ0 (E 303) q).toInt) i j
/-- TYPES of exps that have been judged -/
def TyP (z : ZS) (T : TbT) (i : Nat) : Prop := ∀ k, k < i → (xth z k).1.1 ≤ 10 → ¬ (T.1 k).1 = -1
theorem A_in {N : Int → Int} {E A B V : Nat → Nat} {σ : CsC} {z : ZS} (h : ZD N E A B V σ z) {i j : Nat} (hi : i < xnM z) (hj : j < xnM z) (e : A i = A j) : i = j := by sorry
/-- operands: by the pile -/
theorem sk_lt : ∀ {l : List ItZ} {S : List Int}, SkP l S → ∀ q ∈ S, 0 ≤ q ∧ q < (xcZ l : Int) ∧ (xgZ l q.toNat).1.1 ≤ 10 := by sorry
theorem sk_op : ∀ {l : List ItZ} {S : List Int}, SkP l S → ∀ i, i < xcZ l → ∀ q ∈ opsZ (xgZ l i), 0 ≤ q ∧ q < (i : Int) ∧ (xgZ l q.toNat).1.1 ≤ 10 := by sorry
/-- an operand of exp i: its object, TYPE .. -/
def OpP (A : Nat → Nat) (z : ZS) (σ : CsC) (T : TbT) (i : Nat) (q : Int) : Prop := (0 ≤ q ∧ q < (i : Int)) ∧ A q.toNat ≠ A i ∧ TwC σ (A q.toNat) (opT T q) ∧ ¬ (opT T q).1 = -1
theorem JxC.op {N : Int → Int} {E A B V : Nat → Nat} {σ0 σ : CsC} {z : ZS} {ms : MfT} {nm : Nat} {T : TbT} {i : Nat} (hS : StC N E A B V σ0 z ms nm) (h : JxC E A V z σ0 σ T i) (hT : TyP z T i) (hi : i < xnM z) {q : Int} (hq : q ∈ opsZ (xth z i)) : OpP A z σ T i q := by sorry
theorem JxC.xq {N : Int → Int} {E A B V : Nat → Nat} {σ0 σ : CsC} {z : ZS} {ms : MfT} {nm : Nat} {T : TbT} {i : Nat} (hS : StC N E A B V σ0 z ms nm) (h : JxC E A V z σ0 σ T i) (hi : i < xnM z) : XqC σ (xth z i) (A i) := by sorry
theorem JxC.pj {N : Int → Int} {E A B V : Nat → Nat} {σ0 σ : CsC} {z : ZS} {ms : MfT} {nm : Nat} {T : TbT} {i : Nat} (hS : StC N E A B V σ0 z ms nm) (h : JxC E A V z σ0 σ T i) : PjC E σ := by sorry
theorem JxC.er {N : Int → Int} {E A B V : Nat → Nat} {σ0 σ : CsC} {z : ZS} {ms : MfT} {nm : Nat} {T : TbT} {i : Nat} (hS : StC N E A B V σ0 z ms nm) (h : JxC E A V z σ0 σ T i) : fIC σ (E 1) 217 = 0 := by sorry
theorem JxC.ma {N : Int → Int} {E A B V : Nat → Nat} {σ0 σ : CsC} {z : ZS} {ms : MfT} {nm : Nat} {T : TbT} {i : Nat} (hS : StC N E A B V σ0 z ms nm) (h : JxC E A V z σ0 σ T i) : MaC E σ ms nm := by sorry
theorem JxC.vp {N : Int → Int} {E A B V : Nat → Nat} {σ0 σ : CsC} {z : ZS} {ms : MfT} {nm : Nat} {T : TbT} {i : Nat} (hS : StC N E A B V σ0 z ms nm) (h : JxC E A V z σ0 σ T i) : VpC E V σ (CzT N z ms) := by sorry
theorem JxC.tn {N : Int → Int} {E A B V : Nat → Nat} {σ0 σ : CsC} {z : ZS} {ms : MfT} {nm : Nat} {T : TbT} {i : Nat} (hS : StC N E A B V σ0 z ms nm) (h : JxC E A V z σ0 σ T i) : TnC E σ ∧ ∀ j : Nat, (eLC σ (E 304) j).toInt = N j := by sorry
theorem JxC.lt {N : Int → Int} {E A B V : Nat → Nat} {σ0 σ : CsC} {z : ZS} {ms : MfT} {nm : Nat} {T : TbT} {i : Nat} (hS : StC N E A B V σ0 z ms nm) (h : JxC E A V z σ0 σ T i) (hi : i < xnM z) : A i < cnC σ := by sorry
/-- a field that leads to an operand -/
theorem JxC.rf {N : Int → Int} {E A B V : Nat → Nat} {σ0 σ : CsC} {z : ZS} {ms : MfT} {nm : Nat} {T : TbT} {i : Nat} (hS : StC N E A B V σ0 z ms nm) (h : JxC E A V z σ0 σ T i) (hi : i < xnM z) : fRC σ (A i) 72 = opA A (xth z i).2.2.1.2.1 ∧ fRC σ (A i) 73 = opA A (xth z i).2.2.1.2.2.1 ∧ fRC σ (A i) 74 = opA A (xth z i).2.2.1.2.2.2.1 := by sorry
theorem el_sub {M L : List Nat} (h : M.all (fun k => L.elem k) = true) {k : Nat} (hk : L.elem k = false) : M.elem k = false := by sorry
/-- one exp is judged -/
theorem JxC.st {N : Int → Int} {E A B V : Nat → Nat} {σ0 σ τ : CsC} {z : ZS} {ms : MfT} {nm : Nat} {T : TbT} {i : Nat} {M : List Nat} {e : TvT} (hS : StC N E A B V σ0 z ms nm) (h : JxC E A V z σ0 σ T i) (hi : i < xnM z) (hM : M.all (fun k => [68, 69, 70, 71].elem k) = true) (h69 : M.elem 69 = true → (xth z i).1.1 = 7 ∨ (xth z i).1.1 = 9) (h10 : ¬ (xth z i).1.1 = 10) (h15 : ¬ (xth z i).1.1 = 15) (x : XuC M σ τ (A i)) (t : TwC τ (A i) e) (hw : (xth z i).1.1 = 7 ∨ (xth z i).1.1 = 9 → (fIC τ (A i) 69).toInt = e.2.2.2) : JxC E A V z σ0 τ (fun k => if k = i then e else T.1 k, vrT (CzT N z ms) T (xth z i)) (i + 1) := by sorry
/-- nothing is to be judged -/
theorem JxC.no {N : Int → Int} {E A V : Nat → Nat} {σ0 σ τ : CsC} {z : ZS} {ms : MfT} {T : TbT} {i : Nat} (h : JxC E A V z σ0 σ T i) (hk : (xth z i).1.1 = 1 ∨ (11 ≤ (xth z i).1.1 ∧ (xth z i).1.1 ≤ 14) ∨ 15 < (xth z i).1.1 ∨ (xth z i).1.1 < 0) (w : WeC σ τ) : JxC E A V z σ0 τ (fun k => if k = i then T.1 i else T.1 k, vrT (CzT N z ms) T (xth z i)) (i + 1) := by sorry
theorem V_in {N : Int → Int} {E A B V : Nat → Nat} {σ : CsC} {z : ZS} (h : ZD N E A B V σ z) {i j : Nat} (hi : i < (zVs z.1).length) (hj : j < (zVs z.1).length) (e : V i = V j) : i = j := by sorry
/-- a variable's exp -/
theorem JxC.so {N : Int → Int} {E A B V : Nat → Nat} {σ0 σ τ : CsC} {z : ZS} {ms : MfT} {nm : Nat} {T : TbT} {i : Nat} {l : Nat} (hS : StC N E A B V σ0 z ms nm) (h : JxC E A V z σ0 σ T i) (hk : (xth z i).1.1 = 15) (hl : (xth z i).2.1.2.1 = (l : Int)) (hl2 : l < (zVs z.1).length) (x : XuC [335, 336] σ τ (V l)) (t : (fIC τ (V l) 335).toInt = if ¬ (vtT (CzT N z ms) (xth z i).2.1.2.1).2 = 0 ∧ ¬ (opT T (xth z i).2.2.1.2.1).2.1 = 0 then 1 else 0) (u : fLC τ (V l) 336 = (opT T (xth z i).2.2.1.2.1).2.2.1) : JxC E A V z σ0 τ (fun k => if k = i then T.1 i else T.1 k, vrT (CzT N z ms) T (xth z i)) (i + 1) := by sorry
/-- a call -/
theorem JxC.ca {N : Int → Int} {E A B V : Nat → Nat} {σ0 σ τ : CsC} {z : ZS} {ms : MfT} {nm : Nat} {T : TbT} {i : Nat} {e : TvT} {v : Int32} (hS : StC N E A B V σ0 z ms nm) (h : JxC E A V z σ0 σ T i) (hi : i < xnM z) (hk : (xth z i).1.1 = 10) (x : XwC [67, 68] σ τ (A i) (E 303)) (t : TwC τ (A i) e) (hw : (fIC τ (A i) 67).toInt = e.2.2.2) (hv : v.toInt = 100 + e.2.2.2) (hr : eIC τ (E 303) = upd (eIC σ (E 303)) (xth z i).1.2.2.1.toNat v) : JxC E A V z σ0 τ (fun k => if k = i then e else T.1 k, vrT (CzT N z ms) T (xth z i)) (i + 1) := by sorry
/-- arguments as objects -/
theorem ar_c {A : Nat → Nat} {σ : CsC} : ∀ {l : List Int}, ChC A σ l → ArC σ (match l with
    | [] => none
    | b :: _ => some (A b.toNat)) (l.map (fun q => A q.toNat)) := by sorry
/-! the class's judge: one exp of the list -/
theorem op_1 {x : XrZ} (h : x.1.1 = 3 ∨ x.1.1 = 4 ∨ x.1.1 = 5 ∨ x.1.1 = 15) : opsZ x = [x.2.2.1.2.1] := if_pos h
theorem op_7 {x : XrZ} (h : x.1.1 = 7) : opsZ x = [x.2.2.1.2.2.1, x.2.2.1.2.1] := (if_neg (by omega)).trans (if_pos h)
theorem op_8 {x : XrZ} (h : x.1.1 = 8) : opsZ x = [x.2.2.1.2.2.2.1, x.2.2.1.2.2.1, x.2.2.1.2.1] := by sorry
theorem op_9 {x : XrZ} (h : x.1.1 = 9) : opsZ x = [x.2.2.1.2.2.1] := by sorry
theorem op_10 {x : XrZ} (h : x.1.1 = 10) : opsZ x = x.2.2.2.reverse := by sorry
theorem ex_o {C : CxT} {T : TbT} {i : Nat} {x : XrZ} (h : x.1.1 = 1 ∨ (11 ≤ x.1.1 ∧ x.1.1 ≤ 14) ∨ 15 < x.1.1 ∨ x.1.1 < 0) : exT C T i x = some (T.1 i) := by sorry
theorem o1_ex {C : CxT} {T : TbT} {i : Nat} {x : XrZ} (h : x.1.1 = 3 ∨ x.1.1 = 4 ∨ x.1.1 = 5) : exT C T i x = o1T (opT T x.2.2.1.2.1) (T.1 i) x := by sorry
def JoC (N : Int → Int) (E A V : Nat → Nat) (z : ZS) (ms : MfT) (σ0 τ : CsC) (T : TbT) (i : Nat) : Prop := (exT (CzT N z ms) T i (xth z i) = none ∧ erC E τ) ∨ ∃ e, exT (CzT N z ms) T i (xth z i) = some e ∧ JxC E A V z σ0 τ (fun k => if k = i then e else T.1 k, vrT (CzT N z ms) T (xth z i)) (i + 1)
theorem JoC.q {N : Int → Int} {E A B V : Nat → Nat} {σ0 σ τ : CsC} {z : ZS} {ms : MfT} {nm : Nat} {T : TbT} {i : Nat} {M : List Nat} {W : TvT → Prop} {q : Option TvT} (hS : StC N E A B V σ0 z ms nm) (h : JxC E A V z σ0 σ T i) (hi : i < xnM z) (e : exT (CzT N z ms) T i (xth z i) = q) (hM : M.all (fun k => [68, 69, 70, 71].elem k) = true) (h69 : M.elem 69 = true → (xth z i).1.1 = 7 ∨ (xth z i).1.1 = 9) (h10 : ¬ (xth z i).1.1 = 10) (h15 : ¬ (xth z i).1.1 = 15) (hW : ∀ r, W r → (xth z i).1.1 = 7 ∨ (xth z i).1.1 = 9 → (fIC τ (A i) 69).toInt = r.2.2.2) (r : JqC E M σ τ (A i) q W) : JoC N E A V z ms σ0 τ T i := by sorry
theorem JoC.s {N : Int → Int} {E A B V : Nat → Nat} {σ0 σ τ : CsC} {z : ZS} {ms : MfT} {nm : Nat} {T : TbT} {i : Nat} {q : Option TvT} (hS : StC N E A B V σ0 z ms nm) (h : JxC E A V z σ0 σ T i) (hk : (xth z i).1.1 = 15) (hi : i < xnM z) (e : exT (CzT N z ms) T i (xth z i) = q) (r : JsC E σ τ (V (xth z i).2.1.2.1.toNat) q (if ¬ (vtT (CzT N z ms) (xth z i).2.1.2.1).2 = 0 ∧ ¬ (opT T (xth z i).2.2.1.2.1).2.1 = 0 then 1 else 0, (opT T (xth z i).2.2.1.2.1).2.2.1)) (hq : ∀ r, q = some r → r = T.1 i) : JoC N E A V z ms σ0 τ T i := by sorry
theorem JoC.c {N : Int → Int} {E A B V : Nat → Nat} {σ0 σ τ : CsC} {z : ZS} {ms : MfT} {nm : Nat} {T : TbT} {i : Nat} {q : Option TvT} (hS : StC N E A B V σ0 z ms nm) (h : JxC E A V z σ0 σ T i) (hi : i < xnM z) (hk : (xth z i).1.1 = 10) (e : exT (CzT N z ms) T i (xth z i) = q) (r : JcC E σ τ (A i) (xth z i).1.2.2.1 q) : JoC N E A V z ms σ0 τ T i := by sorry
theorem JoC.we {N : Int → Int} {E A V : Nat → Nat} {σ0 τ υ : CsC} {z : ZS} {ms : MfT} {T : TbT} {i : Nat} (w : WeC τ υ) (h : JoC N E A V z ms σ0 τ T i) : JoC N E A V z ms σ0 υ T i := by sorry
abbrev Pz_judgeExp : ((Int → Int) × (Nat → Nat) × (Nat → Nat) × (Nat → Nat) × (Nat → Nat) × ZS × CsC × TbT × Nat × MfT × Nat) → CpC := fun y As σ => match y with
  | (N, E, A, B, V, z, σ0, T, i, ms, nm) => ∃ (p1 : Nat), As = [.inr (.inr (some (E 3))), .inr (.inr (some p1))] ∧ (StC N E A B V σ0 z ms nm) ∧ (JxC E A V z σ0 σ T i) ∧ (i < xnM z) ∧ (p1 = A i) ∧ (TyP z T i) ∧ (∀ i, i < xnM z → (xth z i).1.1 = 10 → (xth z i).2.2.1.2.1 = (xth z i).2.2.2.headD (-1)) ∧ (∀ i, i < xnM z → (xth z i).1.1 = 10 → 0 ≤ (xth z i).1.2.2.1) ∧ (∀ i, i < xnM z → (xth z i).1.1 = 10 → (xth z i).2.2.2.length ≤ 500)
abbrev Qz_judgeExp : ((Int → Int) × (Nat → Nat) × (Nat → Nat) × (Nat → Nat) × (Nat → Nat) × ZS × CsC × TbT × Nat × MfT × Nat) → CqC := fun y As σ w τ => match y, As with
  | (N, E, A, B, V, z, σ0, T, i, ms, nm), [_, .inr (.inr (some p1))] => w = none ∧ JoC N E A V z ms σ0 τ T i
  | _, _ => True
abbrev Uz_judgeExp : CqC := fun As σ w τ => ∀ y, Pz_judgeExp y As σ → Qz_judgeExp y As σ w τ
set_option maxHeartbeats 4000000 in
theorem pz_judgeExp (y : (Int → Int) × (Nat → Nat) × (Nat → Nat) × (Nat → Nat) × (Nat → Nat) × ZS × CsC × TbT × Nat × MfT × Nat) : PbC KX3_judgeExp [(54, TrP, EqC 54), (55, TrP, EqC 55), (56, TrP, EqC 56), (60, TrP, EqC 60), (69, TrP, EqC 69), (71, TrP, EqC 71), (61, TrP, EqC 61), (76, TrP, EqC 76), (79, TrP, EqC 79)] [(54, Uz_judgeNumber), (55, Uz_judgeName), (56, Uz_judgeOfOne), (60, Uz_judgeCount), (69, Uz_judgeChain), (71, Uz_judgeChoice), (61, Uz_judgeAssignment), (76, Uz_judgeCall), (79, Uz_judgeStore)] (fun As σ => Pz_judgeExp y As σ ∧ cnC σ ≤ 1000000 ∧ ∃ w τ, uqC quL 53 As σ w τ) (Qz_judgeExp y) := by sorry
theorem wz_judgeExp : ∀ (L : Nat) (As : List AvC) (σ : CsC) (w : Option AvC) (τ : CsC), EvF L 53 As σ w τ → Uz_judgeExp As σ w τ := by sorry
/-! S's and exps that stay as they are -/
def xjS (z : ZS) (j : Nat) : Int := (reS z j).2.2.2.2.2.2.1
def bjS (z : ZS) (j : Nat) : Int := (reS z j).2.2.2.1
def njS (z : ZS) (j : Nat) : Int := (reS z j).2.2.1
def ojS (z : ZS) (j : Nat) : Int := (reS z j).2.2.2.2.1
def gjS (z : ZS) (j : Nat) : Int := (reS z j).2.2.2.2.2.1
theorem opA_j {A : Nat → Nat} {x : Int} {b : Nat} (h : opA A x = some b) : ∃ n : Nat, x = (n : Int) ∧ b = A n := by sorry
theorem opA_nn {A : Nat → Nat} {x : Int} (h : opA A x = none) : x < 0 := by sorry
/-- an S's object: what was read of it -/
def SlC (A B : Nat → Nat) (σ : CsC) (z : ZS) (j : Nat) (o : Nat) : Prop := ((fIC σ o 270).toInt = kjS z j ∧ (fIC σ o 271).toInt = fiS z j ∧ (fIC σ o 272).toInt = (reS z j).1.2.2.1 ∧ fRC σ o 273 = opA B (paS z j)) ∧ (fRC σ o 275 = opA B (njS z j) ∧ fRC σ o 276 = opA B (bjS z j) ∧ fRC σ o 277 = opA B (ojS z j) ∧ fRC σ o 278 = opA B (gjS z j) ∧ fRC σ o 279 = opA A (xjS z j) ∧ (fIC σ o 280).toInt = ljS z j)
/-- an exp's object -/
def XzC (σ : CsC) (x : XrZ) (k : Nat) (o : Nat) : Prop := (fIC σ o 60).toInt = x.1.1 ∧ (fIC σ o 61).toInt = x.1.2.1 ∧ (fIC σ o 63).toInt = x.2.2.1.1 ∧ (fIC σ o 65).toInt = (k : Int) ∧ (fIC σ o 66).toInt = x.2.1.1
/-- a list's row is there, if it holds anything -/
abbrev RoC (σ : CsC) (a : Nat) : Prop := 0 < (fIC σ a 2).toInt → ∀ r, fRC σ a 1 = some r → r < cnC σ
/-- S's, exps as they are judged, methods -/
def SsC (E A B : Nat → Nat) (σ : CsC) (z : ZS) (T : TbT) (ms : MfT) (nm : Nat) : Prop := (∀ j, j < snM z → SlC A B σ z j (B j) ∧ B j < cnC σ) ∧ (∀ k, k < xnM z → (TwC σ (A k) (T.1 k) ∧ XzC σ (xth z k) k (A k) ∧ (¬ (xth z k).1.1 = 10 → (fIC σ (A k) 67).toInt = (xth z k).2.1.2.1)) ∧ A k < cnC σ) ∧ (MaC E σ ms nm ∧ (E 1 < cnC σ ∧ E 211 < cnC σ) ∧ (RoC σ (E 211)) ∧ ∀ i m, ms i = some m → MoE E i < cnC σ) ∧ (fRC σ (E 1) 213 = some (E 213) ∧ LiC σ (E 213) (xnM z) A) ∧ E 213 < cnC σ ∧ RoC σ (E 213)
theorem nel {L M : List Nat} (h : L.all (fun k => !M.elem k) = true) {k : Nat} (hk : L.elem k = true) : M.elem k = false := by sorry
abbrev ssF : List Nat := [999, 900, 902, 1, 2, 60, 61, 63, 65, 66, 67, 68, 70, 71, 181, 182, 183, 185, 211, 213, 215, 216, 270, 271, 272, 273, 275, 276, 277, 278, 279, 280]
theorem MkC.fr {M : List Nat} {σ τ : CsC} {o : Nat} {m : MtT} (h : MkC σ m o) (f : FrE M σ τ) (hM : ssF.all (fun k => !M.elem k) = true) (ho : o < cnC σ) : MkC τ m o := by sorry
theorem LiC.fr {M : List Nat} {σ τ : CsC} {a n : Nat} {A : Nat → Nat} (h : LiC σ a n A) (f : FrE M σ τ) (hM : ssF.all (fun k => !M.elem k) = true) (ha : a < cnC σ) (hr : RoC σ a) : LiC τ a n A := by sorry
theorem TwC.fr {M : List Nat} {σ τ : CsC} {o : Nat} {r : TvT} (h : TwC σ o r) (f : FrE M σ τ) (hM : ssF.all (fun k => !M.elem k) = true) (ho : o < cnC σ) : TwC τ o r := by sorry
theorem SsC.fr {E A B : Nat → Nat} {M : List Nat} {σ τ : CsC} {z : ZS} {T : TbT} {ms : MfT} {nm : Nat} (h : SsC E A B σ z T ms nm) (f : FrE M σ τ) (hM : ssF.all (fun k => !M.elem k) = true) : SsC E A B τ z T ms nm := by sorry
/-- what the judge finds: its program, tokens' worth -/
def NmC (N : Int → Int) (E : Nat → Nat) (σ : CsC) : Prop := PjC E σ ∧ (TnC E σ ∧ E 2 < cnC σ ∧ E 304 < cnC σ) ∧ ∀ j : Nat, (eLC σ (E 304) j).toInt = N j
theorem NmC.fr {N : Int → Int} {E : Nat → Nat} {M : List Nat} {σ τ : CsC} (h : NmC N E σ) (f : FrE M σ τ) (hM : [999, 121, 210, 303, 304, 901].all (fun k => !M.elem k) = true) : NmC N E τ := by sorry
/-! the class's judge: S's -/
/-- links of S's lead to S's, exps -/
def WfS (z : ZS) (T : TbT) : Prop := ∀ j, j < snM z → (paS z j < (j : Int) ∧ njS z j < (snM z : Int) ∧ bjS z j < (snM z : Int) ∧ ojS z j < (snM z : Int) ∧ gjS z j < (snM z : Int)) ∧ (0 ≤ xjS z j → xjS z j < (xnM z : Int) ∧ ¬ (T.1 (xjS z j).toNat).1 = -1) ∧ (kjS z j = 6 → bjS z j = (j : Int) + 1)
theorem tg_neg {N : Int → Int} {f : Nat → SrZ} {on : Bool} {t : Int} {k : Nat} {x : Int} (h : x < 0) : tgZ N f on t k x = -1 := by sorry
/-- the S that a jump leads to -/
def tjT (N : Int → Int) (z : ZS) (j : Nat) : Int := tgZ N z.2.2.1.2 (decide (kjS z j = 65)) (ljS z j) (snM z) (paS z j)
/-- no NAME: around of the same NAME -/
def lbT (N : Int → Int) (z : ZS) (t : Int) : Nat → Int → Prop
  | 0, _ => True
  | k + 1, x => if x < 0 then True else ¬ (kjS z x.toNat = 6 ∧ N (ljS z x.toNat) = N t) ∧ lbT N z t k (paS z x.toNat)
theorem lb_neg {N : Int → Int} {z : ZS} {t : Int} {k : Nat} {x : Int} (h : x < 0) : lbT N z t k x := by sorry
theorem lb_s {N : Int → Int} {z : ZS} {t : Int} {k j : Nat} : lbT N z t (k + 1) (j : Int) ↔ ¬ (kjS z j = 6 ∧ N (ljS z j) = N t) ∧ lbT N z t k (paS z j) := by sorry
theorem iff_e {P : Prop} {E : Nat → Nat} {σ : CsC} (h : P) : (erC E σ ∨ ¬ P) ↔ erC E σ := ⟨fun q => q.elim id (fun n => absurd h n), Or.inl⟩
theorem er_we {E : Nat → Nat} {σ τ : CsC} (h : WeC σ τ) : erC E τ ↔ erC E σ := by sorry
abbrev Pz_isSameName : ((Int → Int) × (Nat → Nat) × (Nat → Nat) × (Nat → Nat) × (Nat → Nat) × ZS) → CpC := fun y As σ => match y with
  | (N, E, A, B, V, z) => ∃ (p1 : Int32) (p2 : Int32), As = [.inr (.inr (some (E 3))), .inl p1, .inl p2] ∧ (NmC N E σ)
abbrev Qz_isSameName : ((Int → Int) × (Nat → Nat) × (Nat → Nat) × (Nat → Nat) × (Nat → Nat) × ZS) → CqC := fun y As σ w τ => match y, As with
  | (N, E, A, B, V, z), [_, .inl p1, .inl p2] => ∃ r, w = some (.inl r) ∧ ((r.toInt = 1 ∧ (N p1.toInt = N p2.toInt)) ∨ (r.toInt = 0 ∧ ¬ (N p1.toInt = N p2.toInt))) ∧ σ = τ
  | _, _ => True
abbrev Uz_isSameName : CqC := fun As σ w τ => ∀ y, Pz_isSameName y As σ → Qz_isSameName y As σ w τ
set_option maxHeartbeats 4000000 in
theorem pz_isSameName (y : (Int → Int) × (Nat → Nat) × (Nat → Nat) × (Nat → Nat) × (Nat → Nat) × ZS) : PbC KX3_isSameName [] [] (fun As σ => Pz_isSameName y As σ ∧ cnC σ ≤ 1000000 ∧ ∃ w τ, uqC quL 84 As σ w τ) (Qz_isSameName y) := by sorry
theorem wz_isSameName : ∀ (L : Nat) (As : List AvC) (σ : CsC) (w : Option AvC) (τ : CsC), EvF L 84 As σ w τ → Uz_isSameName As σ w τ := by sorry
abbrev Pz_isLoop : ((Int → Int) × (Nat → Nat) × (Nat → Nat) × (Nat → Nat) × (Nat → Nat) × ZS) → CpC := fun y As σ => match y with
  | (N, E, A, B, V, z) => ∃ (p0 : Nat), As = [.inr (.inr (some p0))]
abbrev Qz_isLoop : ((Int → Int) × (Nat → Nat) × (Nat → Nat) × (Nat → Nat) × (Nat → Nat) × ZS) → CqC := fun y As σ w τ => match y, As with
  | (N, E, A, B, V, z), [.inr (.inr (some p0))] => ∃ r, w = some (.inl r) ∧ ((r.toInt = 1 ∧ ((fIC σ p0 270).toInt = 58 ∨ (fIC σ p0 270).toInt = 59 ∨ (fIC σ p0 270).toInt = 60)) ∨ (r.toInt = 0 ∧ ¬ ((fIC σ p0 270).toInt = 58 ∨ (fIC σ p0 270).toInt = 59 ∨ (fIC σ p0 270).toInt = 60))) ∧ σ = τ
  | _, _ => True
abbrev Uz_isLoop : CqC := fun As σ w τ => ∀ y, Pz_isLoop y As σ → Qz_isLoop y As σ w τ
set_option maxHeartbeats 4000000 in
theorem pz_isLoop (y : (Int → Int) × (Nat → Nat) × (Nat → Nat) × (Nat → Nat) × (Nat → Nat) × ZS) : PbC KX8_isLoop [] [] (fun As σ => Pz_isLoop y As σ ∧ cnC σ ≤ 1000000 ∧ ∃ w τ, uqC quL 179 As σ w τ) (Qz_isLoop y) := by sorry
theorem wz_isLoop : ∀ (L : Nat) (As : List AvC) (σ : CsC) (w : Option AvC) (τ : CsC), EvF L 179 As σ w τ → Uz_isLoop As σ w τ := by sorry
abbrev Pz_judgeLabel : ((Int → Int) × (Nat → Nat) × (Nat → Nat) × (Nat → Nat) × (Nat → Nat) × ZS × TbT × MfT × Nat × Nat) → CpC := fun y As σ => match y with
  | (N, E, A, B, V, z, T, ms, nm, j) => ∃ (p1 : Nat), As = [.inr (.inr (some (E 3))), .inr (.inr (some p1))] ∧ (SsC E A B σ z T ms nm) ∧ (NmC N E σ) ∧ (WfS z T) ∧ (j < snM z) ∧ (p1 = B j)
abbrev Qz_judgeLabel : ((Int → Int) × (Nat → Nat) × (Nat → Nat) × (Nat → Nat) × (Nat → Nat) × ZS × TbT × MfT × Nat × Nat) → CqC := fun y As σ w τ => match y, As with
  | (N, E, A, B, V, z, T, ms, nm, j), [_, .inr (.inr (some p1))] => w = none ∧ (erC E τ ↔ erC E σ ∨ ¬ lbT N z (ljS z j) (snM z) (paS z j))
  | _, _ => True
abbrev Uz_judgeLabel : CqC := fun As σ w τ => ∀ y, Pz_judgeLabel y As σ → Qz_judgeLabel y As σ w τ
set_option maxHeartbeats 4000000 in
theorem pz_judgeLabel (y : (Int → Int) × (Nat → Nat) × (Nat → Nat) × (Nat → Nat) × (Nat → Nat) × ZS × TbT × MfT × Nat × Nat) : PbC KX3_judgeLabel [(84, TrP, EqC 84), (118, TrP, EqC 118)] [(84, Uz_isSameName), (118, Uz_tell)] (fun As σ => Pz_judgeLabel y As σ ∧ cnC σ ≤ 1000000 ∧ ∃ w τ, uqC quL 85 As σ w τ) (Qz_judgeLabel y) := by sorry
theorem wz_judgeLabel : ∀ (L : Nat) (As : List AvC) (σ : CsC) (w : Option AvC) (τ : CsC), EvF L 85 As σ w τ → Uz_judgeLabel As σ w τ := by sorry
/-! the class's judge: jumps, returns, switches -/
/-- out of the S that was found: what continue means by it -/
def rsT (z : ZS) (on : Bool) (y : Int) : Int := if on = true ∧ 0 ≤ y ∧ kjS z y.toNat = 6 then (if kjS z (y.toNat + 1) = 58 ∨ kjS z (y.toNat + 1) = 59 ∨ kjS z (y.toNat + 1) = 60 then y + 1 else -1) else y
theorem rs_neg {z : ZS} {on : Bool} {y : Int} (h : y < 0) : rsT z on y = y := if_neg (fun q => by omega)
theorem rs_off {z : ZS} {y : Int} : rsT z false y = y := if_neg (fun q => by cases q.1)
theorem tg_lp {N : Int → Int} {z : ZS} {on : Bool} {t : Int} {k j : Nat} (ht : t < 0) (h : kjS z j = 58 ∨ kjS z j = 59 ∨ kjS z j = 60 ∨ (on = false ∧ kjS z j = 61)) : tgZ N z.2.2.1.2 on t (k + 1) (j : Int) = (j : Int) := by sorry
theorem tg_go {N : Int → Int} {z : ZS} {on : Bool} {t : Int} {k j : Nat} (ht : t < 0) (h : ¬ (kjS z j = 58 ∨ kjS z j = 59 ∨ kjS z j = 60 ∨ (on = false ∧ kjS z j = 61))) : tgZ N z.2.2.1.2 on t (k + 1) (j : Int) = tgZ N z.2.2.1.2 on t k (paS z j) := by sorry
theorem tg_nm {N : Int → Int} {z : ZS} {on : Bool} {t : Int} {k j : Nat} (ht : ¬ t < 0) (h : kjS z j = 6 ∧ N (ljS z j) = N t) : tgZ N z.2.2.1.2 on t (k + 1) (j : Int) = rsT z on (j : Int) := by sorry
theorem tg_ng {N : Int → Int} {z : ZS} {on : Bool} {t : Int} {k j : Nat} (ht : ¬ t < 0) (h : ¬ (kjS z j = 6 ∧ N (ljS z j) = N t)) : tgZ N z.2.2.1.2 on t (k + 1) (j : Int) = tgZ N z.2.2.1.2 on t k (paS z j) := by sorry
theorem rs_lp {z : ZS} {on : Bool} {j : Nat} (h : ¬ kjS z j = 6) : rsT z on (j : Int) = (j : Int) := by sorry
theorem FrE.pR2 {M : List Nat} {σ τ υ : CsC} {a k : Nat} {v : Option Nat} (h : FrE M σ τ) (hk : M.elem k = true) (e : pRC τ a k v = υ) : FrE M σ υ := by sorry
theorem erx_pR {E : Nat → Nat} {τ υ : CsC} {o k : Nat} {v : Option Nat} (e : pRC τ o k v = υ) : fIC υ (E 1) 217 = fIC τ (E 1) 217 := by sorry
theorem pRx_g {τ υ : CsC} {o k : Nat} {v : Option Nat} (e : pRC τ o k v = υ) : fRC υ o k = v := by sorry
theorem pRx_n {τ υ : CsC} {o a k : Nat} {v : Option Nat} (e : pRC τ o k v = υ) (h : a ≠ o) : fRC υ a k = fRC τ a k := by sorry
/-- return: m the method -/
def rtT' (z : ZS) (T : TbT) (m : MtT) (j : Nat) : Prop := (xjS z j < 0 ↔ m.2.1 = 5) ∧ (0 ≤ xjS z j → ftT (T.1 (xjS z j).toNat) m.2.1)
/-- S's in a row -/
def RwZ (z : ZS) : Int → List Nat → Prop
  | x, [] => x < 0
  | x, j :: l => x = (j : Int) ∧ j < snM z ∧ RwZ z (njS z j) l
/-- a case, behind those of a row -/
def cvZ (z : ZS) (T : TbT) (v : Int64) (u : Nat) : Prop := kjS z u = 62 ∧ 0 ≤ xjS z u ∧ ¬ (T.1 (xjS z u).toNat).2.1 = 0 ∧ (T.1 (xjS z u).toNat).2.2.1 = v
def csT' (z : ZS) (T : TbT) (ty : Int) (ahd : List Nat) (j : Nat) : Prop := 0 ≤ xjS z j → (¬ (T.1 (xjS z j).toNat).2.1 = 0 ∧ ftT (T.1 (xjS z j).toNat) ty) ∧ ∀ u ∈ ahd, ¬ cvZ z T (T.1 (xjS z j).toNat).2.2.1 u
/-- the row of a switch: what stands ahead, from there on -/
def swT' (z : ZS) (T : TbT) (ty : Int) : List Nat → List Nat → Prop
  | _, [] => True
  | ahd, j :: l => (kjS z j = 62 → csT' z T ty ahd j) ∧ (kjS z j = 63 → ∀ u ∈ ahd, ¬ kjS z u = 63) ∧ swT' z T ty (ahd ++ [j]) l
abbrev Pz_judgeJump : ((Int → Int) × (Nat → Nat) × (Nat → Nat) × (Nat → Nat) × (Nat → Nat) × ZS × TbT × MfT × Nat × Nat) → CpC := fun y As σ => match y with
  | (N, E, A, B, V, z, T, ms, nm, j) => ∃ (p1 : Nat), As = [.inr (.inr (some (E 3))), .inr (.inr (some p1))] ∧ (SsC E A B σ z T ms nm) ∧ (NmC N E σ) ∧ (WfS z T) ∧ (j < snM z) ∧ (p1 = B j) ∧ (fRC σ p1 281 = none) ∧ (kjS z j = 64 ∨ kjS z j = 65)
abbrev Qz_judgeJump : ((Int → Int) × (Nat → Nat) × (Nat → Nat) × (Nat → Nat) × (Nat → Nat) × ZS × TbT × MfT × Nat × Nat) → CqC := fun y As σ w τ => match y, As with
  | (N, E, A, B, V, z, T, ms, nm, j), [_, .inr (.inr (some p1))] => w = none ∧ (erC E τ ↔ erC E σ ∨ tjT N z j < 0) ∧ fRC τ p1 281 = opA B (tjT N z j) ∧ ∀ a, a < cnC σ → a ≠ p1 → fRC τ a 281 = fRC σ a 281
  | _, _ => True
abbrev Uz_judgeJump : CqC := fun As σ w τ => ∀ y, Pz_judgeJump y As σ → Qz_judgeJump y As σ w τ
set_option maxHeartbeats 4000000 in
theorem pz_judgeJump (y : (Int → Int) × (Nat → Nat) × (Nat → Nat) × (Nat → Nat) × (Nat → Nat) × ZS × TbT × MfT × Nat × Nat) : PbC KX3_judgeJump [(118, TrP, EqC 118), (179, TrP, EqC 179), (84, TrP, EqC 84)] [(118, Uz_tell), (179, Uz_isLoop), (84, Uz_isSameName)] (fun As σ => Pz_judgeJump y As σ ∧ cnC σ ≤ 1000000 ∧ ∃ w τ, uqC quL 83 As σ w τ) (Qz_judgeJump y) := by sorry
theorem wz_judgeJump : ∀ (L : Nat) (As : List AvC) (σ : CsC) (w : Option AvC) (τ : CsC), EvF L 83 As σ w τ → Uz_judgeJump As σ w τ := by sorry
abbrev Pz_judgeReturn : ((Int → Int) × (Nat → Nat) × (Nat → Nat) × (Nat → Nat) × (Nat → Nat) × ZS × TbT × MfT × Nat × Nat × MtT) → CpC := fun y As σ => match y with
  | (N, E, A, B, V, z, T, ms, nm, j, m) => ∃ (p1 : Nat), As = [.inr (.inr (some (E 3))), .inr (.inr (some p1))] ∧ (SsC E A B σ z T ms nm) ∧ (NmC N E σ) ∧ (WfS z T) ∧ (j < snM z) ∧ (p1 = B j) ∧ (0 ≤ ljS z j ∧ ms (ljS z j).toNat = some m)
abbrev Qz_judgeReturn : ((Int → Int) × (Nat → Nat) × (Nat → Nat) × (Nat → Nat) × (Nat → Nat) × ZS × TbT × MfT × Nat × Nat × MtT) → CqC := fun y As σ w τ => match y, As with
  | (N, E, A, B, V, z, T, ms, nm, j, m), [_, .inr (.inr (some p1))] => w = none ∧ (erC E τ ↔ erC E σ ∨ ¬ rtT' z T m j)
  | _, _ => True
abbrev Uz_judgeReturn : CqC := fun As σ w τ => ∀ y, Pz_judgeReturn y As σ → Qz_judgeReturn y As σ w τ
set_option maxHeartbeats 4000000 in
theorem pz_judgeReturn (y : (Int → Int) × (Nat → Nat) × (Nat → Nat) × (Nat → Nat) × (Nat → Nat) × ZS × TbT × MfT × Nat × Nat × MtT) : PbC KX3_judgeReturn [(119, TrP, EqC 119), (118, TrP, EqC 118), (52, TrP, EqC 52), (75, TrP, EqC 75), (62, TrP, EqC 62)] [(119, Uz_methodOf), (118, Uz_tell), (52, Uz_isFaulty), (75, Uz_fits), (62, Uz_isWanted)] (fun As σ => Pz_judgeReturn y As σ ∧ cnC σ ≤ 1000000 ∧ ∃ w τ, uqC quL 86 As σ w τ) (Qz_judgeReturn y) := by sorry
theorem wz_judgeReturn : ∀ (L : Nat) (As : List AvC) (σ : CsC) (w : Option AvC) (τ : CsC), EvF L 86 As σ w τ → Uz_judgeReturn As σ w τ := by sorry
/-! the class's judge: switches, one S of the list -/
def BiC (B : Nat → Nat) (z : ZS) : Prop := ∀ a b, a < snM z → b < snM z → B a = B b → a = b
theorem RwZ.nn {z : ZS} {x : Int} {a b : List Nat} {j : Nat} (h : RwZ z x (a ++ j :: b)) : 0 ≤ x := by sorry
theorem RwZ.u {z : ZS} : ∀ {l m : List Nat} {x : Int}, RwZ z x l → RwZ z x m → l = m := by sorry
def csB (a b : TvT) : Prop := ¬ a.2.1 = 0 ∧ ftT a b.1
def FtD (a : TvT) (t : Int) : Prop := ftT a t
def swP (z : ZS) (T : TbT) (j : Nat) : Prop := 0 ≤ xjS z j → (1 ≤ (T.1 (xjS z j).toNat).1 ∧ (T.1 (xjS z j).toNat).1 ≤ 3) ∧ ∀ l, RwZ z (bjS z j) l → swT' z T (T.1 (xjS z j).toNat).1 [] l
/-- whether S j is as wanted -/
def skT (N : Int → Int) (z : ZS) (T : TbT) (ms : MfT) (j : Nat) : Prop :=
  ((kjS z j = 56 ∨ kjS z j = 58 ∨ kjS z j = 59 ∨ kjS z j = 60) → 0 ≤ xjS z j → (T.1 (xjS z j).toNat).1 = 0) ∧ (kjS z j = 61 → swP z T j) ∧ ((kjS z j = 64 ∨ kjS z j = 65) → 0 ≤ tjT N z j) ∧ (kjS z j = 66 → ∀ m, ms (ljS z j).toNat = some m → rtT' z T m j) ∧ (kjS z j = 67 → 0 ≤ xjS z j → ftT (T.1 (xjS z j).toNat) 3) ∧ (kjS z j = 6 → lbT N z (ljS z j) (snM z) (paS z j)) ∧ ((kjS z j = 90 ∨ kjS z j = 94) → 0 ≤ xjS z j → (xth z (xjS z j).toNat).1.1 = 9 ∨ (xth z (xjS z j).toNat).1.1 = 6 ∨ (xth z (xjS z j).toNat).1.1 = 10)
theorem sk_k {N : Int → Int} {z : ZS} {T : TbT} {ms : MfT} {j : Nat} {P : Prop} (h1 : (kjS z j = 56 ∨ kjS z j = 58 ∨ kjS z j = 59 ∨ kjS z j = 60) → (P ↔ (0 ≤ xjS z j → (T.1 (xjS z j).toNat).1 = 0))) (h2 : kjS z j = 61 → (P ↔ swP z T j)) (h3 : (kjS z j = 64 ∨ kjS z j = 65) → (P ↔ 0 ≤ tjT N z j)) (h4 : kjS z j = 66 → (P ↔ ∀ m, ms (ljS z j).toNat = some m → rtT' z T m j)) (h5 : kjS z j = 67 → (P ↔ (0 ≤ xjS z j → ftT (T.1 (xjS z j).toNat) 3))) (h6 : kjS z j = 6 → (P ↔ lbT N z (ljS z j) (snM z) (paS z j))) (h7 : (kjS z j = 90 ∨ kjS z j = 94) → (P ↔ (0 ≤ xjS z j → (xth z (xjS z j).toNat).1.1 = 9 ∨ (xth z (xjS z j).toNat).1.1 = 6 ∨ (xth z (xjS z j).toNat).1.1 = 10))) (h8 : ¬ (kjS z j = 56 ∨ kjS z j = 58 ∨ kjS z j = 59 ∨ kjS z j = 60) → ¬ kjS z j = 61 → ¬ (kjS z j = 64 ∨ kjS z j = 65) → ¬ kjS z j = 66 → ¬ kjS z j = 67 → ¬ kjS z j = 6 → ¬ (kjS z j = 90 ∨ kjS z j = 94) → P) : P ↔ skT N z T ms j := by sorry
def swQ (z : ZS) (T : TbT) (kj : Nat) (l0 : List Nat) : Prop := (1 ≤ (T.1 kj).1 ∧ (T.1 kj).1 ≤ 3) ∧ swT' z T (T.1 kj).1 [] l0
theorem sw_p {z : ZS} {T : TbT} {j kj : Nat} {l0 : List Nat} (h : xjS z j = (kj : Int)) (hr : RwZ z (bjS z j) l0) : swP z T j ↔ swQ z T kj l0 := by sorry
def dfH (z : ZS) (d : Int) (ahd : List Nat) : Prop := (d = 1 ∧ ∃ u ∈ ahd, kjS z u = 63) ∨ (d = 0 ∧ ∀ u ∈ ahd, ¬ kjS z u = 63)
theorem sw_c {z : ZS} {T : TbT} {ty : Int} {ahd l : List Nat} {j : Nat} : swT' z T ty ahd (j :: l) ↔ (kjS z j = 62 → csT' z T ty ahd j) ∧ (kjS z j = 63 → ∀ u ∈ ahd, ¬ kjS z u = 63) ∧ swT' z T ty (ahd ++ [j]) l := Iff.rfl
theorem sw_1 {P Q : Prop} {E : Nat → Nat} {s t : CsC} {z : ZS} {T : TbT} {ty : Int} {ahd l : List Nat} {j : Nat} (h : P ↔ (erC E s ∨ ¬ (Q ∧ swT' z T ty ahd (j :: l)))) (hk : kjS z j = 62) (he : erC E t ↔ erC E s ∨ ¬ csT' z T ty ahd j) : P ↔ (erC E t ∨ ¬ (Q ∧ swT' z T ty (ahd ++ [j]) l)) := by sorry
theorem sw_2 {P Q : Prop} {E : Nat → Nat} {s : CsC} {z : ZS} {T : TbT} {ty : Int} {ahd l : List Nat} {j : Nat} (h : P ↔ (erC E s ∨ ¬ (Q ∧ swT' z T ty ahd (j :: l)))) (hk : ¬ kjS z j = 62) (hd : kjS z j = 63 → ∀ u ∈ ahd, ¬ kjS z u = 63) : P ↔ (erC E s ∨ ¬ (Q ∧ swT' z T ty (ahd ++ [j]) l)) := by sorry
theorem sw_3 {P Q : Prop} {E : Nat → Nat} {s t : CsC} {z : ZS} {T : TbT} {ty : Int} {ahd l : List Nat} {j : Nat} (h : P ↔ (erC E s ∨ ¬ (Q ∧ swT' z T ty ahd (j :: l)))) (hk : kjS z j = 63) (hd : ∃ u ∈ ahd, kjS z u = 63) (hb : erC E t) : P ↔ (erC E t ∨ ¬ (Q ∧ swT' z T ty (ahd ++ [j]) l)) := by sorry
theorem s281 {E A B V : Nat → Nat} {σ τ : CsC} {z : ZS} {N : Int → Int} {j p : Nat} (f : FrE [217, 218] σ τ) (hl : p < cnC σ) (h : fRC σ p 281 = none) (hk : ¬ (kjS z j = 64 ∨ kjS z j = 65)) : (fRC τ p 281 = if kjS z j = 64 ∨ kjS z j = 65 then opA B (tjT N z j) else none) ∧ ∀ a, a < cnC σ → a ≠ p → fRC τ a 281 = fRC σ a 281 := by sorry
abbrev Pz_judgeCase : ((Int → Int) × (Nat → Nat) × (Nat → Nat) × (Nat → Nat) × (Nat → Nat) × ZS × TbT × MfT × Nat × Nat × Nat × List Nat × List Nat) → CpC := fun y As σ => match y with
  | (N, E, A, B, V, z, T, ms, nm, j, jc, ahd, rst) => ∃ (p1 : Nat) (p2 : Nat), As = [.inr (.inr (some (E 3))), .inr (.inr (some p1)), .inr (.inr (some p2))] ∧ (SsC E A B σ z T ms nm) ∧ (NmC N E σ) ∧ (WfS z T) ∧ (j < snM z) ∧ (p1 = B j) ∧ (jc < snM z) ∧ (p2 = B jc) ∧ (BiC B z) ∧ (RwZ z (bjS z j) (ahd ++ jc :: rst)) ∧ (jc ∉ ahd) ∧ (0 ≤ xjS z j)
abbrev Qz_judgeCase : ((Int → Int) × (Nat → Nat) × (Nat → Nat) × (Nat → Nat) × (Nat → Nat) × ZS × TbT × MfT × Nat × Nat × Nat × List Nat × List Nat) → CqC := fun y As σ w τ => match y, As with
  | (N, E, A, B, V, z, T, ms, nm, j, jc, ahd, rst), [_, .inr (.inr (some p1)), .inr (.inr (some p2))] => w = none ∧ (erC E τ ↔ erC E σ ∨ ¬ csT' z T (T.1 (xjS z j).toNat).1 ahd jc)
  | _, _ => True
abbrev Uz_judgeCase : CqC := fun As σ w τ => ∀ y, Pz_judgeCase y As σ → Qz_judgeCase y As σ w τ
set_option maxHeartbeats 4000000 in
theorem pz_judgeCase (y : (Int → Int) × (Nat → Nat) × (Nat → Nat) × (Nat → Nat) × (Nat → Nat) × ZS × TbT × MfT × Nat × Nat × Nat × List Nat × List Nat) : PbC KX3_judgeCase [(52, TrP, EqC 52), (75, TrP, EqC 75), (118, TrP, EqC 118)] [(52, Uz_isFaulty), (75, Uz_fits), (118, Uz_tell)] (fun As σ => Pz_judgeCase y As σ ∧ cnC σ ≤ 1000000 ∧ ∃ w τ, uqC quL 82 As σ w τ) (Qz_judgeCase y) := by sorry
theorem wz_judgeCase : ∀ (L : Nat) (As : List AvC) (σ : CsC) (w : Option AvC) (τ : CsC), EvF L 82 As σ w τ → Uz_judgeCase As σ w τ := by sorry
abbrev Pz_judgeSwitch : ((Int → Int) × (Nat → Nat) × (Nat → Nat) × (Nat → Nat) × (Nat → Nat) × ZS × TbT × MfT × Nat × Nat × List Nat) → CpC := fun y As σ => match y with
  | (N, E, A, B, V, z, T, ms, nm, j, l0) => ∃ (p1 : Nat), As = [.inr (.inr (some (E 3))), .inr (.inr (some p1))] ∧ (SsC E A B σ z T ms nm) ∧ (NmC N E σ) ∧ (WfS z T) ∧ (j < snM z) ∧ (p1 = B j) ∧ (BiC B z) ∧ (RwZ z (bjS z j) l0) ∧ (l0.Nodup)
abbrev Qz_judgeSwitch : ((Int → Int) × (Nat → Nat) × (Nat → Nat) × (Nat → Nat) × (Nat → Nat) × ZS × TbT × MfT × Nat × Nat × List Nat) → CqC := fun y As σ w τ => match y, As with
  | (N, E, A, B, V, z, T, ms, nm, j, l0), [_, .inr (.inr (some p1))] => w = none ∧ (erC E τ ↔ erC E σ ∨ ¬ swP z T j)
  | _, _ => True
abbrev Uz_judgeSwitch : CqC := fun As σ w τ => ∀ y, Pz_judgeSwitch y As σ → Qz_judgeSwitch y As σ w τ
set_option maxHeartbeats 4000000 in
theorem pz_judgeSwitch (y : (Int → Int) × (Nat → Nat) × (Nat → Nat) × (Nat → Nat) × (Nat → Nat) × ZS × TbT × MfT × Nat × Nat × List Nat) : PbC KX3_judgeSwitch [(52, TrP, EqC 52), (62, TrP, EqC 62), (82, TrP, EqC 82), (118, TrP, EqC 118)] [(52, Uz_isFaulty), (62, Uz_isWanted), (82, Uz_judgeCase), (118, Uz_tell)] (fun As σ => Pz_judgeSwitch y As σ ∧ cnC σ ≤ 1000000 ∧ ∃ w τ, uqC quL 81 As σ w τ) (Qz_judgeSwitch y) := by sorry
theorem wz_judgeSwitch : ∀ (L : Nat) (As : List AvC) (σ : CsC) (w : Option AvC) (τ : CsC), EvF L 81 As σ w τ → Uz_judgeSwitch As σ w τ := by sorry
abbrev Pz_judgeStatement : ((Int → Int) × (Nat → Nat) × (Nat → Nat) × (Nat → Nat) × (Nat → Nat) × ZS × TbT × MfT × Nat × Nat) → CpC := fun y As σ => match y with
  | (N, E, A, B, V, z, T, ms, nm, j) => ∃ (p1 : Nat), As = [.inr (.inr (some (E 3))), .inr (.inr (some p1))] ∧ (SsC E A B σ z T ms nm) ∧ (NmC N E σ) ∧ (WfS z T) ∧ (j < snM z) ∧ (p1 = B j) ∧ (BiC B z) ∧ (∀ j, j < snM z → kjS z j = 61 → ∃ l, RwZ z (bjS z j) l ∧ l.Nodup) ∧ (∀ j, j < snM z → kjS z j = 66 → 0 ≤ ljS z j ∧ ∃ m, ms (ljS z j).toNat = some m) ∧ (fRC σ p1 281 = none)
abbrev Qz_judgeStatement : ((Int → Int) × (Nat → Nat) × (Nat → Nat) × (Nat → Nat) × (Nat → Nat) × ZS × TbT × MfT × Nat × Nat) → CqC := fun y As σ w τ => match y, As with
  | (N, E, A, B, V, z, T, ms, nm, j), [_, .inr (.inr (some p1))] => w = none ∧ (erC E τ ↔ erC E σ ∨ ¬ skT N z T ms j) ∧ (fRC τ p1 281 = if kjS z j = 64 ∨ kjS z j = 65 then opA B (tjT N z j) else none) ∧ ∀ a, a < cnC σ → a ≠ p1 → fRC τ a 281 = fRC σ a 281
  | _, _ => True
abbrev Uz_judgeStatement : CqC := fun As σ w τ => ∀ y, Pz_judgeStatement y As σ → Qz_judgeStatement y As σ w τ
set_option maxHeartbeats 4000000 in
theorem pz_judgeStatement (y : (Int → Int) × (Nat → Nat) × (Nat → Nat) × (Nat → Nat) × (Nat → Nat) × ZS × TbT × MfT × Nat × Nat) : PbC KX3_judgeStatement [(85, TrP, EqC 85), (52, TrP, EqC 52), (62, TrP, EqC 62), (81, TrP, EqC 81), (83, TrP, EqC 83), (86, TrP, EqC 86), (75, TrP, EqC 75), (18, TrP, EqC 18), (118, TrP, EqC 118)] [(85, Uz_judgeLabel), (52, Uz_isFaulty), (62, Uz_isWanted), (81, Uz_judgeSwitch), (83, Uz_judgeJump), (86, Uz_judgeReturn), (75, Uz_fits), (18, Uz_acts), (118, Uz_tell)] (fun As σ => Pz_judgeStatement y As σ ∧ cnC σ ≤ 1000000 ∧ ∃ w τ, uqC quL 80 As σ w τ) (Qz_judgeStatement y) := by sorry
theorem wz_judgeStatement : ∀ (L : Nat) (As : List AvC) (σ : CsC) (w : Option AvC) (τ : CsC), EvF L 80 As σ w τ → Uz_judgeStatement As σ w τ := by sorry
/-! REACHED, purely, as the class goes -/
def bZI (b : Bool) : Int := if b = true then 1 else 0
theorem bZI_t {b : Bool} (h : ¬ bZI b = 0) : b = true := by sorry
theorem bZI_f {b : Bool} (h : ¬ bZI b = 1) : b = false := by sorry
theorem bZI_01 (b : Bool) : bZI b = 0 ∨ bZI b = 1 := by sorry
/-- ends, broken, continued, whether an ERROR is told -/
abbrev RR : Type := (Nat → Bool) × (Nat → Bool) × (Nat → Bool) × Bool
def rrE (j : Nat) (b : Bool) (r : RR) : RR := (fun k => if k = j then b else r.1 k, r.2)
def rrB (j : Nat) (r : RR) : RR := (r.1, fun k => if k = j then true else r.2.1 k, r.2.2)
def rrC (j : Nat) (r : RR) : RR := (r.1, r.2.1, fun k => if k = j then true else r.2.2.1 k, r.2.2.2)
def rrX (r : RR) : RR := (r.1, r.2.1, r.2.2.1, true)
def lvS (z : ZS) (j : Nat) : Int := (reS z j).1.2.2.1
/-- whether what leaves it has to go through a finally -/
def hfA (z : ZS) (t : Nat) : Bool := decide (kjS z t = 92) && decide (0 ≤ paS z t) && decide (0 ≤ gjS z (paS z t).toNat) && !decide (gjS z (paS z t).toNat = (t : Int))
/-- whether a jump gets from t to where it leads: no finally on its way that does not end -/
def mtF (z : ZS) (en : Nat → Bool) (tg : Int) : Nat → Int → Bool
  | 0, _ => true
  | k + 1, t => if t < 0 then true else if t = tg then true else if (hfA z t.toNat && !(en (gjS z (paS z t.toNat).toNat).toNat)) = true then false else mtF z en tg k (paS z t.toNat)
def mkR (N : Int → Int) (z : ZS) (j : Nat) (r : RR) : RR := if mtF z r.1 (tjT N z j) (snM z) (j : Int) = false then r else if tjT N z j < 0 then r else if kjS z j = 64 then rrB (tjT N z j).toNat r else rrC (tjT N z j).toNat r
def alwT (z : ZS) (T : TbT) (j : Nat) (v : Int) : Bool := if xjS z j < 0 then decide (v = 1) else decide (¬ (T.1 (xjS z j).toNat).2.1 = 0) && decide ((T.1 (xjS z j).toNat).2.2.1 = (Int32.ofInt v).toInt64)
/-- rows, a switch's rows, S's -/
abbrev RcT : Type := (Int → Bool → RR → Bool × RR) × (Int → Bool → Bool → RR → Bool × Bool × RR) × (Nat → Bool → RR → Bool × RR)
/-- the row of a body or block -/
def rwR (F : RcT) (z : ZS) (j : Nat) (r : RR) : Bool × RR := (fun (q : Bool × RR) => (q.1, rrE j q.1 q.2)) (F.1 (bjS z j) true r)
def bdR (F : RcT) (z : ZS) (j : Nat) (a : Bool) (r : RR) : Bool × RR := if bjS z j < 0 then (false, r) else F.2.2 (bjS z j).toNat a r
def ifR (F : RcT) (z : ZS) (j : Nat) (r : RR) : Bool × RR := (fun (q : Bool × RR) => if ojS z j < 0 then (true, q.2) else (fun (p : Bool × RR) => (p.1 || q.1, p.2)) (F.2.2 (ojS z j).toNat true q.2)) (bdR F z j true r)
def laR (F : RcT) (z : ZS) (j : Nat) (r : RR) : Bool × RR := (fun (q : Bool × RR) => (q.1 || q.2.2.1 j, q.2)) (bdR F z j true r)
def whR (F : RcT) (z : ZS) (T : TbT) (j : Nat) (r : RR) : Bool × RR := (fun (q : Bool × RR) => (!(alwT z T j 1) || q.2.2.1 j, q.2)) (bdR F z j (!(alwT z T j 0)) r)
def doR (F : RcT) (z : ZS) (T : TbT) (j : Nat) (r : RR) : Bool × RR := (fun (q : Bool × RR) => (((q.1 || q.2.2.2.1 j) && !(alwT z T j 1)) || q.2.2.1 j, q.2)) (bdR F z j true r)
def swR (F : RcT) (z : ZS) (j : Nat) (r : RR) : Bool × RR := (fun (q : Bool × Bool × RR) => ((q.1 || !q.2.1) || q.2.2.2.1 j, q.2.2)) (F.2.1 (bjS z j) false false r)
def tyR (F : RcT) (z : ZS) (j : Nat) (r : RR) : Bool × RR :=
  (fun (a : Bool × RR) => (fun (b : Bool × RR) => (fun (c : Bool × RR) => (c.1 && a.1, c.2)) (if ojS z j < 0 then b else (fun (q : Bool × RR) => (b.1 || q.1, q.2)) (rwR F z (ojS z j).toNat b.2)))
    (if bjS z j < 0 then (false, a.2) else rwR F z (bjS z j).toNat a.2)) (if gjS z j < 0 then (true, r) else rwR F z (gjS z j).toNat r)
/-- inside of an S -/
def inR (F : RcT) (N : Int → Int) (z : ZS) (T : TbT) (j : Nat) (r : RR) : Bool × RR :=
  if kjS z j = 2 then rwR F z j r
  else if kjS z j = 6 then laR F z j r
  else if kjS z j = 56 then ifR F z j r
  else if kjS z j = 58 ∨ kjS z j = 60 then whR F z T j r
  else if kjS z j = 59 then doR F z T j r
  else if kjS z j = 61 then swR F z j r
  else if kjS z j = 68 then tyR F z j r
  else if kjS z j = 64 ∨ kjS z j = 65 then (false, mkR N z j r)
  else (!(decide (kjS z j = 66)) && !(decide (kjS z j = 67)), r)
theorem in_b {F : RcT} {N : Int → Int} {z : ZS} {T : TbT} {j : Nat} {r : RR} (h : kjS z j = 2) : inR F N z T j r = rwR F z j r := by sorry
theorem in_l {F : RcT} {N : Int → Int} {z : ZS} {T : TbT} {j : Nat} {r : RR} (h : kjS z j = 6) : inR F N z T j r = laR F z j r := by sorry
theorem in_i {F : RcT} {N : Int → Int} {z : ZS} {T : TbT} {j : Nat} {r : RR} (h : kjS z j = 56) : inR F N z T j r = ifR F z j r := by sorry
theorem in_w {F : RcT} {N : Int → Int} {z : ZS} {T : TbT} {j : Nat} {r : RR} (h : kjS z j = 58 ∨ kjS z j = 60) : inR F N z T j r = whR F z T j r := by sorry
theorem in_d {F : RcT} {N : Int → Int} {z : ZS} {T : TbT} {j : Nat} {r : RR} (h : kjS z j = 59) : inR F N z T j r = doR F z T j r := by sorry
theorem in_s {F : RcT} {N : Int → Int} {z : ZS} {T : TbT} {j : Nat} {r : RR} (h : kjS z j = 61) : inR F N z T j r = swR F z j r := by sorry
theorem in_t {F : RcT} {N : Int → Int} {z : ZS} {T : TbT} {j : Nat} {r : RR} (h : kjS z j = 68) : inR F N z T j r = tyR F z j r := by sorry
theorem in_j {F : RcT} {N : Int → Int} {z : ZS} {T : TbT} {j : Nat} {r : RR} (h : kjS z j = 64 ∨ kjS z j = 65) : inR F N z T j r = (false, mkR N z j r) := by sorry
theorem in_o {F : RcT} {N : Int → Int} {z : ZS} {T : TbT} {j : Nat} {r : RR} (h : ¬ (kjS z j = 2 ∨ kjS z j = 6 ∨ kjS z j = 56 ∨ (kjS z j = 58 ∨ kjS z j = 60) ∨ kjS z j = 59 ∨ kjS z j = 61 ∨ kjS z j = 68 ∨ kjS z j = 64 ∨ kjS z j = 65)) : inR F N z T j r = (!(decide (kjS z j = 66)) && !(decide (kjS z j = 67)), r) := by sorry
def stRc (F : RcT) (N : Int → Int) (z : ZS) (T : TbT) (j : Nat) (a : Bool) (r : RR) : Bool × RR :=
  if a = true then (if lvS z j ≤ 20 then (fun (q : Bool × RR) => (q.1, rrE j q.1 q.2)) (inR F N z T j r) else (false, rrE j false r)) else (false, rrX r)
def rcF (N : Int → Int) (z : ZS) (T : TbT) : Nat → RcT
  | 0 => (fun _ a r => (a, r), fun _ a d r => (a, d, r), fun _ a r => (a, r))
  | n + 1 => (fun x a r => if x < 0 then (a, r) else (fun (q : Bool × RR) => (rcF N z T n).1 (njS z x.toNat) q.1 q.2) ((rcF N z T n).2.2 x.toNat a r),
      fun x a d r => if x < 0 then (a, d, r) else if kjS z x.toNat = 62 ∨ kjS z x.toNat = 63 then (rcF N z T n).2.1 (njS z x.toNat) true (d || decide (kjS z x.toNat = 63)) r else (fun (q : Bool × RR) => (rcF N z T n).2.1 (njS z x.toNat) q.1 d q.2) ((rcF N z T n).2.2 x.toNat a r),
      stRc (rcF N z T n) N z T)
theorem rc_st {N : Int → Int} {z : ZS} {T : TbT} {n : Nat} : (rcF N z T (n + 1)).2.2 = stRc (rcF N z T n) N z T := rfl
theorem rc_r0 {N : Int → Int} {z : ZS} {T : TbT} {n : Nat} {x : Int} {a : Bool} {r : RR} (h : x < 0) : (rcF N z T n).1 x a r = (a, r) := by sorry
theorem rc_r1 {N : Int → Int} {z : ZS} {T : TbT} {n j : Nat} {a : Bool} {r : RR} : (rcF N z T (n + 1)).1 (j : Int) a r = (rcF N z T n).1 (njS z j) ((rcF N z T n).2.2 j a r).1 ((rcF N z T n).2.2 j a r).2 := by sorry
theorem rc_s0 {N : Int → Int} {z : ZS} {T : TbT} {n : Nat} {x : Int} {a d : Bool} {r : RR} (h : x < 0) : (rcF N z T n).2.1 x a d r = (a, d, r) := by sorry
theorem rc_s1 {N : Int → Int} {z : ZS} {T : TbT} {n j : Nat} {a d : Bool} {r : RR} (h : kjS z j = 62 ∨ kjS z j = 63) : (rcF N z T (n + 1)).2.1 (j : Int) a d r = (rcF N z T n).2.1 (njS z j) true (d || decide (kjS z j = 63)) r := by sorry
theorem rc_s2 {N : Int → Int} {z : ZS} {T : TbT} {n j : Nat} {a d : Bool} {r : RR} (h : ¬ (kjS z j = 62 ∨ kjS z j = 63)) : (rcF N z T (n + 1)).2.1 (j : Int) a d r = (rcF N z T n).2.1 (njS z j) ((rcF N z T n).2.2 j a r).1 d ((rcF N z T n).2.2 j a r).2 := by sorry
/-- links go up -/
def UpS (z : ZS) : Prop := ∀ j, j < snM z → (njS z j < 0 ∨ (j : Int) < njS z j) ∧ (bjS z j < 0 ∨ (j : Int) < bjS z j) ∧ (ojS z j < 0 ∨ (j : Int) < ojS z j) ∧ (gjS z j < 0 ∨ (j : Int) < gjS z j)
/-- what the class keeps of it -/
def RhC (E B : Nat → Nat) (σ : CsC) (z : ZS) (r : RR) : Prop := (∀ j, j < snM z → (fIC σ (B j) 282).toInt = bZI (r.1 j) ∧ (fIC σ (B j) 283).toInt = bZI (r.2.1 j) ∧ (fIC σ (B j) 284).toInt = bZI (r.2.2.1 j)) ∧ (erC E σ ↔ r.2.2.2 = true)
def PfC (E : Nat → Nat) (σ : CsC) : Prop := fRC σ (E 4) 90 = some (E 1) ∧ E 4 < cnC σ
theorem PfC.fr {E : Nat → Nat} {M : List Nat} {σ τ : CsC} (h : PfC E σ) (f : FrE M σ τ) (hM : [999, 90].all (fun k => !M.elem k) = true) : PfC E τ := by sorry
def TgC (N : Int → Int) (B : Nat → Nat) (σ : CsC) (z : ZS) : Prop := ∀ j, j < snM z → (kjS z j = 64 ∨ kjS z j = 65) → fRC σ (B j) 281 = opA B (tjT N z j) ∧ B j < cnC σ ∧ tjT N z j < (snM z : Int)
theorem TgC.fr {N : Int → Int} {B : Nat → Nat} {M : List Nat} {σ τ : CsC} {z : ZS} (h : TgC N B σ z) (f : FrE M σ τ) (hM : [999, 281].all (fun k => !M.elem k) = true) : TgC N B τ z := by sorry
theorem RhC.e {E B : Nat → Nat} {σ τ : CsC} {z : ZS} {r : RR} {j : Nat} {v : Int32} {b : Bool} (h : RhC E B σ z r) (hB : BiC B z) (hj : j < snM z) (e : pIC σ (B j) 282 v = τ) (hv : v.toInt = bZI b) : RhC E B τ z (rrE j b r) := by sorry
theorem RhC.b {E B : Nat → Nat} {σ τ : CsC} {z : ZS} {r : RR} {j : Nat} {v : Int32} (h : RhC E B σ z r) (hB : BiC B z) (hj : j < snM z) (e : pIC σ (B j) 283 v = τ) (hv : v.toInt = 1) : RhC E B τ z (rrB j r) := by sorry
theorem RhC.c {E B : Nat → Nat} {σ τ : CsC} {z : ZS} {r : RR} {j : Nat} {v : Int32} (h : RhC E B σ z r) (hB : BiC B z) (hj : j < snM z) (e : pIC σ (B j) 284 v = τ) (hv : v.toInt = 1) : RhC E B τ z (rrC j r) := by sorry
theorem RhC.x {E B : Nat → Nat} {σ τ : CsC} {z : ZS} {r : RR} (h : RhC E B σ z r) (f : FrE [217, 218] σ τ) (hl : ∀ j, j < snM z → B j < cnC σ) (hb : erC E τ) : RhC E B τ z (rrX r) := by sorry
theorem RhC.we {E B : Nat → Nat} {σ τ : CsC} {z : ZS} {r : RR} (h : RhC E B σ z r) (w : WeC σ τ) : RhC E B τ z r := by sorry
theorem FrE.pI2 {M : List Nat} {σ τ υ : CsC} {a k : Nat} {v : Int32} (h : FrE M σ τ) (hk : M.elem k = true) (e : pIC τ a k v = υ) : FrE M σ υ := by sorry
theorem mt_neg {z : ZS} {en : Nat → Bool} {tg : Int} {k : Nat} {x : Int} (h : x < 0) : mtF z en tg k x = true := by sorry
theorem mt_eq {z : ZS} {en : Nat → Bool} {tg : Int} {k : Nat} {x : Int} (h : x = tg) : mtF z en tg k x = true := by sorry
theorem mt_s {z : ZS} {en : Nat → Bool} {tg : Int} {k j : Nat} (h : ¬ (j : Int) = tg) : mtF z en tg (k + 1) (j : Int) = if (hfA z j && !(en (gjS z (paS z j).toNat).toNat)) = true then false else mtF z en tg k (paS z j) := by sorry
/-! the class's flow: REACHED -/
theorem ior_b {x y : Int32} {a b : Bool} (hx : x.toInt = bZI a) (hy : y.toInt = bZI b) : (x ||| y).toInt = bZI (a || b) := by sorry
abbrev Pz_hasFinallyAhead : ((Int → Int) × (Nat → Nat) × (Nat → Nat) × (Nat → Nat) × (Nat → Nat) × ZS × TbT × MfT × Nat × Nat) → CpC := fun y As σ => match y with
  | (N, E, A, B, V, z, T, ms, nm, j) => ∃ (p0 : Nat), As = [.inr (.inr (some p0))] ∧ (SsC E A B σ z T ms nm) ∧ (WfS z T) ∧ (BiC B z) ∧ (j < snM z) ∧ (p0 = B j)
abbrev Qz_hasFinallyAhead : ((Int → Int) × (Nat → Nat) × (Nat → Nat) × (Nat → Nat) × (Nat → Nat) × ZS × TbT × MfT × Nat × Nat) → CqC := fun y As σ w τ => match y, As with
  | (N, E, A, B, V, z, T, ms, nm, j), [.inr (.inr (some p0))] => ∃ r, w = some (.inl r) ∧ r.toInt = bZI (hfA z j) ∧ σ = τ
  | _, _ => True
abbrev Uz_hasFinallyAhead : CqC := fun As σ w τ => ∀ y, Pz_hasFinallyAhead y As σ → Qz_hasFinallyAhead y As σ w τ
set_option maxHeartbeats 4000000 in
theorem pz_hasFinallyAhead (y : (Int → Int) × (Nat → Nat) × (Nat → Nat) × (Nat → Nat) × (Nat → Nat) × ZS × TbT × MfT × Nat × Nat) : PbC KX8_hasFinallyAhead [] [] (fun As σ => Pz_hasFinallyAhead y As σ ∧ cnC σ ≤ 1000000 ∧ ∃ w τ, uqC quL 181 As σ w τ) (Qz_hasFinallyAhead y) := by sorry
theorem wz_hasFinallyAhead : ∀ (L : Nat) (As : List AvC) (σ : CsC) (w : Option AvC) (τ : CsC), EvF L 181 As σ w τ → Uz_hasFinallyAhead As σ w τ := by sorry
abbrev Pz_isAlways : ((Int → Int) × (Nat → Nat) × (Nat → Nat) × (Nat → Nat) × (Nat → Nat) × ZS × TbT × MfT × Nat × Nat) → CpC := fun y As σ => match y with
  | (N, E, A, B, V, z, T, ms, nm, j) => ∃ (p0 : Nat) (p1 : Int32), As = [.inr (.inr (some p0)), .inl p1] ∧ (SsC E A B σ z T ms nm) ∧ (WfS z T) ∧ (j < snM z) ∧ (p0 = B j)
abbrev Qz_isAlways : ((Int → Int) × (Nat → Nat) × (Nat → Nat) × (Nat → Nat) × (Nat → Nat) × ZS × TbT × MfT × Nat × Nat) → CqC := fun y As σ w τ => match y, As with
  | (N, E, A, B, V, z, T, ms, nm, j), [.inr (.inr (some p0)), .inl p1] => ∃ r, w = some (.inl r) ∧ r.toInt = bZI (alwT z T j p1.toInt) ∧ σ = τ
  | _, _ => True
abbrev Uz_isAlways : CqC := fun As σ w τ => ∀ y, Pz_isAlways y As σ → Qz_isAlways y As σ w τ
set_option maxHeartbeats 4000000 in
theorem pz_isAlways (y : (Int → Int) × (Nat → Nat) × (Nat → Nat) × (Nat → Nat) × (Nat → Nat) × ZS × TbT × MfT × Nat × Nat) : PbC KX8_isAlways [] [] (fun As σ => Pz_isAlways y As σ ∧ cnC σ ≤ 1000000 ∧ ∃ w τ, uqC quL 183 As σ w τ) (Qz_isAlways y) := by sorry
theorem wz_isAlways : ∀ (L : Nat) (As : List AvC) (σ : CsC) (w : Option AvC) (τ : CsC), EvF L 183 As σ w τ → Uz_isAlways As σ w τ := by sorry
abbrev Pz_markTarget : ((Int → Int) × (Nat → Nat) × (Nat → Nat) × (Nat → Nat) × (Nat → Nat) × ZS × TbT × MfT × Nat × Nat × RR) → CpC := fun y As σ => match y with
  | (N, E, A, B, V, z, T, ms, nm, j, r) => ∃ (p0 : Nat), As = [.inr (.inr (some p0))] ∧ (SsC E A B σ z T ms nm) ∧ (PfC E σ) ∧ (TgC N B σ z) ∧ (WfS z T ∧ UpS z ∧ BiC B z) ∧ (j < snM z) ∧ (p0 = B j) ∧ (RhC E B σ z r) ∧ (kjS z j = 64 ∨ kjS z j = 65)
abbrev Qz_markTarget : ((Int → Int) × (Nat → Nat) × (Nat → Nat) × (Nat → Nat) × (Nat → Nat) × ZS × TbT × MfT × Nat × Nat × RR) → CqC := fun y As σ w τ => match y, As with
  | (N, E, A, B, V, z, T, ms, nm, j, r), [.inr (.inr (some p0))] => w = none ∧ RhC E B τ z (mkR N z j r)
  | _, _ => True
abbrev Uz_markTarget : CqC := fun As σ w τ => ∀ y, Pz_markTarget y As σ → Qz_markTarget y As σ w τ
set_option maxHeartbeats 4000000 in
theorem pz_markTarget (y : (Int → Int) × (Nat → Nat) × (Nat → Nat) × (Nat → Nat) × (Nat → Nat) × ZS × TbT × MfT × Nat × Nat × RR) : PbC KX2_markTarget [(181, TrP, EqC 181)] [(181, Uz_hasFinallyAhead)] (fun As σ => Pz_markTarget y As σ ∧ cnC σ ≤ 1000000 ∧ ∃ w τ, uqC quL 27 As σ w τ) (Qz_markTarget y) := by sorry
theorem wz_markTarget : ∀ (L : Nat) (As : List AvC) (σ : CsC) (w : Option AvC) (τ : CsC), EvF L 27 As σ w τ → Uz_markTarget As σ w τ := by sorry
abbrev Pz_reach : ((Int → Int) × (Nat → Nat) × (Nat → Nat) × (Nat → Nat) × (Nat → Nat) × ZS × TbT × MfT × Nat × Nat × RR × Bool × Nat) → CpC := fun y As σ => match y with
  | (N, E, A, B, V, z, T, ms, nm, j, r, a, f) => ∃ (p1 : Nat) (p2 : Int32), As = [.inr (.inr (some (E 4))), .inr (.inr (some p1)), .inl p2] ∧ (SsC E A B σ z T ms nm) ∧ (PfC E σ) ∧ (TgC N B σ z) ∧ (WfS z T ∧ UpS z ∧ BiC B z) ∧ (j < snM z) ∧ (p1 = B j) ∧ (RhC E B σ z r) ∧ (p2.toInt = bZI a) ∧ (2 * snM z ≤ f + 2 * j)
abbrev Qz_reach : ((Int → Int) × (Nat → Nat) × (Nat → Nat) × (Nat → Nat) × (Nat → Nat) × ZS × TbT × MfT × Nat × Nat × RR × Bool × Nat) → CqC := fun y As σ w τ => match y, As with
  | (N, E, A, B, V, z, T, ms, nm, j, r, a, f), [_, .inr (.inr (some p1)), .inl p2] => ∃ v, w = some (.inl v) ∧ v.toInt = bZI ((rcF N z T f).2.2 j a r).1 ∧ RhC E B τ z ((rcF N z T f).2.2 j a r).2
  | _, _ => True
abbrev Uz_reach : CqC := fun As σ w τ => ∀ y, Pz_reach y As σ → Qz_reach y As σ w τ
abbrev Pz_reachInside : ((Int → Int) × (Nat → Nat) × (Nat → Nat) × (Nat → Nat) × (Nat → Nat) × ZS × TbT × MfT × Nat × Nat × RR × Nat) → CpC := fun y As σ => match y with
  | (N, E, A, B, V, z, T, ms, nm, j, r, f) => ∃ (p1 : Nat), As = [.inr (.inr (some (E 4))), .inr (.inr (some p1))] ∧ (SsC E A B σ z T ms nm) ∧ (PfC E σ) ∧ (TgC N B σ z) ∧ (WfS z T ∧ UpS z ∧ BiC B z) ∧ (j < snM z) ∧ (p1 = B j) ∧ (RhC E B σ z r) ∧ (2 * snM z ≤ f + 1 + 2 * j)
abbrev Qz_reachInside : ((Int → Int) × (Nat → Nat) × (Nat → Nat) × (Nat → Nat) × (Nat → Nat) × ZS × TbT × MfT × Nat × Nat × RR × Nat) → CqC := fun y As σ w τ => match y, As with
  | (N, E, A, B, V, z, T, ms, nm, j, r, f), [_, .inr (.inr (some p1))] => ∃ v, w = some (.inl v) ∧ v.toInt = bZI (inR (rcF N z T f) N z T j r).1 ∧ RhC E B τ z (inR (rcF N z T f) N z T j r).2
  | _, _ => True
abbrev Uz_reachInside : CqC := fun As σ w τ => ∀ y, Pz_reachInside y As σ → Qz_reachInside y As σ w τ
abbrev Pz_reachBody : ((Int → Int) × (Nat → Nat) × (Nat → Nat) × (Nat → Nat) × (Nat → Nat) × ZS × TbT × MfT × Nat × Nat × RR × Bool × Nat) → CpC := fun y As σ => match y with
  | (N, E, A, B, V, z, T, ms, nm, j, r, a, f) => ∃ (p1 : Nat) (p2 : Int32), As = [.inr (.inr (some (E 4))), .inr (.inr (some p1)), .inl p2] ∧ (SsC E A B σ z T ms nm) ∧ (PfC E σ) ∧ (TgC N B σ z) ∧ (WfS z T ∧ UpS z ∧ BiC B z) ∧ (j < snM z) ∧ (p1 = B j) ∧ (RhC E B σ z r) ∧ (p2.toInt = bZI a) ∧ (2 * snM z ≤ f + 1 + 2 * j)
abbrev Qz_reachBody : ((Int → Int) × (Nat → Nat) × (Nat → Nat) × (Nat → Nat) × (Nat → Nat) × ZS × TbT × MfT × Nat × Nat × RR × Bool × Nat) → CqC := fun y As σ w τ => match y, As with
  | (N, E, A, B, V, z, T, ms, nm, j, r, a, f), [_, .inr (.inr (some p1)), .inl p2] => ∃ v, w = some (.inl v) ∧ v.toInt = bZI (bdR (rcF N z T f) z j a r).1 ∧ RhC E B τ z (bdR (rcF N z T f) z j a r).2
  | _, _ => True
abbrev Uz_reachBody : CqC := fun As σ w τ => ∀ y, Pz_reachBody y As σ → Qz_reachBody y As σ w τ
abbrev Pz_reachRow : ((Int → Int) × (Nat → Nat) × (Nat → Nat) × (Nat → Nat) × (Nat → Nat) × ZS × TbT × MfT × Nat × Nat × RR × Nat) → CpC := fun y As σ => match y with
  | (N, E, A, B, V, z, T, ms, nm, j, r, f) => ∃ (p1 : Nat), As = [.inr (.inr (some (E 4))), .inr (.inr (some p1))] ∧ (SsC E A B σ z T ms nm) ∧ (PfC E σ) ∧ (TgC N B σ z) ∧ (WfS z T ∧ UpS z ∧ BiC B z) ∧ (j < snM z) ∧ (p1 = B j) ∧ (RhC E B σ z r) ∧ (2 * snM z ≤ f + 1 + 2 * j)
abbrev Qz_reachRow : ((Int → Int) × (Nat → Nat) × (Nat → Nat) × (Nat → Nat) × (Nat → Nat) × ZS × TbT × MfT × Nat × Nat × RR × Nat) → CqC := fun y As σ w τ => match y, As with
  | (N, E, A, B, V, z, T, ms, nm, j, r, f), [_, .inr (.inr (some p1))] => ∃ v, w = some (.inl v) ∧ v.toInt = bZI (rwR (rcF N z T f) z j r).1 ∧ RhC E B τ z (rwR (rcF N z T f) z j r).2
  | _, _ => True
abbrev Uz_reachRow : CqC := fun As σ w τ => ∀ y, Pz_reachRow y As σ → Qz_reachRow y As σ w τ
abbrev Pz_reachSwitch : ((Int → Int) × (Nat → Nat) × (Nat → Nat) × (Nat → Nat) × (Nat → Nat) × ZS × TbT × MfT × Nat × Nat × RR × Nat) → CpC := fun y As σ => match y with
  | (N, E, A, B, V, z, T, ms, nm, j, r, f) => ∃ (p1 : Nat), As = [.inr (.inr (some (E 4))), .inr (.inr (some p1))] ∧ (SsC E A B σ z T ms nm) ∧ (PfC E σ) ∧ (TgC N B σ z) ∧ (WfS z T ∧ UpS z ∧ BiC B z) ∧ (j < snM z) ∧ (p1 = B j) ∧ (RhC E B σ z r) ∧ (2 * snM z ≤ f + 1 + 2 * j)
abbrev Qz_reachSwitch : ((Int → Int) × (Nat → Nat) × (Nat → Nat) × (Nat → Nat) × (Nat → Nat) × ZS × TbT × MfT × Nat × Nat × RR × Nat) → CqC := fun y As σ w τ => match y, As with
  | (N, E, A, B, V, z, T, ms, nm, j, r, f), [_, .inr (.inr (some p1))] => ∃ v, w = some (.inl v) ∧ v.toInt = bZI (swR (rcF N z T f) z j r).1 ∧ RhC E B τ z (swR (rcF N z T f) z j r).2
  | _, _ => True
abbrev Uz_reachSwitch : CqC := fun As σ w τ => ∀ y, Pz_reachSwitch y As σ → Qz_reachSwitch y As σ w τ
abbrev Pz_reachTry : ((Int → Int) × (Nat → Nat) × (Nat → Nat) × (Nat → Nat) × (Nat → Nat) × ZS × TbT × MfT × Nat × Nat × RR × Nat) → CpC := fun y As σ => match y with
  | (N, E, A, B, V, z, T, ms, nm, j, r, f) => ∃ (p1 : Nat), As = [.inr (.inr (some (E 4))), .inr (.inr (some p1))] ∧ (SsC E A B σ z T ms nm) ∧ (PfC E σ) ∧ (TgC N B σ z) ∧ (WfS z T ∧ UpS z ∧ BiC B z) ∧ (j < snM z) ∧ (p1 = B j) ∧ (RhC E B σ z r) ∧ (2 * snM z ≤ f + 1 + 2 * j)
abbrev Qz_reachTry : ((Int → Int) × (Nat → Nat) × (Nat → Nat) × (Nat → Nat) × (Nat → Nat) × ZS × TbT × MfT × Nat × Nat × RR × Nat) → CqC := fun y As σ w τ => match y, As with
  | (N, E, A, B, V, z, T, ms, nm, j, r, f), [_, .inr (.inr (some p1))] => ∃ v, w = some (.inl v) ∧ v.toInt = bZI (tyR (rcF N z T f) z j r).1 ∧ RhC E B τ z (tyR (rcF N z T f) z j r).2
  | _, _ => True
abbrev Uz_reachTry : CqC := fun As σ w τ => ∀ y, Pz_reachTry y As σ → Qz_reachTry y As σ w τ
set_option maxHeartbeats 4000000 in
theorem pz_reach (y : (Int → Int) × (Nat → Nat) × (Nat → Nat) × (Nat → Nat) × (Nat → Nat) × ZS × TbT × MfT × Nat × Nat × RR × Bool × Nat) : PbC KX2_reach [(23, TrP, EqC 23), (118, TrP, EqC 118)] [(23, Uz_reachInside), (118, Uz_tell)] (fun As σ => Pz_reach y As σ ∧ cnC σ ≤ 1000000 ∧ ∃ w τ, uqC quL 22 As σ w τ) (Qz_reach y) := by sorry
set_option maxHeartbeats 4000000 in
theorem pz_reachBody (y : (Int → Int) × (Nat → Nat) × (Nat → Nat) × (Nat → Nat) × (Nat → Nat) × ZS × TbT × MfT × Nat × Nat × RR × Bool × Nat) : PbC KX2_reachBody [(22, TrP, EqC 22)] [(22, Uz_reach)] (fun As σ => Pz_reachBody y As σ ∧ cnC σ ≤ 1000000 ∧ ∃ w τ, uqC quL 24 As σ w τ) (Qz_reachBody y) := by sorry
set_option maxHeartbeats 4000000 in
theorem pz_reachRow (y : (Int → Int) × (Nat → Nat) × (Nat → Nat) × (Nat → Nat) × (Nat → Nat) × ZS × TbT × MfT × Nat × Nat × RR × Nat) : PbC KX2_reachRow [(22, TrP, EqC 22)] [(22, Uz_reach)] (fun As σ => Pz_reachRow y As σ ∧ cnC σ ≤ 1000000 ∧ ∃ w τ, uqC quL 21 As σ w τ) (Qz_reachRow y) := by sorry
set_option maxHeartbeats 4000000 in
theorem pz_reachSwitch (y : (Int → Int) × (Nat → Nat) × (Nat → Nat) × (Nat → Nat) × (Nat → Nat) × ZS × TbT × MfT × Nat × Nat × RR × Nat) : PbC KX2_reachSwitch [(22, TrP, EqC 22)] [(22, Uz_reach)] (fun As σ => Pz_reachSwitch y As σ ∧ cnC σ ≤ 1000000 ∧ ∃ w τ, uqC quL 25 As σ w τ) (Qz_reachSwitch y) := by sorry
set_option maxHeartbeats 4000000 in
theorem pz_reachTry (y : (Int → Int) × (Nat → Nat) × (Nat → Nat) × (Nat → Nat) × (Nat → Nat) × ZS × TbT × MfT × Nat × Nat × RR × Nat) : PbC KX2_reachTry [(21, TrP, EqC 21)] [(21, Uz_reachRow)] (fun As σ => Pz_reachTry y As σ ∧ cnC σ ≤ 1000000 ∧ ∃ w τ, uqC quL 26 As σ w τ) (Qz_reachTry y) := by sorry
set_option maxHeartbeats 4000000 in
theorem pz_reachInside (y : (Int → Int) × (Nat → Nat) × (Nat → Nat) × (Nat → Nat) × (Nat → Nat) × ZS × TbT × MfT × Nat × Nat × RR × Nat) : PbC KX2_reachInside [(21, TrP, EqC 21), (24, TrP, EqC 24), (22, TrP, EqC 22), (183, TrP, EqC 183), (25, TrP, EqC 25), (27, TrP, EqC 27), (26, TrP, EqC 26)] [(21, Uz_reachRow), (24, Uz_reachBody), (22, Uz_reach), (183, Uz_isAlways), (25, Uz_reachSwitch), (27, Uz_markTarget), (26, Uz_reachTry)] (fun As σ => Pz_reachInside y As σ ∧ cnC σ ≤ 1000000 ∧ ∃ w τ, uqC quL 23 As σ w τ) (Qz_reachInside y) := by sorry
theorem grp_rch : ∀ L : Nat, (∀ (As : List AvC) (σ : CsC) (w : Option AvC) (τ : CsC), EvF L 22 As σ w τ → Uz_reach As σ w τ) ∧ (∀ (As : List AvC) (σ : CsC) (w : Option AvC) (τ : CsC), EvF L 23 As σ w τ → Uz_reachInside As σ w τ) ∧ (∀ (As : List AvC) (σ : CsC) (w : Option AvC) (τ : CsC), EvF L 24 As σ w τ → Uz_reachBody As σ w τ) ∧ (∀ (As : List AvC) (σ : CsC) (w : Option AvC) (τ : CsC), EvF L 21 As σ w τ → Uz_reachRow As σ w τ) ∧ (∀ (As : List AvC) (σ : CsC) (w : Option AvC) (τ : CsC), EvF L 25 As σ w τ → Uz_reachSwitch As σ w τ) ∧ (∀ (As : List AvC) (σ : CsC) (w : Option AvC) (τ : CsC), EvF L 26 As σ w τ → Uz_reachTry As σ w τ) := by sorry
theorem wz_reach (L : Nat) : ∀ (As : List AvC) (σ : CsC) (w : Option AvC) (τ : CsC), EvF L 22 As σ w τ → Uz_reach As σ w τ := (grp_rch L).1
theorem wz_reachInside (L : Nat) : ∀ (As : List AvC) (σ : CsC) (w : Option AvC) (τ : CsC), EvF L 23 As σ w τ → Uz_reachInside As σ w τ := (grp_rch L).2.1
theorem wz_reachBody (L : Nat) : ∀ (As : List AvC) (σ : CsC) (w : Option AvC) (τ : CsC), EvF L 24 As σ w τ → Uz_reachBody As σ w τ := (grp_rch L).2.2.1
theorem wz_reachRow (L : Nat) : ∀ (As : List AvC) (σ : CsC) (w : Option AvC) (τ : CsC), EvF L 21 As σ w τ → Uz_reachRow As σ w τ := (grp_rch L).2.2.2.1
theorem wz_reachSwitch (L : Nat) : ∀ (As : List AvC) (σ : CsC) (w : Option AvC) (τ : CsC), EvF L 25 As σ w τ → Uz_reachSwitch As σ w τ := (grp_rch L).2.2.2.2.1
theorem wz_reachTry (L : Nat) : ∀ (As : List AvC) (σ : CsC) (w : Option AvC) (τ : CsC), EvF L 26 As σ w τ → Uz_reachTry As σ w τ := (grp_rch L).2.2.2.2.2
/-! SURELY assigned, purely, as the class goes -/
def allB : Int64 := Int64.ofInt (-1)
def zerB : Int64 := Int64.ofNat ((0 : Fin 2) : Nat)
def bitQ (v : Int) : Int64 := Int64.ofNat ((1 : Fin 2) : Nat) <<< ((Int32.ofInt v).toInt64 &&& 63)
def hasQ (m : Int64) (v : Int) : Bool := m.toBitVec.getLsbD v.toNat
/-- when true, when false, what is left for later, whether an ERROR is told -/
abbrev WzS : Type := Int64 × Int64 × List Int64 × Bool
def fxT (t : TvT) : Bool := decide (¬ t.2.1 = 0) && decide (t.1 = 0)
/-- both sides come together -/
def jnT (t : TvT) (more : Int64) (w : WzS) : WzS := (if (fxT t && decide (t.2.2.1 = zerB)) = true then allB else (w.1 &&& w.2.1) ||| more, if (fxT t && decide (t.2.2.1 = Int64.ofNat ((1 : Fin 2) : Nat))) = true then allB else (w.1 &&& w.2.1) ||| more, w.2.2)
def erW (w : WzS) : WzS := (w.1, w.2.1, w.2.2.1, true)
def tkW (t : TvT) (lk : Int) (w : WzS) : WzS := jnT t zerB (if t.2.1 = 0 ∧ 0 ≤ lk ∧ hasQ (w.1 &&& w.2.1) lk = false then erW w else w)
def toA (m : Int64) (w : WzS) : WzS := if w.2.2.1.length < 500 then (w.1, w.2.1, m :: w.2.2.1, w.2.2.2) else w
def frA (w : WzS) : Int64 × WzS := match w.2.2.1 with
  | [] => (allB, w)
  | m :: l => (m, (w.1, w.2.1, l, w.2.2.2))
def beW (m : Int64) (w : WzS) : WzS := (m, m, w.2.2)
def fkW (later now : Int64) (w : WzS) : WzS := beW now (toA later w)
def elW (w : WzS) : WzS := (fun (q : Int64 × WzS) => beW q.1 (toA q.2.2.1 (toA q.2.1 q.2))) (frA w)
def andF (w : WzS) : WzS := (fun (q : Int64 × WzS) => (q.2.1, q.2.2.1 &&& q.1, q.2.2.2)) (frA w)
def andT (w : WzS) : WzS := (fun (q : Int64 × WzS) => (q.2.1 &&& q.1, q.2.2)) (frA w)
def chW (t : TvT) (sg : Int) (w : WzS) : WzS := if sg = 21 then andF w else if sg = 20 then andT w else jnT t zerB w
/-- one exp -/
def paW (x : XrZ) (t : TvT) (w : WzS) : WzS :=
  if x.1.1 = 3 then w
  else if x.1.1 = 11 then (if x.1.2.1 = 21 then fkW w.2.1 w.1 w else fkW w.1 w.2.1 w)
  else if x.1.1 = 12 then fkW w.2.1 w.1 w
  else if x.1.1 = 13 then elW w
  else if x.1.1 = 8 then andT (andF w)
  else if x.1.1 = 7 then chW t x.1.2.1 w
  else if x.1.1 = 4 then (if x.1.2.1 = 39 then (w.2.1, w.1, w.2.2) else w)
  else if x.1.1 = 2 ∨ x.1.1 = 14 ∨ x.1.1 = 6 then tkW t x.2.1.2.1 w
  else if x.1.1 = 9 then jnT t (if x.2.1.2.1 < 0 then zerB else bitQ x.2.1.2.1) w
  else jnT t zerB w
theorem pa_3 {x : XrZ} {t : TvT} {w : WzS} (h : x.1.1 = 3) : paW x t w = w := by sorry
theorem pa_11 {x : XrZ} {t : TvT} {w : WzS} (h : x.1.1 = 11) : paW x t w = (if x.1.2.1 = 21 then fkW w.2.1 w.1 w else fkW w.1 w.2.1 w) := by sorry
theorem pa_12 {x : XrZ} {t : TvT} {w : WzS} (h : x.1.1 = 12) : paW x t w = fkW w.2.1 w.1 w := by sorry
theorem pa_13 {x : XrZ} {t : TvT} {w : WzS} (h : x.1.1 = 13) : paW x t w = elW w := by sorry
theorem pa_8 {x : XrZ} {t : TvT} {w : WzS} (h : x.1.1 = 8) : paW x t w = andT (andF w) := by sorry
theorem pa_7 {x : XrZ} {t : TvT} {w : WzS} (h : x.1.1 = 7) : paW x t w = chW t x.1.2.1 w := by sorry
theorem pa_4 {x : XrZ} {t : TvT} {w : WzS} (h : x.1.1 = 4) : paW x t w = (if x.1.2.1 = 39 then (w.2.1, w.1, w.2.2) else w) := by sorry
theorem pa_2 {x : XrZ} {t : TvT} {w : WzS} (h : x.1.1 = 2 ∨ x.1.1 = 14 ∨ x.1.1 = 6) : paW x t w = tkW t x.2.1.2.1 w := by sorry
theorem pa_9 {x : XrZ} {t : TvT} {w : WzS} (h : x.1.1 = 9) : paW x t w = jnT t (if x.2.1.2.1 < 0 then zerB else bitQ x.2.1.2.1) w := by sorry
theorem pa_o {x : XrZ} {t : TvT} {w : WzS} (h : ¬ (x.1.1 = 3 ∨ x.1.1 = 11 ∨ x.1.1 = 12 ∨ x.1.1 = 13 ∨ x.1.1 = 8 ∨ x.1.1 = 7 ∨ x.1.1 = 4 ∨ x.1.1 = 2 ∨ x.1.1 = 14 ∨ x.1.1 = 6 ∨ x.1.1 = 9)) : paW x t w = jnT t zerB w := by sorry
/-- n exps from k on -/
def bxL (z : ZS) (T : TbT) : Nat → Nat → WzS → WzS
  | 0, _, w => w
  | n + 1, k, w => bxL z T n (k + 1) (paW (xth z k) (T.1 k) w)
/-- an exp by its number, or none -/
def bxW (z : ZS) (T : TbT) (x : Int) (m : Int64) (w : WzS) : WzS := if x < 0 then (m, m, [], w.2.2.2) else bxL z T (x + 1 - (xth z x.toNat).2.2.1.1).toNat (xth z x.toNat).2.2.1.1.toNat (m, m, [], w.2.2.2)
def noW (w : WzS) : Int64 := w.1 &&& w.2.1
/-- what the class keeps of it -/
def WzC (E : Nat → Nat) (σ : CsC) (w : WzS) : Prop := (fLC σ (E 4) 91 = w.1 ∧ fLC σ (E 4) 92 = w.2.1 ∧ (fIC σ (E 4) 94).toInt = (w.2.2.1.length : Int)) ∧ (w.2.2.1.length ≤ 500 ∧ fRC σ (E 4) 93 = some (E 93) ∧ E 93 < cnC σ) ∧ (∀ i, i < w.2.2.1.length → eLC σ (E 93) i = w.2.2.1.getD (w.2.2.1.length - 1 - i) 0) ∧ (erC E σ ↔ w.2.2.2 = true)
theorem WzC.t {E : Nat → Nat} {σ τ : CsC} {w : WzS} {m : Int64} (h : WzC E σ w) (e : pLC σ (E 4) 91 m = τ) : WzC E τ (m, w.2) := by sorry
theorem WzC.f {E : Nat → Nat} {σ τ : CsC} {w : WzS} {m : Int64} (h : WzC E σ w) (e : pLC σ (E 4) 92 m = τ) : WzC E τ (w.1, m, w.2.2) := by sorry
theorem WzC.we {E : Nat → Nat} {σ τ : CsC} {w : WzS} (h : WzC E σ w) (g : WeC σ τ) : WzC E τ w := by sorry
theorem WzC.x {E : Nat → Nat} {σ τ : CsC} {w : WzS} (h : WzC E σ w) (f : FrE [217, 218] σ τ) (hl : E 4 < cnC σ) (hb : erC E τ) : WzC E τ (erW w) := by sorry
theorem WzC.to {E : Nat → Nat} {σ τ υ : CsC} {w : WzS} {m : Int64} {k k1 : Int32} (h : WzC E σ w) (hk : k.toNatClampNeg = w.2.2.1.length) (hl : w.2.2.1.length < 500) (e : qLC σ (E 93) (vp_updL (eLC σ (E 93)) k.toNatClampNeg m) = τ) (e2 : pIC τ (E 4) 94 k1 = υ) (hk1 : k1.toInt = (w.2.2.1.length : Int) + 1) : WzC E υ (toA m w) := by sorry
theorem WzC.fo {E : Nat → Nat} {σ τ : CsC} {w : WzS} {k1 : Int32} {m : Int64} {l : List Int64} (h : WzC E σ w) (hw : w.2.2.1 = m :: l) (e : pIC σ (E 4) 94 k1 = τ) (hk1 : k1.toInt = (l.length : Int)) : WzC E τ (w.1, w.2.1, l, w.2.2.2) ∧ eLC τ (E 93) l.length = m := by sorry
theorem frA_n {w : WzS} (h : w.2.2.1 = []) : frA w = (allB, w) := by sorry
theorem frA_c {w : WzS} {m : Int64} {l : List Int64} (h : w.2.2.1 = m :: l) : frA w = (m, (w.1, w.2.1, l, w.2.2.2)) := by sorry
theorem toA_t {m : Int64} {w : WzS} : (toA m w).1 = w.1 := by sorry
theorem toA_f {m : Int64} {w : WzS} : (toA m w).2.1 = w.2.1 := by sorry
theorem frA_t {w : WzS} : (frA w).2.1 = w.1 := by sorry
theorem frA_f {w : WzS} : (frA w).2.2.1 = w.2.1 := by sorry
theorem WzC.z {E : Nat → Nat} {σ τ : CsC} {w : WzS} {k : Int32} (h : WzC E σ w) (e : pIC σ (E 4) 94 k = τ) (hk : k.toInt = 0) : WzC E τ (w.1, w.2.1, [], w.2.2.2) := by sorry
/-! the class's flow: SURELY assigned, exps -/
theorem FrE.pL2 {M : List Nat} {σ τ υ : CsC} {a k : Nat} {v : Int64} (h : FrE M σ τ) (hk : M.elem k = true) (e : pLC τ a k v = υ) : FrE M σ υ := by sorry
theorem FrE.qL2 {M : List Nat} {σ τ υ : CsC} {a : Nat} {f : Nat → Int64} (h : FrE M σ τ) (hk : M.elem 901 = true) (e : qLC τ a f = υ) : FrE M σ υ := by sorry
abbrev Pz_bitq : ((Int → Int) × (Nat → Nat) × (Nat → Nat) × (Nat → Nat) × (Nat → Nat) × ZS) → CpC := fun y As σ => match y with
  | (N, E, A, B, V, z) => ∃ (p0 : Int32), As = [.inl p0]
abbrev Qz_bitq : ((Int → Int) × (Nat → Nat) × (Nat → Nat) × (Nat → Nat) × (Nat → Nat) × ZS) → CqC := fun y As σ w τ => match y, As with
  | (N, E, A, B, V, z), [.inl p0] => ∃ r, w = some (.inr (.inl r)) ∧ r = bitQ p0.toInt ∧ σ = τ
  | _, _ => True
abbrev Uz_bitq : CqC := fun As σ w τ => ∀ y, Pz_bitq y As σ → Qz_bitq y As σ w τ
set_option maxHeartbeats 4000000 in
theorem pz_bitq (y : (Int → Int) × (Nat → Nat) × (Nat → Nat) × (Nat → Nat) × (Nat → Nat) × ZS) : PbC KX11_bit [] [] (fun As σ => Pz_bitq y As σ ∧ cnC σ ≤ 1000000 ∧ ∃ w τ, uqC quL 222 As σ w τ) (Qz_bitq y) := by sorry
theorem wz_bitq : ∀ (L : Nat) (As : List AvC) (σ : CsC) (w : Option AvC) (τ : CsC), EvF L 222 As σ w τ → Uz_bitq As σ w τ := by sorry
abbrev Pz_toAside : ((Int → Int) × (Nat → Nat) × (Nat → Nat) × (Nat → Nat) × (Nat → Nat) × ZS × WzS) → CpC := fun y As σ => match y with
  | (N, E, A, B, V, z, u) => ∃ (p1 : Int64), As = [.inr (.inr (some (E 4))), .inr (.inl p1)] ∧ (WzC E σ u)
abbrev Qz_toAside : ((Int → Int) × (Nat → Nat) × (Nat → Nat) × (Nat → Nat) × (Nat → Nat) × ZS × WzS) → CqC := fun y As σ w τ => match y, As with
  | (N, E, A, B, V, z, u), [_, .inr (.inl p1)] => w = none ∧ WzC E τ (toA p1 u)
  | _, _ => True
abbrev Uz_toAside : CqC := fun As σ w τ => ∀ y, Pz_toAside y As σ → Qz_toAside y As σ w τ
set_option maxHeartbeats 4000000 in
theorem pz_toAside (y : (Int → Int) × (Nat → Nat) × (Nat → Nat) × (Nat → Nat) × (Nat → Nat) × ZS × WzS) : PbC KX2_toAside [] [] (fun As σ => Pz_toAside y As σ ∧ cnC σ ≤ 1000000 ∧ ∃ w τ, uqC quL 46 As σ w τ) (Qz_toAside y) := by sorry
theorem wz_toAside : ∀ (L : Nat) (As : List AvC) (σ : CsC) (w : Option AvC) (τ : CsC), EvF L 46 As σ w τ → Uz_toAside As σ w τ := by sorry
abbrev Pz_fromAside : ((Int → Int) × (Nat → Nat) × (Nat → Nat) × (Nat → Nat) × (Nat → Nat) × ZS × WzS) → CpC := fun y As σ => match y with
  | (N, E, A, B, V, z, u) => As = [.inr (.inr (some (E 4)))] ∧ (WzC E σ u)
abbrev Qz_fromAside : ((Int → Int) × (Nat → Nat) × (Nat → Nat) × (Nat → Nat) × (Nat → Nat) × ZS × WzS) → CqC := fun y As σ w τ => match y, As with
  | (N, E, A, B, V, z, u), [_] => ∃ r, w = some (.inr (.inl r)) ∧ r = (frA u).1 ∧ WzC E τ (frA u).2
  | _, _ => True
abbrev Uz_fromAside : CqC := fun As σ w τ => ∀ y, Pz_fromAside y As σ → Qz_fromAside y As σ w τ
set_option maxHeartbeats 4000000 in
theorem pz_fromAside (y : (Int → Int) × (Nat → Nat) × (Nat → Nat) × (Nat → Nat) × (Nat → Nat) × ZS × WzS) : PbC KX2_fromAside [] [] (fun As σ => Pz_fromAside y As σ ∧ cnC σ ≤ 1000000 ∧ ∃ w τ, uqC quL 47 As σ w τ) (Qz_fromAside y) := by sorry
theorem wz_fromAside : ∀ (L : Nat) (As : List AvC) (σ : CsC) (w : Option AvC) (τ : CsC), EvF L 47 As σ w τ → Uz_fromAside As σ w τ := by sorry
abbrev Pz_join : ((Int → Int) × (Nat → Nat) × (Nat → Nat) × (Nat → Nat) × (Nat → Nat) × ZS × TbT × MfT × Nat × WzS × Nat) → CpC := fun y As σ => match y with
  | (N, E, A, B, V, z, T, ms, nm, u, k) => ∃ (p1 : Nat) (p2 : Int64), As = [.inr (.inr (some (E 4))), .inr (.inr (some p1)), .inr (.inl p2)] ∧ (SsC E A B σ z T ms nm) ∧ (PfC E σ) ∧ (WzC E σ u) ∧ (k < xnM z) ∧ (p1 = A k)
abbrev Qz_join : ((Int → Int) × (Nat → Nat) × (Nat → Nat) × (Nat → Nat) × (Nat → Nat) × ZS × TbT × MfT × Nat × WzS × Nat) → CqC := fun y As σ w τ => match y, As with
  | (N, E, A, B, V, z, T, ms, nm, u, k), [_, .inr (.inr (some p1)), .inr (.inl p2)] => w = none ∧ WzC E τ (jnT (T.1 k) p2 u)
  | _, _ => True
abbrev Uz_join : CqC := fun As σ w τ => ∀ y, Pz_join y As σ → Qz_join y As σ w τ
set_option maxHeartbeats 4000000 in
theorem pz_join (y : (Int → Int) × (Nat → Nat) × (Nat → Nat) × (Nat → Nat) × (Nat → Nat) × ZS × TbT × MfT × Nat × WzS × Nat) : PbC KX2_join [] [] (fun As σ => Pz_join y As σ ∧ cnC σ ≤ 1000000 ∧ ∃ w τ, uqC quL 45 As σ w τ) (Qz_join y) := by sorry
theorem wz_join : ∀ (L : Nat) (As : List AvC) (σ : CsC) (w : Option AvC) (τ : CsC), EvF L 45 As σ w τ → Uz_join As σ w τ := by sorry
abbrev Pz_fork : ((Int → Int) × (Nat → Nat) × (Nat → Nat) × (Nat → Nat) × (Nat → Nat) × ZS × TbT × MfT × Nat × WzS) → CpC := fun y As σ => match y with
  | (N, E, A, B, V, z, T, ms, nm, u) => ∃ (p1 : Int64) (p2 : Int64), As = [.inr (.inr (some (E 4))), .inr (.inl p1), .inr (.inl p2)] ∧ (SsC E A B σ z T ms nm) ∧ (PfC E σ) ∧ (WzC E σ u)
abbrev Qz_fork : ((Int → Int) × (Nat → Nat) × (Nat → Nat) × (Nat → Nat) × (Nat → Nat) × ZS × TbT × MfT × Nat × WzS) → CqC := fun y As σ w τ => match y, As with
  | (N, E, A, B, V, z, T, ms, nm, u), [_, .inr (.inl p1), .inr (.inl p2)] => w = none ∧ WzC E τ (fkW p1 p2 u)
  | _, _ => True
abbrev Uz_fork : CqC := fun As σ w τ => ∀ y, Pz_fork y As σ → Qz_fork y As σ w τ
set_option maxHeartbeats 4000000 in
theorem pz_fork (y : (Int → Int) × (Nat → Nat) × (Nat → Nat) × (Nat → Nat) × (Nat → Nat) × ZS × TbT × MfT × Nat × WzS) : PbC KX2_fork [(46, TrP, EqC 46)] [(46, Uz_toAside)] (fun As σ => Pz_fork y As σ ∧ cnC σ ≤ 1000000 ∧ ∃ w τ, uqC quL 41 As σ w τ) (Qz_fork y) := by sorry
theorem wz_fork : ∀ (L : Nat) (As : List AvC) (σ : CsC) (w : Option AvC) (τ : CsC), EvF L 41 As σ w τ → Uz_fork As σ w τ := by sorry
abbrev Pz_passElse : ((Int → Int) × (Nat → Nat) × (Nat → Nat) × (Nat → Nat) × (Nat → Nat) × ZS × TbT × MfT × Nat × WzS) → CpC := fun y As σ => match y with
  | (N, E, A, B, V, z, T, ms, nm, u) => As = [.inr (.inr (some (E 4)))] ∧ (SsC E A B σ z T ms nm) ∧ (PfC E σ) ∧ (WzC E σ u)
abbrev Qz_passElse : ((Int → Int) × (Nat → Nat) × (Nat → Nat) × (Nat → Nat) × (Nat → Nat) × ZS × TbT × MfT × Nat × WzS) → CqC := fun y As σ w τ => match y, As with
  | (N, E, A, B, V, z, T, ms, nm, u), [_] => w = none ∧ WzC E τ (elW u)
  | _, _ => True
abbrev Uz_passElse : CqC := fun As σ w τ => ∀ y, Pz_passElse y As σ → Qz_passElse y As σ w τ
set_option maxHeartbeats 4000000 in
theorem pz_passElse (y : (Int → Int) × (Nat → Nat) × (Nat → Nat) × (Nat → Nat) × (Nat → Nat) × ZS × TbT × MfT × Nat × WzS) : PbC KX2_passElse [(47, TrP, EqC 47), (46, TrP, EqC 46)] [(47, Uz_fromAside), (46, Uz_toAside)] (fun As σ => Pz_passElse y As σ ∧ cnC σ ≤ 1000000 ∧ ∃ w τ, uqC quL 42 As σ w τ) (Qz_passElse y) := by sorry
theorem wz_passElse : ∀ (L : Nat) (As : List AvC) (σ : CsC) (w : Option AvC) (τ : CsC), EvF L 42 As σ w τ → Uz_passElse As σ w τ := by sorry
abbrev Pz_passChain : ((Int → Int) × (Nat → Nat) × (Nat → Nat) × (Nat → Nat) × (Nat → Nat) × ZS × TbT × MfT × Nat × WzS × Nat) → CpC := fun y As σ => match y with
  | (N, E, A, B, V, z, T, ms, nm, u, k) => ∃ (p1 : Nat), As = [.inr (.inr (some (E 4))), .inr (.inr (some p1))] ∧ (SsC E A B σ z T ms nm) ∧ (PfC E σ) ∧ (WzC E σ u) ∧ (k < xnM z) ∧ (p1 = A k)
abbrev Qz_passChain : ((Int → Int) × (Nat → Nat) × (Nat → Nat) × (Nat → Nat) × (Nat → Nat) × ZS × TbT × MfT × Nat × WzS × Nat) → CqC := fun y As σ w τ => match y, As with
  | (N, E, A, B, V, z, T, ms, nm, u, k), [_, .inr (.inr (some p1))] => w = none ∧ WzC E τ (chW (T.1 k) (xth z k).1.2.1 u)
  | _, _ => True
abbrev Uz_passChain : CqC := fun As σ w τ => ∀ y, Pz_passChain y As σ → Qz_passChain y As σ w τ
set_option maxHeartbeats 4000000 in
theorem pz_passChain (y : (Int → Int) × (Nat → Nat) × (Nat → Nat) × (Nat → Nat) × (Nat → Nat) × ZS × TbT × MfT × Nat × WzS × Nat) : PbC KX2_passChain [(45, TrP, EqC 45), (47, TrP, EqC 47)] [(45, Uz_join), (47, Uz_fromAside)] (fun As σ => Pz_passChain y As σ ∧ cnC σ ≤ 1000000 ∧ ∃ w τ, uqC quL 43 As σ w τ) (Qz_passChain y) := by sorry
theorem wz_passChain : ∀ (L : Nat) (As : List AvC) (σ : CsC) (w : Option AvC) (τ : CsC), EvF L 43 As σ w τ → Uz_passChain As σ w τ := by sorry
abbrev Pz_takeValue : ((Int → Int) × (Nat → Nat) × (Nat → Nat) × (Nat → Nat) × (Nat → Nat) × ZS × TbT × MfT × Nat × WzS × Nat) → CpC := fun y As σ => match y with
  | (N, E, A, B, V, z, T, ms, nm, u, k) => ∃ (p1 : Nat), As = [.inr (.inr (some (E 4))), .inr (.inr (some p1))] ∧ (SsC E A B σ z T ms nm) ∧ (PfC E σ) ∧ (WzC E σ u) ∧ (k < xnM z) ∧ (p1 = A k) ∧ ((xth z k).2.1.2.1 < 64 ∧ ¬ (xth z k).1.1 = 10)
abbrev Qz_takeValue : ((Int → Int) × (Nat → Nat) × (Nat → Nat) × (Nat → Nat) × (Nat → Nat) × ZS × TbT × MfT × Nat × WzS × Nat) → CqC := fun y As σ w τ => match y, As with
  | (N, E, A, B, V, z, T, ms, nm, u, k), [_, .inr (.inr (some p1))] => w = none ∧ WzC E τ (tkW (T.1 k) (xth z k).2.1.2.1 u)
  | _, _ => True
abbrev Uz_takeValue : CqC := fun As σ w τ => ∀ y, Pz_takeValue y As σ → Qz_takeValue y As σ w τ
set_option maxHeartbeats 4000000 in
theorem pz_takeValue (y : (Int → Int) × (Nat → Nat) × (Nat → Nat) × (Nat → Nat) × (Nat → Nat) × ZS × TbT × MfT × Nat × WzS × Nat) : PbC KX2_takeValue [(45, TrP, EqC 45), (221, TrP, EqC 221), (118, TrP, EqC 118)] [(45, Uz_join), (221, Uz_has), (118, Uz_tell)] (fun As σ => Pz_takeValue y As σ ∧ cnC σ ≤ 1000000 ∧ ∃ w τ, uqC quL 44 As σ w τ) (Qz_takeValue y) := by sorry
theorem wz_takeValue : ∀ (L : Nat) (As : List AvC) (σ : CsC) (w : Option AvC) (τ : CsC), EvF L 44 As σ w τ → Uz_takeValue As σ w τ := by sorry
abbrev Pz_pass : ((Int → Int) × (Nat → Nat) × (Nat → Nat) × (Nat → Nat) × (Nat → Nat) × ZS × TbT × MfT × Nat × WzS × Nat) → CpC := fun y As σ => match y with
  | (N, E, A, B, V, z, T, ms, nm, u, k) => ∃ (p1 : Nat), As = [.inr (.inr (some (E 4))), .inr (.inr (some p1))] ∧ (SsC E A B σ z T ms nm) ∧ (PfC E σ) ∧ (WzC E σ u) ∧ (k < xnM z) ∧ (p1 = A k) ∧ (¬ (xth z k).1.1 = 10 → (xth z k).2.1.2.1 < 64)
abbrev Qz_pass : ((Int → Int) × (Nat → Nat) × (Nat → Nat) × (Nat → Nat) × (Nat → Nat) × ZS × TbT × MfT × Nat × WzS × Nat) → CqC := fun y As σ w τ => match y, As with
  | (N, E, A, B, V, z, T, ms, nm, u, k), [_, .inr (.inr (some p1))] => w = none ∧ WzC E τ (paW (xth z k) (T.1 k) u)
  | _, _ => True
abbrev Uz_pass : CqC := fun As σ w τ => ∀ y, Pz_pass y As σ → Qz_pass y As σ w τ
set_option maxHeartbeats 4000000 in
theorem pz_pass (y : (Int → Int) × (Nat → Nat) × (Nat → Nat) × (Nat → Nat) × (Nat → Nat) × ZS × TbT × MfT × Nat × WzS × Nat) : PbC KX2_pass [(44, TrP, EqC 44), (45, TrP, EqC 45), (43, TrP, EqC 43), (47, TrP, EqC 47), (222, TrP, EqC 222), (41, TrP, EqC 41), (42, TrP, EqC 42)] [(44, Uz_takeValue), (45, Uz_join), (43, Uz_passChain), (47, Uz_fromAside), (222, Uz_bitq), (41, Uz_fork), (42, Uz_passElse)] (fun As σ => Pz_pass y As σ ∧ cnC σ ≤ 1000000 ∧ ∃ w τ, uqC quL 40 As σ w τ) (Qz_pass y) := by sorry
theorem wz_pass : ∀ (L : Nat) (As : List AvC) (σ : CsC) (w : Option AvC) (τ : CsC), EvF L 40 As σ w τ → Uz_pass As σ w τ := by sorry
/-! SURELY assigned along S's, purely, as the class goes -/
/-- before, behind, breaks, continues; exps -/
abbrev GzA : Type := (Nat → Int64) × (Nat → Int64) × (Nat → Int64) × (Nat → Int64) × WzS
def upN (f : Nat → Int64) (j : Nat) (m : Int64) : Nat → Int64 := fun k => if k = j then m else f k
def gaB (j : Nat) (m : Int64) (g : GzA) : GzA := (upN g.1 j m, g.2)
def gaH (j : Nat) (m : Int64) (g : GzA) : GzA := (g.1, upN g.2.1 j m, g.2.2)
def gaK (j : Nat) (m : Int64) (g : GzA) : GzA := (g.1, g.2.1, upN g.2.2.1 j m, g.2.2.2)
def gaC (j : Nat) (m : Int64) (g : GzA) : GzA := (g.1, g.2.1, g.2.2.1, upN g.2.2.2.1 j m, g.2.2.2.2)
def gaW (w : WzS) (g : GzA) : GzA := (g.1, g.2.1, g.2.2.1, g.2.2.2.1, w)
/-- what a jump takes along on its way -/
def ltM (z : ZS) (bh : Nat → Int64) (tg : Int) : Nat → Int → Int64 → Int64
  | 0, _, m => m
  | k + 1, t, m => if t < 0 then m else if t = tg then m else ltM z bh tg k (paS z t.toNat) (if hfA z t.toNat = true then m ||| bh (gjS z (paS z t.toNat).toNat).toNat else m)
theorem ltx_neg {z : ZS} {bh : Nat → Int64} {tg : Int} {k : Nat} {x : Int} {m : Int64} (h : x < 0) : ltM z bh tg k x m = m := by sorry
theorem ltx_eq {z : ZS} {bh : Nat → Int64} {tg : Int} {k : Nat} {x : Int} {m : Int64} (h : x = tg) : ltM z bh tg k x m = m := by sorry
theorem ltx_s {z : ZS} {bh : Nat → Int64} {tg : Int} {k j : Nat} {m : Int64} (h : ¬ (j : Int) = tg) : ltM z bh tg (k + 1) (j : Int) m = ltM z bh tg k (paS z j) (if hfA z j = true then m ||| bh (gjS z (paS z j).toNat).toNat else m) := by sorry
def ldT (N : Int → Int) (z : ZS) (j : Nat) (m : Int64) (g : GzA) : GzA := if tjT N z j < 0 then g else if kjS z j = 64 then gaK (tjT N z j).toNat (g.2.2.1 (tjT N z j).toNat &&& ltM z g.2.1 (tjT N z j) (snM z) (j : Int) m) g else gaC (tjT N z j).toNat (g.2.2.2.1 (tjT N z j).toNat &&& ltM z g.2.1 (tjT N z j) (snM z) (j : Int) m) g
def exB (z : ZS) (T : TbT) (x : Int) (m : Int64) (g : GzA) : Int64 × GzA := (noW (bxW z T x m g.2.2.2.2), gaW (bxW z T x m g.2.2.2.2) g)
abbrev AsT : Type := (Int → Int64 → GzA → Int64 × GzA) × (Int → Int64 → Int64 → Bool → GzA → Int64 × Bool × GzA) × (Nat → Int64 → GzA → Int64 × GzA)
def lkBz (z : ZS) (j : Nat) : Int64 := if ljS z j < 0 then zerB else bitQ (ljS z j)
def bdA (F : AsT) (z : ZS) (j : Nat) (m : Int64) (g : GzA) : Int64 × GzA := if bjS z j < 0 then (m, g) else F.2.2 (bjS z j).toNat m g
def tdA (z : ZS) (T : TbT) (j : Nat) (m : Int64) (g : GzA) : Int64 × GzA := if xjS z j < 0 then (m &&& (lkBz z j ^^^ allB), g) else (fun (q : Int64 × GzA) => (q.1 ||| lkBz z j, q.2)) (exB z T (xjS z j) (m &&& (lkBz z j ^^^ allB)) g)
def ifA (F : AsT) (z : ZS) (T : TbT) (j : Nat) (m : Int64) (g : GzA) : Int64 × GzA := (fun (q : Int64 × GzA) => (fun (p : Int64 × GzA) => if ojS z j < 0 then (p.1 &&& q.2.2.2.2.2.2.1, p.2) else (fun (o : Int64 × GzA) => (p.1 &&& o.1, o.2)) (F.2.2 (ojS z j).toNat q.2.2.2.2.2.2.1 p.2)) (bdA F z j q.2.2.2.2.2.1 q.2)) (exB z T (xjS z j) m g)
def laA (F : AsT) (z : ZS) (j : Nat) (m : Int64) (g : GzA) : Int64 × GzA := (fun (q : Int64 × GzA) => (q.1 &&& q.2.2.2.1 j, q.2)) (bdA F z j m g)
def doA (F : AsT) (z : ZS) (T : TbT) (j : Nat) (m : Int64) (g : GzA) : Int64 × GzA := (fun (q : Int64 × GzA) => (fun (e : Int64 × GzA) => (e.2.2.2.2.2.2.1 &&& e.2.2.2.1 j, e.2)) (exB z T (xjS z j) (q.1 &&& q.2.2.2.2.1 j) q.2)) (bdA F z j m g)
def whA (F : AsT) (z : ZS) (T : TbT) (j : Nat) (m : Int64) (g : GzA) : Int64 × GzA := (fun (a : Int64 × GzA) => (fun (e : Int64 × GzA) => (fun (b : Int64 × GzA) => (fun (c : GzA) => ((if xjS z j < 0 then allB else e.2.2.2.2.2.2.1) &&& c.2.2.1 j, c)) (if kjS z j = 60 then (F.1 (gjS z j) (b.1 &&& b.2.2.2.2.1 j) b.2).2 else b.2)) (bdA F z j e.2.2.2.2.2.1 e.2)) (exB z T (xjS z j) a.1 a.2)) (if kjS z j = 60 then F.1 (ojS z j) m g else (m, g))
def swA (F : AsT) (z : ZS) (T : TbT) (j : Nat) (m : Int64) (g : GzA) : Int64 × GzA := (fun (e : Int64 × GzA) => (fun (q : Int64 × Bool × GzA) => ((if q.2.1 = true then q.1 else q.1 &&& e.1) &&& q.2.2.2.2.1 j, q.2.2)) (F.2.1 (bjS z j) e.1 allB false e.2)) (exB z T (xjS z j) m g)
def tyA (F : AsT) (z : ZS) (j : Nat) (m : Int64) (g : GzA) : Int64 × GzA := (fun (a : Int64 × GzA) => (fun (b : Int64 × GzA) => (fun (c : Int64 × GzA) => (c.1 ||| a.1, c.2)) (if ojS z j < 0 then b else (fun (o : Int64 × GzA) => (b.1 &&& o.1, o.2)) (F.2.2 (ojS z j).toNat (if ljS z j < 0 then m else m ||| bitQ (ljS z j)) b.2))) (bdA F z j m a.2)) (if gjS z j < 0 then (zerB, g) else F.2.2 (gjS z j).toNat m g)
def inA (F : AsT) (N : Int → Int) (z : ZS) (T : TbT) (j : Nat) (m : Int64) (g : GzA) : Int64 × GzA :=
  if kjS z j = 2 ∨ kjS z j = 92 then F.1 (bjS z j) m g
  else if kjS z j = 91 ∨ kjS z j = 93 then tdA z T j m g
  else if kjS z j = 90 ∨ kjS z j = 94 then exB z T (xjS z j) m g
  else if kjS z j = 66 ∨ kjS z j = 67 then (allB, (exB z T (xjS z j) m g).2)
  else if kjS z j = 64 ∨ kjS z j = 65 then (allB, ldT N z j m g)
  else if kjS z j = 6 then laA F z j m g
  else if kjS z j = 56 then ifA F z T j m g
  else if kjS z j = 59 then doA F z T j m g
  else if kjS z j = 58 ∨ kjS z j = 60 then whA F z T j m g
  else if kjS z j = 61 then swA F z T j m g
  else if kjS z j = 68 then tyA F z j m g
  else (m, g)
def stA (F : AsT) (N : Int → Int) (z : ZS) (T : TbT) (j : Nat) (m : Int64) (g : GzA) : Int64 × GzA := (fun (q : Int64 × GzA) => (q.1, gaH j q.1 q.2)) (if lvS z j ≤ 20 then inA F N z T j m (gaB j m g) else (m, gaB j m g))
def asF (N : Int → Int) (z : ZS) (T : TbT) : Nat → AsT
  | 0 => (fun _ m g => (m, g), fun _ _ m d g => (m, d, g), fun _ m g => (m, g))
  | n + 1 => (fun x m g => if x < 0 then (m, g) else (fun (q : Int64 × GzA) => (asF N z T n).1 (njS z x.toNat) q.1 q.2) ((asF N z T n).2.2 x.toNat m g),
      fun x ch m d g => if x < 0 then (m, d, g) else if kjS z x.toNat = 62 ∨ kjS z x.toNat = 63 then (asF N z T n).2.1 (njS z x.toNat) ch (m &&& ch) (d || decide (kjS z x.toNat = 63)) g else (fun (q : Int64 × GzA) => (asF N z T n).2.1 (njS z x.toNat) ch q.1 d q.2) ((asF N z T n).2.2 x.toNat m g),
      stA (asF N z T n) N z T)
theorem as_st {N : Int → Int} {z : ZS} {T : TbT} {n : Nat} : (asF N z T (n + 1)).2.2 = stA (asF N z T n) N z T := rfl
theorem as_r0 {N : Int → Int} {z : ZS} {T : TbT} {n : Nat} {x : Int} {m : Int64} {g : GzA} (h : x < 0) : (asF N z T n).1 x m g = (m, g) := by sorry
theorem as_r1 {N : Int → Int} {z : ZS} {T : TbT} {n j : Nat} {m : Int64} {g : GzA} : (asF N z T (n + 1)).1 (j : Int) m g = (asF N z T n).1 (njS z j) ((asF N z T n).2.2 j m g).1 ((asF N z T n).2.2 j m g).2 := by sorry
theorem as_s0 {N : Int → Int} {z : ZS} {T : TbT} {n : Nat} {x : Int} {ch m : Int64} {d : Bool} {g : GzA} (h : x < 0) : (asF N z T n).2.1 x ch m d g = (m, d, g) := by sorry
theorem as_s1 {N : Int → Int} {z : ZS} {T : TbT} {n j : Nat} {ch m : Int64} {d : Bool} {g : GzA} (h : kjS z j = 62 ∨ kjS z j = 63) : (asF N z T (n + 1)).2.1 (j : Int) ch m d g = (asF N z T n).2.1 (njS z j) ch (m &&& ch) (d || decide (kjS z j = 63)) g := by sorry
theorem as_s2 {N : Int → Int} {z : ZS} {T : TbT} {n j : Nat} {ch m : Int64} {d : Bool} {g : GzA} (h : ¬ (kjS z j = 62 ∨ kjS z j = 63)) : (asF N z T (n + 1)).2.1 (j : Int) ch m d g = (asF N z T n).2.1 (njS z j) ch ((asF N z T n).2.2 j m g).1 d ((asF N z T n).2.2 j m g).2 := by sorry
/-- what the class keeps of it -/
def AzC (E B : Nat → Nat) (σ : CsC) (z : ZS) (g : GzA) : Prop := (∀ j, j < snM z → fLC σ (B j) 285 = g.1 j ∧ fLC σ (B j) 286 = g.2.1 j ∧ fLC σ (B j) 287 = g.2.2.1 j ∧ fLC σ (B j) 288 = g.2.2.2.1 j) ∧ WzC E σ g.2.2.2.2
theorem pLx2 {σ τ : CsC} {a b j k : Nat} {v : Int64} (e : pLC σ a k v = τ) (h : j ≠ k) : fLC τ b j = fLC σ b j := by sorry
theorem WzC.pL {E : Nat → Nat} {σ τ : CsC} {w : WzS} {a k : Nat} {v : Int64} (h : WzC E σ w) (e : pLC σ a k v = τ) (h1 : 91 ≠ k) (h2 : 92 ≠ k) : WzC E τ w := by sorry
theorem AzC.w {E B : Nat → Nat} {σ τ : CsC} {z : ZS} {g : GzA} {w : WzS} (h : AzC E B σ z g) (f : FrE [91, 92, 94, 217, 218, 901] σ τ) (hl : ∀ j, j < snM z → B j < cnC σ) (hw : WzC E τ w) : AzC E B τ z (gaW w g) := by sorry
theorem AzC.we {E B : Nat → Nat} {σ τ : CsC} {z : ZS} {g : GzA} (h : AzC E B σ z g) (w : WeC σ τ) : AzC E B τ z g := ⟨fun k hk => by rw [we_l w]; exact h.1 k hk, h.2.we w⟩
theorem pLx {σ τ : CsC} {a b j k : Nat} {v : Int64} (e : pLC σ a k v = τ) (h : j ≠ k) : fLC τ b j = fLC σ b j := by sorry
theorem AzC.b {E B : Nat → Nat} {σ τ : CsC} {z : ZS} {g : GzA} {j : Nat} {v : Int64} (h : AzC E B σ z g) (hB : BiC B z) (hj : j < snM z) (e : pLC σ (B j) 285 v = τ) : AzC E B τ z (gaB j v g) := by sorry
theorem AzC.h {E B : Nat → Nat} {σ τ : CsC} {z : ZS} {g : GzA} {j : Nat} {v : Int64} (h : AzC E B σ z g) (hB : BiC B z) (hj : j < snM z) (e : pLC σ (B j) 286 v = τ) : AzC E B τ z (gaH j v g) := by sorry
theorem AzC.k {E B : Nat → Nat} {σ τ : CsC} {z : ZS} {g : GzA} {j : Nat} {v : Int64} (h : AzC E B σ z g) (hB : BiC B z) (hj : j < snM z) (e : pLC σ (B j) 287 v = τ) : AzC E B τ z (gaK j v g) := by sorry
theorem AzC.c {E B : Nat → Nat} {σ τ : CsC} {z : ZS} {g : GzA} {j : Nat} {v : Int64} (h : AzC E B σ z g) (hB : BiC B z) (hj : j < snM z) (e : pLC σ (B j) 288 v = τ) : AzC E B τ z (gaC j v g) := by sorry
/-! the class's flow: SURELY assigned, whole exps, jumps -/
/-- where exps start -/
def SxS (z : ZS) : Prop := ∀ k, k < xnM z → (0 ≤ (xth z k).2.2.1.1 ∧ (xth z k).2.2.1.1 ≤ (k : Int)) ∧ (¬ (xth z k).1.1 = 10 → (xth z k).2.1.2.1 < 64)
theorem bx_n {z : ZS} {T : TbT} {x : Int} {m : Int64} {w : WzS} (h : x < 0) : bxW z T x m w = (m, m, [], w.2.2.2) := if_pos h
theorem bx_k {z : ZS} {T : TbT} {k : Nat} {m : Int64} {w : WzS} : bxW z T (k : Int) m w = bxL z T ((k : Int) + 1 - (xth z k).2.2.1.1).toNat (xth z k).2.2.1.1.toNat (m, m, [], w.2.2.2) := by sorry
abbrev Pz_behindExp : ((Int → Int) × (Nat → Nat) × (Nat → Nat) × (Nat → Nat) × (Nat → Nat) × ZS × TbT × MfT × Nat × WzS × Int) → CpC := fun y As σ => match y with
  | (N, E, A, B, V, z, T, ms, nm, u, x) => ∃ (p1 : Option Nat) (p2 : Int64), As = [.inr (.inr (some (E 4))), .inr (.inr p1), .inr (.inl p2)] ∧ (SsC E A B σ z T ms nm) ∧ (PfC E σ) ∧ (WzC E σ u) ∧ (p1 = opA A x) ∧ (x < (xnM z : Int)) ∧ (SxS z)
abbrev Qz_behindExp : ((Int → Int) × (Nat → Nat) × (Nat → Nat) × (Nat → Nat) × (Nat → Nat) × ZS × TbT × MfT × Nat × WzS × Int) → CqC := fun y As σ w τ => match y, As with
  | (N, E, A, B, V, z, T, ms, nm, u, x), [_, .inr (.inr p1), .inr (.inl p2)] => ∃ r, w = some (.inr (.inl r)) ∧ r = noW (bxW z T x p2 u) ∧ WzC E τ (bxW z T x p2 u)
  | _, _ => True
abbrev Uz_behindExp : CqC := fun As σ w τ => ∀ y, Pz_behindExp y As σ → Qz_behindExp y As σ w τ
set_option maxHeartbeats 4000000 in
theorem pz_behindExp (y : (Int → Int) × (Nat → Nat) × (Nat → Nat) × (Nat → Nat) × (Nat → Nat) × ZS × TbT × MfT × Nat × WzS × Int) : PbC KX2_behindExp [(234, TrP, EqC 234), (235, TrP, EqC 235), (40, TrP, EqC 40)] [(40, Uz_pass)] (fun As σ => Pz_behindExp y As σ ∧ cnC σ ≤ 1000000 ∧ ∃ w τ, uqC quL 39 As σ w τ) (Qz_behindExp y) := by sorry
theorem wz_behindExp : ∀ (L : Nat) (As : List AvC) (σ : CsC) (w : Option AvC) (τ : CsC), EvF L 39 As σ w τ → Uz_behindExp As σ w τ := by sorry
abbrev Pz_behindTold : ((Int → Int) × (Nat → Nat) × (Nat → Nat) × (Nat → Nat) × (Nat → Nat) × ZS × TbT × MfT × Nat × Nat × GzA) → CpC := fun y As σ => match y with
  | (N, E, A, B, V, z, T, ms, nm, j, g) => ∃ (p1 : Nat) (p2 : Int64), As = [.inr (.inr (some (E 4))), .inr (.inr (some p1)), .inr (.inl p2)] ∧ (SsC E A B σ z T ms nm) ∧ (PfC E σ) ∧ (TgC N B σ z) ∧ (WfS z T ∧ UpS z ∧ BiC B z ∧ SxS z) ∧ (j < snM z) ∧ (p1 = B j) ∧ (AzC E B σ z g)
abbrev Qz_behindTold : ((Int → Int) × (Nat → Nat) × (Nat → Nat) × (Nat → Nat) × (Nat → Nat) × ZS × TbT × MfT × Nat × Nat × GzA) → CqC := fun y As σ w τ => match y, As with
  | (N, E, A, B, V, z, T, ms, nm, j, g), [_, .inr (.inr (some p1)), .inr (.inl p2)] => ∃ r, w = some (.inr (.inl r)) ∧ r = (tdA z T j p2 g).1 ∧ AzC E B τ z (tdA z T j p2 g).2
  | _, _ => True
abbrev Uz_behindTold : CqC := fun As σ w τ => ∀ y, Pz_behindTold y As σ → Qz_behindTold y As σ w τ
set_option maxHeartbeats 4000000 in
theorem pz_behindTold (y : (Int → Int) × (Nat → Nat) × (Nat → Nat) × (Nat → Nat) × (Nat → Nat) × ZS × TbT × MfT × Nat × Nat × GzA) : PbC KX2_behindTold [(39, TrP, EqC 39), (222, TrP, EqC 222)] [(39, Uz_behindExp), (222, Uz_bitq)] (fun As σ => Pz_behindTold y As σ ∧ cnC σ ≤ 1000000 ∧ ∃ w τ, uqC quL 33 As σ w τ) (Qz_behindTold y) := by sorry
theorem wz_behindTold : ∀ (L : Nat) (As : List AvC) (σ : CsC) (w : Option AvC) (τ : CsC), EvF L 33 As σ w τ → Uz_behindTold As σ w τ := by sorry
abbrev Pz_leadTo : ((Int → Int) × (Nat → Nat) × (Nat → Nat) × (Nat → Nat) × (Nat → Nat) × ZS × TbT × MfT × Nat × Nat × GzA) → CpC := fun y As σ => match y with
  | (N, E, A, B, V, z, T, ms, nm, j, g) => ∃ (p1 : Nat) (p2 : Int64), As = [.inr (.inr (some (E 4))), .inr (.inr (some p1)), .inr (.inl p2)] ∧ (SsC E A B σ z T ms nm) ∧ (PfC E σ) ∧ (TgC N B σ z) ∧ (WfS z T ∧ UpS z ∧ BiC B z ∧ SxS z) ∧ (j < snM z) ∧ (p1 = B j) ∧ (AzC E B σ z g) ∧ (kjS z j = 64 ∨ kjS z j = 65)
abbrev Qz_leadTo : ((Int → Int) × (Nat → Nat) × (Nat → Nat) × (Nat → Nat) × (Nat → Nat) × ZS × TbT × MfT × Nat × Nat × GzA) → CqC := fun y As σ w τ => match y, As with
  | (N, E, A, B, V, z, T, ms, nm, j, g), [_, .inr (.inr (some p1)), .inr (.inl p2)] => w = none ∧ AzC E B τ z (ldT N z j p2 g)
  | _, _ => True
abbrev Uz_leadTo : CqC := fun As σ w τ => ∀ y, Pz_leadTo y As σ → Qz_leadTo y As σ w τ
set_option maxHeartbeats 4000000 in
theorem pz_leadTo (y : (Int → Int) × (Nat → Nat) × (Nat → Nat) × (Nat → Nat) × (Nat → Nat) × ZS × TbT × MfT × Nat × Nat × GzA) : PbC KX2_leadTo [(181, TrP, EqC 181)] [(181, Uz_hasFinallyAhead)] (fun As σ => Pz_leadTo y As σ ∧ cnC σ ≤ 1000000 ∧ ∃ w τ, uqC quL 34 As σ w τ) (Qz_leadTo y) := by sorry
theorem wz_leadTo : ∀ (L : Nat) (As : List AvC) (σ : CsC) (w : Option AvC) (τ : CsC), EvF L 34 As σ w τ → Uz_leadTo As σ w τ := by sorry
/-! the class's flow: SURELY assigned along S's -/
def lpA (F : AsT) (z : ZS) (T : TbT) (j : Nat) (m : Int64) (g : GzA) : Int64 × GzA := if kjS z j = 59 then doA F z T j m g else whA F z T j m g
theorem ina_b {F : AsT} {N : Int → Int} {z : ZS} {T : TbT} {j : Nat} {m : Int64} {g : GzA} (h : kjS z j = 2 ∨ kjS z j = 92) : inA F N z T j m g = F.1 (bjS z j) m g := by sorry
theorem ina_t {F : AsT} {N : Int → Int} {z : ZS} {T : TbT} {j : Nat} {m : Int64} {g : GzA} (h : kjS z j = 91 ∨ kjS z j = 93) : inA F N z T j m g = tdA z T j m g := by sorry
theorem ina_e {F : AsT} {N : Int → Int} {z : ZS} {T : TbT} {j : Nat} {m : Int64} {g : GzA} (h : kjS z j = 90 ∨ kjS z j = 94) : inA F N z T j m g = exB z T (xjS z j) m g := by sorry
theorem ina_r {F : AsT} {N : Int → Int} {z : ZS} {T : TbT} {j : Nat} {m : Int64} {g : GzA} (h : kjS z j = 66 ∨ kjS z j = 67) : inA F N z T j m g = (allB, (exB z T (xjS z j) m g).2) := by sorry
theorem ina_j {F : AsT} {N : Int → Int} {z : ZS} {T : TbT} {j : Nat} {m : Int64} {g : GzA} (h : kjS z j = 64 ∨ kjS z j = 65) : inA F N z T j m g = (allB, ldT N z j m g) := by sorry
theorem ina_l {F : AsT} {N : Int → Int} {z : ZS} {T : TbT} {j : Nat} {m : Int64} {g : GzA} (h : kjS z j = 6) : inA F N z T j m g = laA F z j m g := by sorry
theorem ina_i {F : AsT} {N : Int → Int} {z : ZS} {T : TbT} {j : Nat} {m : Int64} {g : GzA} (h : kjS z j = 56) : inA F N z T j m g = ifA F z T j m g := by sorry
theorem ina_d {F : AsT} {N : Int → Int} {z : ZS} {T : TbT} {j : Nat} {m : Int64} {g : GzA} (h : kjS z j = 59) : inA F N z T j m g = doA F z T j m g := by sorry
theorem ina_w {F : AsT} {N : Int → Int} {z : ZS} {T : TbT} {j : Nat} {m : Int64} {g : GzA} (h : kjS z j = 58 ∨ kjS z j = 60) : inA F N z T j m g = whA F z T j m g := by sorry
theorem ina_s {F : AsT} {N : Int → Int} {z : ZS} {T : TbT} {j : Nat} {m : Int64} {g : GzA} (h : kjS z j = 61) : inA F N z T j m g = swA F z T j m g := by sorry
theorem ina_y {F : AsT} {N : Int → Int} {z : ZS} {T : TbT} {j : Nat} {m : Int64} {g : GzA} (h : kjS z j = 68) : inA F N z T j m g = tyA F z j m g := by sorry
theorem ina_o {F : AsT} {N : Int → Int} {z : ZS} {T : TbT} {j : Nat} {m : Int64} {g : GzA} (h : ¬ (kjS z j = 2 ∨ kjS z j = 92 ∨ kjS z j = 91 ∨ kjS z j = 93 ∨ kjS z j = 90 ∨ kjS z j = 94 ∨ kjS z j = 66 ∨ kjS z j = 67 ∨ kjS z j = 64 ∨ kjS z j = 65 ∨ kjS z j = 6 ∨ kjS z j = 56 ∨ kjS z j = 59 ∨ kjS z j = 58 ∨ kjS z j = 60 ∨ kjS z j = 61 ∨ kjS z j = 68)) : inA F N z T j m g = (m, g) := by sorry
theorem lp_in {F : AsT} {N : Int → Int} {z : ZS} {T : TbT} {j : Nat} {m : Int64} {g : GzA} (h : kjS z j = 58 ∨ kjS z j = 59 ∨ kjS z j = 60) : inA F N z T j m g = lpA F z T j m g := by sorry
abbrev Pz_assign : ((Int → Int) × (Nat → Nat) × (Nat → Nat) × (Nat → Nat) × (Nat → Nat) × ZS × TbT × MfT × Nat × Nat × GzA × Nat) → CpC := fun y As σ => match y with
  | (N, E, A, B, V, z, T, ms, nm, j, g, f) => ∃ (p1 : Nat) (p2 : Int64), As = [.inr (.inr (some (E 4))), .inr (.inr (some p1)), .inr (.inl p2)] ∧ (SsC E A B σ z T ms nm) ∧ (PfC E σ) ∧ (TgC N B σ z) ∧ (WfS z T ∧ UpS z ∧ BiC B z ∧ SxS z) ∧ (j < snM z) ∧ (p1 = B j) ∧ (AzC E B σ z g) ∧ (2 * snM z ≤ f + 2 * j)
abbrev Qz_assign : ((Int → Int) × (Nat → Nat) × (Nat → Nat) × (Nat → Nat) × (Nat → Nat) × ZS × TbT × MfT × Nat × Nat × GzA × Nat) → CqC := fun y As σ w τ => match y, As with
  | (N, E, A, B, V, z, T, ms, nm, j, g, f), [_, .inr (.inr (some p1)), .inr (.inl p2)] => ∃ r, w = some (.inr (.inl r)) ∧ r = ((asF N z T f).2.2 j p2 g).1 ∧ AzC E B τ z ((asF N z T f).2.2 j p2 g).2
  | _, _ => True
abbrev Uz_assign : CqC := fun As σ w τ => ∀ y, Pz_assign y As σ → Qz_assign y As σ w τ
abbrev Pz_assignRow : ((Int → Int) × (Nat → Nat) × (Nat → Nat) × (Nat → Nat) × (Nat → Nat) × ZS × TbT × MfT × Nat × Int × GzA × Nat) → CpC := fun y As σ => match y with
  | (N, E, A, B, V, z, T, ms, nm, x, g, f) => ∃ (p1 : Option Nat) (p2 : Int64), As = [.inr (.inr (some (E 4))), .inr (.inr p1), .inr (.inl p2)] ∧ (SsC E A B σ z T ms nm) ∧ (PfC E σ) ∧ (TgC N B σ z) ∧ (WfS z T ∧ UpS z ∧ BiC B z ∧ SxS z) ∧ (AzC E B σ z g) ∧ (p1 = opA B x) ∧ (x < (snM z : Int)) ∧ (0 ≤ x → 2 * (snM z : Int) + 1 ≤ (f : Int) + 2 * x)
abbrev Qz_assignRow : ((Int → Int) × (Nat → Nat) × (Nat → Nat) × (Nat → Nat) × (Nat → Nat) × ZS × TbT × MfT × Nat × Int × GzA × Nat) → CqC := fun y As σ w τ => match y, As with
  | (N, E, A, B, V, z, T, ms, nm, x, g, f), [_, .inr (.inr p1), .inr (.inl p2)] => ∃ r, w = some (.inr (.inl r)) ∧ r = ((asF N z T f).1 x p2 g).1 ∧ AzC E B τ z ((asF N z T f).1 x p2 g).2
  | _, _ => True
abbrev Uz_assignRow : CqC := fun As σ w τ => ∀ y, Pz_assignRow y As σ → Qz_assignRow y As σ w τ
abbrev Pz_assignBody : ((Int → Int) × (Nat → Nat) × (Nat → Nat) × (Nat → Nat) × (Nat → Nat) × ZS × TbT × MfT × Nat × Nat × GzA × Nat) → CpC := fun y As σ => match y with
  | (N, E, A, B, V, z, T, ms, nm, j, g, f) => ∃ (p1 : Nat) (p2 : Int64), As = [.inr (.inr (some (E 4))), .inr (.inr (some p1)), .inr (.inl p2)] ∧ (SsC E A B σ z T ms nm) ∧ (PfC E σ) ∧ (TgC N B σ z) ∧ (WfS z T ∧ UpS z ∧ BiC B z ∧ SxS z) ∧ (j < snM z) ∧ (p1 = B j) ∧ (AzC E B σ z g) ∧ (2 * snM z ≤ f + 1 + 2 * j)
abbrev Qz_assignBody : ((Int → Int) × (Nat → Nat) × (Nat → Nat) × (Nat → Nat) × (Nat → Nat) × ZS × TbT × MfT × Nat × Nat × GzA × Nat) → CqC := fun y As σ w τ => match y, As with
  | (N, E, A, B, V, z, T, ms, nm, j, g, f), [_, .inr (.inr (some p1)), .inr (.inl p2)] => ∃ r, w = some (.inr (.inl r)) ∧ r = (bdA (asF N z T f) z j p2 g).1 ∧ AzC E B τ z (bdA (asF N z T f) z j p2 g).2
  | _, _ => True
abbrev Uz_assignBody : CqC := fun As σ w τ => ∀ y, Pz_assignBody y As σ → Qz_assignBody y As σ w τ
abbrev Pz_behind : ((Int → Int) × (Nat → Nat) × (Nat → Nat) × (Nat → Nat) × (Nat → Nat) × ZS × TbT × MfT × Nat × Nat × GzA × Nat) → CpC := fun y As σ => match y with
  | (N, E, A, B, V, z, T, ms, nm, j, g, f) => ∃ (p1 : Nat) (p2 : Int64), As = [.inr (.inr (some (E 4))), .inr (.inr (some p1)), .inr (.inl p2)] ∧ (SsC E A B σ z T ms nm) ∧ (PfC E σ) ∧ (TgC N B σ z) ∧ (WfS z T ∧ UpS z ∧ BiC B z ∧ SxS z) ∧ (j < snM z) ∧ (p1 = B j) ∧ (AzC E B σ z g) ∧ (2 * snM z ≤ f + 1 + 2 * j)
abbrev Qz_behind : ((Int → Int) × (Nat → Nat) × (Nat → Nat) × (Nat → Nat) × (Nat → Nat) × ZS × TbT × MfT × Nat × Nat × GzA × Nat) → CqC := fun y As σ w τ => match y, As with
  | (N, E, A, B, V, z, T, ms, nm, j, g, f), [_, .inr (.inr (some p1)), .inr (.inl p2)] => ∃ r, w = some (.inr (.inl r)) ∧ r = (inA (asF N z T f) N z T j p2 g).1 ∧ AzC E B τ z (inA (asF N z T f) N z T j p2 g).2
  | _, _ => True
abbrev Uz_behind : CqC := fun As σ w τ => ∀ y, Pz_behind y As σ → Qz_behind y As σ w τ
abbrev Pz_behindIf : ((Int → Int) × (Nat → Nat) × (Nat → Nat) × (Nat → Nat) × (Nat → Nat) × ZS × TbT × MfT × Nat × Nat × GzA × Nat) → CpC := fun y As σ => match y with
  | (N, E, A, B, V, z, T, ms, nm, j, g, f) => ∃ (p1 : Nat) (p2 : Int64), As = [.inr (.inr (some (E 4))), .inr (.inr (some p1)), .inr (.inl p2)] ∧ (SsC E A B σ z T ms nm) ∧ (PfC E σ) ∧ (TgC N B σ z) ∧ (WfS z T ∧ UpS z ∧ BiC B z ∧ SxS z) ∧ (j < snM z) ∧ (p1 = B j) ∧ (AzC E B σ z g) ∧ (2 * snM z ≤ f + 1 + 2 * j)
abbrev Qz_behindIf : ((Int → Int) × (Nat → Nat) × (Nat → Nat) × (Nat → Nat) × (Nat → Nat) × ZS × TbT × MfT × Nat × Nat × GzA × Nat) → CqC := fun y As σ w τ => match y, As with
  | (N, E, A, B, V, z, T, ms, nm, j, g, f), [_, .inr (.inr (some p1)), .inr (.inl p2)] => ∃ r, w = some (.inr (.inl r)) ∧ r = (ifA (asF N z T f) z T j p2 g).1 ∧ AzC E B τ z (ifA (asF N z T f) z T j p2 g).2
  | _, _ => True
abbrev Uz_behindIf : CqC := fun As σ w τ => ∀ y, Pz_behindIf y As σ → Qz_behindIf y As σ w τ
abbrev Pz_behindLoop : ((Int → Int) × (Nat → Nat) × (Nat → Nat) × (Nat → Nat) × (Nat → Nat) × ZS × TbT × MfT × Nat × Nat × GzA × Nat) → CpC := fun y As σ => match y with
  | (N, E, A, B, V, z, T, ms, nm, j, g, f) => ∃ (p1 : Nat) (p2 : Int64), As = [.inr (.inr (some (E 4))), .inr (.inr (some p1)), .inr (.inl p2)] ∧ (SsC E A B σ z T ms nm) ∧ (PfC E σ) ∧ (TgC N B σ z) ∧ (WfS z T ∧ UpS z ∧ BiC B z ∧ SxS z) ∧ (j < snM z) ∧ (p1 = B j) ∧ (AzC E B σ z g) ∧ (2 * snM z ≤ f + 1 + 2 * j) ∧ (kjS z j = 58 ∨ kjS z j = 59 ∨ kjS z j = 60)
abbrev Qz_behindLoop : ((Int → Int) × (Nat → Nat) × (Nat → Nat) × (Nat → Nat) × (Nat → Nat) × ZS × TbT × MfT × Nat × Nat × GzA × Nat) → CqC := fun y As σ w τ => match y, As with
  | (N, E, A, B, V, z, T, ms, nm, j, g, f), [_, .inr (.inr (some p1)), .inr (.inl p2)] => ∃ r, w = some (.inr (.inl r)) ∧ r = (lpA (asF N z T f) z T j p2 g).1 ∧ AzC E B τ z (lpA (asF N z T f) z T j p2 g).2
  | _, _ => True
abbrev Uz_behindLoop : CqC := fun As σ w τ => ∀ y, Pz_behindLoop y As σ → Qz_behindLoop y As σ w τ
abbrev Pz_behindSwitch : ((Int → Int) × (Nat → Nat) × (Nat → Nat) × (Nat → Nat) × (Nat → Nat) × ZS × TbT × MfT × Nat × Nat × GzA × Nat) → CpC := fun y As σ => match y with
  | (N, E, A, B, V, z, T, ms, nm, j, g, f) => ∃ (p1 : Nat) (p2 : Int64), As = [.inr (.inr (some (E 4))), .inr (.inr (some p1)), .inr (.inl p2)] ∧ (SsC E A B σ z T ms nm) ∧ (PfC E σ) ∧ (TgC N B σ z) ∧ (WfS z T ∧ UpS z ∧ BiC B z ∧ SxS z) ∧ (j < snM z) ∧ (p1 = B j) ∧ (AzC E B σ z g) ∧ (2 * snM z ≤ f + 1 + 2 * j)
abbrev Qz_behindSwitch : ((Int → Int) × (Nat → Nat) × (Nat → Nat) × (Nat → Nat) × (Nat → Nat) × ZS × TbT × MfT × Nat × Nat × GzA × Nat) → CqC := fun y As σ w τ => match y, As with
  | (N, E, A, B, V, z, T, ms, nm, j, g, f), [_, .inr (.inr (some p1)), .inr (.inl p2)] => ∃ r, w = some (.inr (.inl r)) ∧ r = (swA (asF N z T f) z T j p2 g).1 ∧ AzC E B τ z (swA (asF N z T f) z T j p2 g).2
  | _, _ => True
abbrev Uz_behindSwitch : CqC := fun As σ w τ => ∀ y, Pz_behindSwitch y As σ → Qz_behindSwitch y As σ w τ
abbrev Pz_behindTry : ((Int → Int) × (Nat → Nat) × (Nat → Nat) × (Nat → Nat) × (Nat → Nat) × ZS × TbT × MfT × Nat × Nat × GzA × Nat) → CpC := fun y As σ => match y with
  | (N, E, A, B, V, z, T, ms, nm, j, g, f) => ∃ (p1 : Nat) (p2 : Int64), As = [.inr (.inr (some (E 4))), .inr (.inr (some p1)), .inr (.inl p2)] ∧ (SsC E A B σ z T ms nm) ∧ (PfC E σ) ∧ (TgC N B σ z) ∧ (WfS z T ∧ UpS z ∧ BiC B z ∧ SxS z) ∧ (j < snM z) ∧ (p1 = B j) ∧ (AzC E B σ z g) ∧ (2 * snM z ≤ f + 1 + 2 * j)
abbrev Qz_behindTry : ((Int → Int) × (Nat → Nat) × (Nat → Nat) × (Nat → Nat) × (Nat → Nat) × ZS × TbT × MfT × Nat × Nat × GzA × Nat) → CqC := fun y As σ w τ => match y, As with
  | (N, E, A, B, V, z, T, ms, nm, j, g, f), [_, .inr (.inr (some p1)), .inr (.inl p2)] => ∃ r, w = some (.inr (.inl r)) ∧ r = (tyA (asF N z T f) z j p2 g).1 ∧ AzC E B τ z (tyA (asF N z T f) z j p2 g).2
  | _, _ => True
abbrev Uz_behindTry : CqC := fun As σ w τ => ∀ y, Pz_behindTry y As σ → Qz_behindTry y As σ w τ
set_option maxHeartbeats 4000000 in
theorem pz_assign (y : (Int → Int) × (Nat → Nat) × (Nat → Nat) × (Nat → Nat) × (Nat → Nat) × ZS × TbT × MfT × Nat × Nat × GzA × Nat) : PbC KX2_assign [(32, TrP, EqC 32)] [(32, Uz_behind)] (fun As σ => Pz_assign y As σ ∧ cnC σ ≤ 1000000 ∧ ∃ w τ, uqC quL 29 As σ w τ) (Qz_assign y) := by sorry
set_option maxHeartbeats 4000000 in
theorem pz_assignBody (y : (Int → Int) × (Nat → Nat) × (Nat → Nat) × (Nat → Nat) × (Nat → Nat) × ZS × TbT × MfT × Nat × Nat × GzA × Nat) : PbC KX2_assignBody [(29, TrP, EqC 29)] [(29, Uz_assign)] (fun As σ => Pz_assignBody y As σ ∧ cnC σ ≤ 1000000 ∧ ∃ w τ, uqC quL 31 As σ w τ) (Qz_assignBody y) := by sorry
set_option maxHeartbeats 4000000 in
theorem pz_assignRow (y : (Int → Int) × (Nat → Nat) × (Nat → Nat) × (Nat → Nat) × (Nat → Nat) × ZS × TbT × MfT × Nat × Int × GzA × Nat) : PbC KX2_assignRow [(29, TrP, EqC 29)] [(29, Uz_assign)] (fun As σ => Pz_assignRow y As σ ∧ cnC σ ≤ 1000000 ∧ ∃ w τ, uqC quL 30 As σ w τ) (Qz_assignRow y) := by sorry
set_option maxHeartbeats 4000000 in
theorem pz_behindIf (y : (Int → Int) × (Nat → Nat) × (Nat → Nat) × (Nat → Nat) × (Nat → Nat) × ZS × TbT × MfT × Nat × Nat × GzA × Nat) : PbC KX2_behindIf [(39, TrP, EqC 39), (31, TrP, EqC 31), (29, TrP, EqC 29)] [(39, Uz_behindExp), (31, Uz_assignBody), (29, Uz_assign)] (fun As σ => Pz_behindIf y As σ ∧ cnC σ ≤ 1000000 ∧ ∃ w τ, uqC quL 35 As σ w τ) (Qz_behindIf y) := by sorry
set_option maxHeartbeats 4000000 in
theorem pz_behindLoop (y : (Int → Int) × (Nat → Nat) × (Nat → Nat) × (Nat → Nat) × (Nat → Nat) × ZS × TbT × MfT × Nat × Nat × GzA × Nat) : PbC KX2_behindLoop [(39, TrP, EqC 39), (31, TrP, EqC 31), (30, TrP, EqC 30)] [(39, Uz_behindExp), (31, Uz_assignBody), (30, Uz_assignRow)] (fun As σ => Pz_behindLoop y As σ ∧ cnC σ ≤ 1000000 ∧ ∃ w τ, uqC quL 36 As σ w τ) (Qz_behindLoop y) := by sorry
set_option maxHeartbeats 4000000 in
theorem pz_behindTry (y : (Int → Int) × (Nat → Nat) × (Nat → Nat) × (Nat → Nat) × (Nat → Nat) × ZS × TbT × MfT × Nat × Nat × GzA × Nat) : PbC KX2_behindTry [(29, TrP, EqC 29), (31, TrP, EqC 31), (222, TrP, EqC 222)] [(29, Uz_assign), (31, Uz_assignBody), (222, Uz_bitq)] (fun As σ => Pz_behindTry y As σ ∧ cnC σ ≤ 1000000 ∧ ∃ w τ, uqC quL 38 As σ w τ) (Qz_behindTry y) := by sorry
set_option maxHeartbeats 4000000 in
theorem pz_behindSwitch (y : (Int → Int) × (Nat → Nat) × (Nat → Nat) × (Nat → Nat) × (Nat → Nat) × ZS × TbT × MfT × Nat × Nat × GzA × Nat) : PbC KX2_behindSwitch [(39, TrP, EqC 39), (29, TrP, EqC 29)] [(39, Uz_behindExp), (29, Uz_assign)] (fun As σ => Pz_behindSwitch y As σ ∧ cnC σ ≤ 1000000 ∧ ∃ w τ, uqC quL 37 As σ w τ) (Qz_behindSwitch y) := by sorry
set_option maxHeartbeats 4000000 in
theorem pz_behind (y : (Int → Int) × (Nat → Nat) × (Nat → Nat) × (Nat → Nat) × (Nat → Nat) × ZS × TbT × MfT × Nat × Nat × GzA × Nat) : PbC KX2_behind [(30, TrP, EqC 30), (31, TrP, EqC 31), (35, TrP, EqC 35), (36, TrP, EqC 36), (37, TrP, EqC 37), (34, TrP, EqC 34), (39, TrP, EqC 39), (38, TrP, EqC 38), (33, TrP, EqC 33)] [(30, Uz_assignRow), (31, Uz_assignBody), (35, Uz_behindIf), (36, Uz_behindLoop), (37, Uz_behindSwitch), (34, Uz_leadTo), (39, Uz_behindExp), (38, Uz_behindTry), (33, Uz_behindTold)] (fun As σ => Pz_behind y As σ ∧ cnC σ ≤ 1000000 ∧ ∃ w τ, uqC quL 32 As σ w τ) (Qz_behind y) := by sorry
theorem grp_asg : ∀ L : Nat, (∀ (As : List AvC) (σ : CsC) (w : Option AvC) (τ : CsC), EvF L 29 As σ w τ → Uz_assign As σ w τ) ∧ (∀ (As : List AvC) (σ : CsC) (w : Option AvC) (τ : CsC), EvF L 30 As σ w τ → Uz_assignRow As σ w τ) ∧ (∀ (As : List AvC) (σ : CsC) (w : Option AvC) (τ : CsC), EvF L 31 As σ w τ → Uz_assignBody As σ w τ) ∧ (∀ (As : List AvC) (σ : CsC) (w : Option AvC) (τ : CsC), EvF L 32 As σ w τ → Uz_behind As σ w τ) ∧ (∀ (As : List AvC) (σ : CsC) (w : Option AvC) (τ : CsC), EvF L 35 As σ w τ → Uz_behindIf As σ w τ) ∧ (∀ (As : List AvC) (σ : CsC) (w : Option AvC) (τ : CsC), EvF L 36 As σ w τ → Uz_behindLoop As σ w τ) ∧ (∀ (As : List AvC) (σ : CsC) (w : Option AvC) (τ : CsC), EvF L 37 As σ w τ → Uz_behindSwitch As σ w τ) ∧ (∀ (As : List AvC) (σ : CsC) (w : Option AvC) (τ : CsC), EvF L 38 As σ w τ → Uz_behindTry As σ w τ) := by sorry
theorem wz_assign (L : Nat) : ∀ (As : List AvC) (σ : CsC) (w : Option AvC) (τ : CsC), EvF L 29 As σ w τ → Uz_assign As σ w τ := (grp_asg L).1
theorem wz_assignRow (L : Nat) : ∀ (As : List AvC) (σ : CsC) (w : Option AvC) (τ : CsC), EvF L 30 As σ w τ → Uz_assignRow As σ w τ := (grp_asg L).2.1
theorem wz_assignBody (L : Nat) : ∀ (As : List AvC) (σ : CsC) (w : Option AvC) (τ : CsC), EvF L 31 As σ w τ → Uz_assignBody As σ w τ := (grp_asg L).2.2.1
theorem wz_behind (L : Nat) : ∀ (As : List AvC) (σ : CsC) (w : Option AvC) (τ : CsC), EvF L 32 As σ w τ → Uz_behind As σ w τ := (grp_asg L).2.2.2.1
theorem wz_behindIf (L : Nat) : ∀ (As : List AvC) (σ : CsC) (w : Option AvC) (τ : CsC), EvF L 35 As σ w τ → Uz_behindIf As σ w τ := (grp_asg L).2.2.2.2.1
theorem wz_behindLoop (L : Nat) : ∀ (As : List AvC) (σ : CsC) (w : Option AvC) (τ : CsC), EvF L 36 As σ w τ → Uz_behindLoop As σ w τ := (grp_asg L).2.2.2.2.2.1
theorem wz_behindSwitch (L : Nat) : ∀ (As : List AvC) (σ : CsC) (w : Option AvC) (τ : CsC), EvF L 37 As σ w τ → Uz_behindSwitch As σ w τ := (grp_asg L).2.2.2.2.2.2.1
theorem wz_behindTry (L : Nat) : ∀ (As : List AvC) (σ : CsC) (w : Option AvC) (τ : CsC), EvF L 38 As σ w τ → Uz_behindTry As σ w τ := (grp_asg L).2.2.2.2.2.2.2
/-! the class's judge: methods -/
/-- method k is told before -/
def m1T (ms : MfT) (k : Nat) : Nat → Prop
  | 0 => True
  | n + 1 => m1T ms k n ∧ ((n < k ∨ 10 ≤ n) → ∀ b m, ms n = some b → ms k = some m → ¬ (b.1 = m.1 ∧ b.2.2 = m.2.2))
/-- bodies of methods, their first variables -/
def MbC (E B : Nat → Nat) (σ : CsC) (z : ZS) (ms : MfT) (nm : Nat) (J : Nat → Nat) (V1 : Nat → Int) : Prop := ∀ k, k < nm → fRC σ (E (1000 + k)) 186 = some (B (J k)) ∧ J k < snM z ∧ (fIC σ (E (1000 + k)) 184).toInt = V1 k ∧ E (1000 + k) < cnC σ ∧ ∃ m, ms k = some m
theorem MbC.fr {E B : Nat → Nat} {M : List Nat} {σ τ : CsC} {z : ZS} {ms : MfT} {nm : Nat} {J : Nat → Nat} {V1 : Nat → Int} (h : MbC E B σ z ms nm J V1) (f : FrE M σ τ) (hM : [999, 186, 184].all (fun k => !M.elem k) = true) : MbC E B τ z ms nm J V1 := by sorry
def mtyN (ms : MfT) (k : Nat) : Int := match ms k with
  | some m => m.2.1
  | none => 5
theorem mty_s {ms : MfT} {k : Nat} {m : MtT} (h : ms k = some m) : mtyN ms k = m.2.1 := by sorry
/-- all methods REACHED, from the k-th on -/
def raL (F : RcT) (z : ZS) (ms : MfT) (J : Nat → Nat) : Nat → Nat → RR → RR
  | 0, _, r => r
  | n + 1, k, r => raL F z ms J n (k + 1) (if (rwR F z (J k) r).1 = true ∧ ¬ mtyN ms k = 5 then rrX (rwR F z (J k) r).2 else (rwR F z (J k) r).2)
/-- params of a method -/
def pbL (v : Int) : Nat → Nat → Int64 → Int64
  | 0, _, m => m
  | n + 1, i, m => pbL v n (i + 1) (m ||| bitQ (v + (i : Int)))
def npT (ms : MfT) (k : Nat) : Nat := match ms k with
  | some m => m.2.2.length
  | none => 0
theorem np_s {ms : MfT} {k : Nat} {m : MtT} (h : ms k = some m) : npT ms k = m.2.2.length := by sorry
/-- all methods SURELY assigned -/
def asL (F : AsT) (ms : MfT) (J : Nat → Nat) (V1 : Nat → Int) : Nat → Nat → GzA → GzA
  | 0, _, g => g
  | n + 1, k, g => asL F ms J V1 n (k + 1) (F.2.2 (J k) (pbL (V1 k) (npT ms k) 0 zerB) g).2
abbrev Pz_judgeMethod : ((Int → Int) × (Nat → Nat) × (Nat → Nat) × (Nat → Nat) × (Nat → Nat) × ZS × TbT × MfT × Nat × Nat × MtT) → CpC := fun y As σ => match y with
  | (N, E, A, B, V, z, T, ms, nm, k, m) => ∃ (p1 : Int32), As = [.inr (.inr (some (E 3))), .inl p1] ∧ (SsC E A B σ z T ms nm) ∧ (NmC N E σ) ∧ (p1.toInt = (k : Int)) ∧ (k < nm) ∧ (ms k = some m)
abbrev Qz_judgeMethod : ((Int → Int) × (Nat → Nat) × (Nat → Nat) × (Nat → Nat) × (Nat → Nat) × ZS × TbT × MfT × Nat × Nat × MtT) → CqC := fun y As σ w τ => match y, As with
  | (N, E, A, B, V, z, T, ms, nm, k, m), [_, .inl p1] => w = none ∧ (erC E τ ↔ erC E σ ∨ ¬ m1T ms k 12) ∧ (erC E τ ∨ WeC σ τ)
  | _, _ => True
abbrev Uz_judgeMethod : CqC := fun As σ w τ => ∀ y, Pz_judgeMethod y As σ → Qz_judgeMethod y As σ w τ
set_option maxHeartbeats 4000000 in
theorem pz_judgeMethod (y : (Int → Int) × (Nat → Nat) × (Nat → Nat) × (Nat → Nat) × (Nat → Nat) × ZS × TbT × MfT × Nat × Nat × MtT) : PbC KX3_judgeMethod [(235, TrP, EqC 235), (119, TrP, EqC 119), (113, TrP, EqC 113), (118, TrP, EqC 118)] [(119, Uz_methodOf), (113, Uz_hasSameParams), (118, Uz_tell)] (fun As σ => Pz_judgeMethod y As σ ∧ cnC σ ≤ 1000000 ∧ ∃ w τ, uqC quL 50 As σ w τ) (Qz_judgeMethod y) := by sorry
theorem wz_judgeMethod : ∀ (L : Nat) (As : List AvC) (σ : CsC) (w : Option AvC) (τ : CsC), EvF L 50 As σ w τ → Uz_judgeMethod As σ w τ := by sorry
abbrev Pz_reachAll : ((Int → Int) × (Nat → Nat) × (Nat → Nat) × (Nat → Nat) × (Nat → Nat) × ZS × TbT × MfT × Nat × (Nat → Nat) × (Nat → Int) × RR × Nat) → CpC := fun y As σ => match y with
  | (N, E, A, B, V, z, T, ms, nm, J, V1, r, f) => As = [.inr (.inr (some (E 4))), .inr (.inr (some (E 1)))] ∧ (SsC E A B σ z T ms nm) ∧ (TgC N B σ z) ∧ (WfS z T ∧ UpS z ∧ BiC B z) ∧ (RhC E B σ z r) ∧ (MbC E B σ z ms nm J V1) ∧ (E 4 < cnC σ) ∧ (2 * snM z ≤ f + 1)
abbrev Qz_reachAll : ((Int → Int) × (Nat → Nat) × (Nat → Nat) × (Nat → Nat) × (Nat → Nat) × ZS × TbT × MfT × Nat × (Nat → Nat) × (Nat → Int) × RR × Nat) → CqC := fun y As σ w τ => match y, As with
  | (N, E, A, B, V, z, T, ms, nm, J, V1, r, f), [_, _] => w = none ∧ RhC E B τ z (raL (rcF N z T f) z ms J nm 0 r)
  | _, _ => True
abbrev Uz_reachAll : CqC := fun As σ w τ => ∀ y, Pz_reachAll y As σ → Qz_reachAll y As σ w τ
set_option maxHeartbeats 4000000 in
theorem pz_reachAll (y : (Int → Int) × (Nat → Nat) × (Nat → Nat) × (Nat → Nat) × (Nat → Nat) × ZS × TbT × MfT × Nat × (Nat → Nat) × (Nat → Int) × RR × Nat) : PbC KX2_reachAll [(234, TrP, EqC 234), (235, TrP, EqC 235), (21, TrP, EqC 21), (118, TrP, EqC 118)] [(21, Uz_reachRow), (118, Uz_tell)] (fun As σ => Pz_reachAll y As σ ∧ cnC σ ≤ 1000000 ∧ ∃ w τ, uqC quL 20 As σ w τ) (Qz_reachAll y) := by sorry
theorem wz_reachAll : ∀ (L : Nat) (As : List AvC) (σ : CsC) (w : Option AvC) (τ : CsC), EvF L 20 As σ w τ → Uz_reachAll As σ w τ := by sorry
abbrev Pz_assignAll : ((Int → Int) × (Nat → Nat) × (Nat → Nat) × (Nat → Nat) × (Nat → Nat) × ZS × TbT × MfT × Nat × (Nat → Nat) × (Nat → Int) × GzA × Nat) → CpC := fun y As σ => match y with
  | (N, E, A, B, V, z, T, ms, nm, J, V1, g, f) => As = [.inr (.inr (some (E 4))), .inr (.inr (some (E 1)))] ∧ (SsC E A B σ z T ms nm) ∧ (TgC N B σ z) ∧ (WfS z T ∧ UpS z ∧ BiC B z ∧ SxS z) ∧ (AzC E B σ z g) ∧ (MbC E B σ z ms nm J V1) ∧ (E 4 < cnC σ) ∧ (2 * snM z ≤ f) ∧ (∀ k, k < nm → 0 ≤ V1 k ∧ V1 k ≤ 1000)
abbrev Qz_assignAll : ((Int → Int) × (Nat → Nat) × (Nat → Nat) × (Nat → Nat) × (Nat → Nat) × ZS × TbT × MfT × Nat × (Nat → Nat) × (Nat → Int) × GzA × Nat) → CqC := fun y As σ w τ => match y, As with
  | (N, E, A, B, V, z, T, ms, nm, J, V1, g, f), [_, _] => w = none ∧ AzC E B τ z (asL (asF N z T f) ms J V1 nm 0 g)
  | _, _ => True
abbrev Uz_assignAll : CqC := fun As σ w τ => ∀ y, Pz_assignAll y As σ → Qz_assignAll y As σ w τ
set_option maxHeartbeats 4000000 in
theorem pz_assignAll (y : (Int → Int) × (Nat → Nat) × (Nat → Nat) × (Nat → Nat) × (Nat → Nat) × ZS × TbT × MfT × Nat × (Nat → Nat) × (Nat → Int) × GzA × Nat) : PbC KX2_assignAll [(234, TrP, EqC 234), (235, TrP, EqC 235), (29, TrP, EqC 29), (222, TrP, EqC 222)] [(29, Uz_assign), (222, Uz_bitq)] (fun As σ => Pz_assignAll y As σ ∧ cnC σ ≤ 1000000 ∧ ∃ w τ, uqC quL 28 As σ w τ) (Qz_assignAll y) := by sorry
theorem wz_assignAll : ∀ (L : Nat) (As : List AvC) (σ : CsC) (w : Option AvC) (τ : CsC), EvF L 28 As σ w τ → Uz_assignAll As σ w τ := by sorry
/-! the class's judge: a whole program: what stands -/
theorem xu_we {σ τ : CsC} (w : WeC σ τ) : XuC [] σ τ 0 := by sorry
theorem StC.we {N : Int → Int} {E A B V : Nat → Nat} {σ τ : CsC} {z : ZS} {ms : MfT} {nm : Nat} (h : StC N E A B V σ z ms nm) (w : WeC σ τ) : StC N E A B V τ z ms nm := by sorry
/-- as they are read -/
theorem JxC.z {N : Int → Int} {E A B V : Nat → Nat} {σ : CsC} {z : ZS} {ms : MfT} {nm : Nat} (h : StC N E A B V σ z ms nm) : JxC E A V z σ σ (t0T N (fun i => xth z i)) 0 := by sorry
/-- bounds: rows of lists, methods; the flow's object -/
def BdC (E : Nat → Nat) (σ : CsC) (ms : MfT) : Prop := (RoC σ (E 211)) ∧ (RoC σ (E 213)) ∧ (RoC σ (E 212)) ∧ (∀ i m, ms i = some m → MoE E i < cnC σ) ∧ (E 2 < cnC σ ∧ E 304 < cnC σ) ∧ fRC σ (E 3) 120 = some (E 4) ∧ E 4 < cnC σ
theorem SsC.of {N : Int → Int} {E A B V : Nat → Nat} {σ0 σ : CsC} {z : ZS} {ms : MfT} {nm : Nat} {T : TbT} {i : Nat} (hS : StC N E A B V σ0 z ms nm) (h : JxC E A V z σ0 σ T i) (hb : BdC E σ0 ms) : SsC E A B σ z T ms nm := by sorry
theorem NmC.of {N : Int → Int} {E A B V : Nat → Nat} {σ0 σ : CsC} {z : ZS} {ms : MfT} {nm : Nat} {T : TbT} {i : Nat} (hS : StC N E A B V σ0 z ms nm) (h : JxC E A V z σ0 σ T i) (hb : BdC E σ0 ms) : NmC N E σ := by sorry
theorem BdC.we {E : Nat → Nat} {σ τ : CsC} {ms : MfT} (h : BdC E σ ms) (w : WeC σ τ) : BdC E τ ms := by sorry
theorem MbC.we {E B : Nat → Nat} {σ τ : CsC} {z : ZS} {ms : MfT} {nm : Nat} {J : Nat → Nat} {V1 : Nat → Int} (h : MbC E B σ z ms nm J V1) (w : WeC σ τ) : MbC E B τ z ms nm J V1 := by sorry
theorem MbC.jf {E A B : Nat → Nat} {σ τ : CsC} {z : ZS} {ms : MfT} {nm : Nat} {J : Nat → Nat} {V1 : Nat → Int} (h : MbC E B σ z ms nm J V1) (f : JfC E A z σ τ) : MbC E B τ z ms nm J V1 := by sorry
/-- where the judge finds what it goes over -/
def PqC (E : Nat → Nat) (σ : CsC) : Prop := (fRC σ (E 3) 121 = some (E 1) ∧ fRC σ (E 3) 120 = some (E 4)) ∧ (fRC σ (E 1) 211 = some (E 211) ∧ fRC σ (E 1) 212 = some (E 212) ∧ fRC σ (E 1) 213 = some (E 213) ∧ fRC σ (E 1) 214 = some (E 214)) ∧ E 3 < cnC σ ∧ E 1 < cnC σ
theorem PqC.fr {E : Nat → Nat} {M : List Nat} {σ τ : CsC} (h : PqC E σ) (f : FrE M σ τ) (hM : [999, 120, 121, 211, 212, 213, 214].all (fun k => !M.elem k) = true) : PqC E τ := by sorry
theorem PqC.of {N : Int → Int} {E A B V : Nat → Nat} {σ : CsC} {z : ZS} {ms : MfT} {nm : Nat} (hS : StC N E A B V σ z ms nm) (hb : BdC E σ ms) : PqC E σ := by sorry
theorem exq_s {P : Nat → Prop} {n : Nat} : (∃ k, k < n + 1 ∧ P k) ↔ (∃ k, k < n ∧ P k) ∨ P n := by sorry
/-- which variables clash -/
def clS (z : ZS) (v : Nat) : Int := z.2.2.2.2.2.1 v
/-- a program without ERRORS: r0, g0: what stands at first -/
def r00 : RR := (fun _ => false, fun _ => false, fun _ => false, false)
def PokT (N : Int → Int) (z : ZS) (ms : MfT) (nm : Nat) (J : Nat → Nat) (V1 : Nat → Int) (f : Nat) (g0 : GzA) (T : TbT) : Prop := ((∀ k, k < nm → m1T ms k 12) ∧ ∀ v, v < (zVs z.1).length → clS z v = 0) ∧ tbT (CzT N z ms) (fun i => xth z i) (xnM z) = some T ∧ (∀ j, j < snM z → skT N z T ms j) ∧ (raL (rcF N z T f) z ms J nm 0 r00).2.2.2 = false ∧ (asL (asF N z T f) ms J V1 nm 0 g0).2.2.2.2.2.2.2 = false
/-- what the class's flow begins with -/
def G0T (z : ZS) (g : GzA) : Prop := (∀ j, j < snM z → g.2.2.1 j = allB ∧ g.2.2.2.1 j = allB) ∧ g.2.2.2.2.2.2.2 = false
def g00 : GzA := (fun _ => zerB, fun _ => zerB, fun _ => allB, fun _ => allB, (zerB, zerB, [], false))
theorem g00_0 {z : ZS} : G0T z g00 := ⟨fun _ _ => ⟨rfl, rfl⟩, rfl⟩
/-- judged: with an ERROR, or without one and all as it is told -/
def JdC (N : Int → Int) (E A B : Nat → Nat) (σ τ : CsC) (z : ZS) (ms : MfT) (nm : Nat) (J : Nat → Nat) (V1 : Nat → Int) (f : Nat) : Prop := ∃ g0, G0T z g0 ∧ ((erC E τ ∧ ∀ T, ¬ PokT N z ms nm J V1 f g0 T) ∨ (¬ erC E τ ∧ ∃ T, PokT N z ms nm J V1 f g0 T ∧ SsC E A B τ z T ms nm ∧ (∀ j, j < snM z → (fIC τ (B j) 282).toInt = bZI ((raL (rcF N z T f) z ms J nm 0 r00).1 j) ∧ fLC τ (B j) 285 = (asL (asF N z T f) ms J V1 nm 0 g0).1 j) ∧ ∀ q : Nat, (eIC τ (E 303) q).toInt = mnT z T.1 (fun i => (eIC σ (E 303) i).toInt) (xnM z) q))
theorem JdC.bad {N : Int → Int} {E A B : Nat → Nat} {σ τ : CsC} {z : ZS} {ms : MfT} {nm : Nat} {J : Nat → Nat} {V1 : Nat → Int} {f : Nat} (h : erC E τ) (hn : ∀ g0 T, ¬ PokT N z ms nm J V1 f g0 T) : JdC N E A B σ τ z ms nm J V1 f := ⟨g00, g00_0, Or.inl ⟨h, hn g00⟩⟩
/-! the class's judge: a whole program -/
def nokM (ms : MfT) (n : Nat) : Prop := ∃ k, k < n ∧ ¬ m1T ms k 12
def nokV (z : ZS) (n : Nat) : Prop := ∃ v, v < n ∧ ¬ clS z v = 0
theorem nokM_s {ms : MfT} {n : Nat} : nokM ms (n + 1) ↔ nokM ms n ∨ ¬ m1T ms n 12 := exq_s
theorem nokV_s {z : ZS} {n : Nat} : nokV z (n + 1) ↔ nokV z n ∨ ¬ clS z n = 0 := exq_s
theorem nokM_0 {ms : MfT} : ¬ nokM ms 0 := fun ⟨_, q, _⟩ => Nat.not_lt_zero _ q
theorem nokV_0 {z : ZS} : ¬ nokV z 0 := fun ⟨_, q, _⟩ => Nat.not_lt_zero _ q
theorem nokM_n {ms : MfT} {n : Nat} : nokM ms n ↔ ¬ ∀ k, k < n → m1T ms k 12 := by sorry
theorem nokV_n {z : ZS} {n : Nat} : nokV z n ↔ ¬ ∀ v, v < n → clS z v = 0 := by sorry
def nokS (N : Int → Int) (z : ZS) (T : TbT) (ms : MfT) (n : Nat) : Prop := ∃ j, j < n ∧ ¬ skT N z T ms j
theorem nokS_s {N : Int → Int} {z : ZS} {T : TbT} {ms : MfT} {n : Nat} : nokS N z T ms (n + 1) ↔ nokS N z T ms n ∨ ¬ skT N z T ms n := exq_s
theorem nokS_0 {N : Int → Int} {z : ZS} {T : TbT} {ms : MfT} : ¬ nokS N z T ms 0 := fun ⟨_, q, _⟩ => Nat.not_lt_zero _ q
theorem nokS_n {N : Int → Int} {z : ZS} {T : TbT} {ms : MfT} {n : Nat} : nokS N z T ms n ↔ ¬ ∀ j, j < n → skT N z T ms j := by sorry
/-- behind the exps: all that the S's and the flow need -/
def Ph4 (N : Int → Int) (E A B : Nat → Nat) (σ s : CsC) (z : ZS) (T : TbT) (ms : MfT) (nm : Nat) (J : Nat → Nat) (V1 : Nat → Int) : Prop := (SsC E A B s z T ms nm ∧ NmC N E s ∧ ¬ erC E s ∧ MbC E B s z ms nm J V1 ∧ E 4 < cnC s) ∧ ((∀ j, j < snM z → fRC s (B j) 281 = none ∧ (fIC s (B j) 282 = 0 ∧ fIC s (B j) 283 = 0 ∧ fIC s (B j) 284 = 0) ∧ fLC s (B j) 287 = -1 ∧ fLC s (B j) 288 = -1) ∧ ∃ u, WzC E s u) ∧ ((LiC s (E 214) (snM z) B ∧ E 214 < cnC s ∧ RoC s (E 214)) ∧ E 303 < cnC s ∧ ∀ q : Nat, (eIC s (E 303) q).toInt = mnT z T.1 (fun i => (eIC σ (E 303) i).toInt) (xnM z) q)
theorem Ph4.of {N : Int → Int} {E A B V : Nat → Nat} {σ σq s : CsC} {z : ZS} {T : TbT} {ms : MfT} {nm : Nat} {J : Nat → Nat} {V1 : Nat → Int} (hS : StC N E A B V σq z ms nm) (hB : BdC E σq ms) (hM : MbC E B σq z ms nm J V1) (he3 : eIC σq = eIC σ) (hU : ∃ u, WzC E σq u) (hJ : JxC E A V z σq s T (xnM z)) (h214 : RoC σq (E 214)) : Ph4 N E A B σ s z T ms nm J V1 := by sorry
theorem WzC.fr {E : Nat → Nat} {M : List Nat} {σ τ : CsC} {u : WzS} (h : WzC E σ u) (f : FrE M σ τ) (hM : [999, 91, 92, 93, 94, 901].all (fun k => !M.elem k) = true) (h4 : E 4 < cnC σ) (h1 : ¬ erC E σ) (h2 : ¬ erC E τ) : WzC E τ u := by sorry
/-- the flow begins -/
theorem rh_0 {N : Int → Int} {E A B : Nat → Nat} {σ s4 s : CsC} {z : ZS} {T : TbT} {ms : MfT} {nm : Nat} {J : Nat → Nat} {V1 : Nat → Int} (h : Ph4 N E A B σ s4 z T ms nm J V1) (f : FrE [217, 218, 281] s4 s) (he : ¬ erC E s) : RhC E B s z r00 := by sorry
theorem az_0 {N : Int → Int} {E A B : Nat → Nat} {σ s4 s : CsC} {z : ZS} {T : TbT} {ms : MfT} {nm : Nat} {J : Nat → Nat} {V1 : Nat → Int} (h : Ph4 N E A B σ s4 z T ms nm J V1) (f : FrE [90, 217, 218, 281, 282, 283, 284] s4 s) (he : ¬ erC E s) : ∃ g0, G0T z g0 ∧ AzC E B s z g0 := by sorry
theorem SsC.we_ {E A B : Nat → Nat} {σ τ : CsC} {z : ZS} {T : TbT} {ms : MfT} {nm : Nat} (h : SsC E A B σ z T ms nm) (w : WeC σ τ) : SsC E A B τ z T ms nm := h.fr (M := []) (FrE.we FrE.rf w) rfl
theorem wz_we {E : Nat → Nat} {σ τ : CsC} (h : ∃ u, WzC E σ u) (w : WeC σ τ) : ∃ u, WzC E τ u := h.elim (fun u q => ⟨u, q.we w⟩)
abbrev Pz_judgeProgram : ((Int → Int) × (Nat → Nat) × (Nat → Nat) × (Nat → Nat) × (Nat → Nat) × ZS × MfT × Nat × (Nat → Nat) × (Nat → Int) × Nat) → CpC := fun y As σ => match y with
  | (N, E, A, B, V, z, ms, nm, J, V1, f) => As = [.inr (.inr (some (E 3))), .inr (.inr (some (E 1)))] ∧ (StC N E A B V (pRC σ (E 3) 121 (some (E 1))) z ms nm) ∧ (BdC E (pRC σ (E 3) 121 (some (E 1))) ms) ∧ (MbC E B (pRC σ (E 3) 121 (some (E 1))) z ms nm J V1) ∧ (∃ u, WzC E (pRC σ (E 3) 121 (some (E 1))) u) ∧ (∀ i T, i ≤ xnM z → tbT (CzT N z ms) (fun i => xth z i) i = some T → TyP z T i) ∧ (∀ T, tbT (CzT N z ms) (fun i => xth z i) (xnM z) = some T → WfS z T ∧ UpS z ∧ BiC B z ∧ SxS z) ∧ (∀ j, j < snM z → kjS z j = 61 → ∃ l, RwZ z (bjS z j) l ∧ l.Nodup) ∧ (∀ j, j < snM z → kjS z j = 66 → 0 ≤ ljS z j ∧ ∃ m, ms (ljS z j).toNat = some m) ∧ (∀ j, j < snM z → tjT N z j < (snM z : Int)) ∧ (∀ i, i < xnM z → (xth z i).1.1 = 10 → (xth z i).2.2.1.2.1 = (xth z i).2.2.2.headD (-1)) ∧ (∀ i, i < xnM z → (xth z i).1.1 = 10 → 0 ≤ (xth z i).1.2.2.1) ∧ (∀ i, i < xnM z → (xth z i).1.1 = 10 → (xth z i).2.2.2.length ≤ 500) ∧ (2 * snM z ≤ f) ∧ (∀ k, k < nm → 0 ≤ V1 k ∧ V1 k ≤ 1000) ∧ (snM z ≤ 100000 ∧ xnM z ≤ 100000) ∧ (RoC (pRC σ (E 3) 121 (some (E 1))) (E 214))
abbrev Qz_judgeProgram : ((Int → Int) × (Nat → Nat) × (Nat → Nat) × (Nat → Nat) × (Nat → Nat) × ZS × MfT × Nat × (Nat → Nat) × (Nat → Int) × Nat) → CqC := fun y As σ w τ => match y, As with
  | (N, E, A, B, V, z, ms, nm, J, V1, f), [_, _] => w = none ∧ JdC N E A B σ τ z ms nm J V1 f
  | _, _ => True
abbrev Uz_judgeProgram : CqC := fun As σ w τ => ∀ y, Pz_judgeProgram y As σ → Qz_judgeProgram y As σ w τ
set_option maxHeartbeats 4000000 in
theorem pz_judgeProgram (y : (Int → Int) × (Nat → Nat) × (Nat → Nat) × (Nat → Nat) × (Nat → Nat) × ZS × MfT × Nat × (Nat → Nat) × (Nat → Int) × Nat) : PbC KX3_judgeProgram [(234, TrP, EqC 234), (50, TrP, EqC 50), (235, TrP, EqC 235), (118, TrP, EqC 118), (53, TrP, EqC 53), (28, TrP, EqC 28), (20, TrP, EqC 20), (80, TrP, EqC 80)] [(50, Uz_judgeMethod), (118, Uz_tell), (53, Uz_judgeExp), (28, Uz_assignAll), (20, Uz_reachAll), (80, Uz_judgeStatement)] (fun As σ => Pz_judgeProgram y As σ ∧ cnC σ ≤ 1000000 ∧ ∃ w τ, uqC quL 49 As σ w τ) (Qz_judgeProgram y) := by sorry
theorem wz_judgeProgram : ∀ (L : Nat) (As : List AvC) (σ : CsC) (w : Option AvC) (τ : CsC), EvF L 49 As σ w τ → Uz_judgeProgram As σ w τ := by sorry
/-! records of exps, as they are laid: one induction for what each of them keeps -/
/-- what a record is like where it is laid -/
def RcX (N : Int → Int) (z : ZS) (x : XrZ) : Prop := ((0 ≤ x.1.1 ∧ x.1.1 ≤ 14) ∧ 0 ≤ x.2.2.1.1 ∧ x.2.2.1.1 ≤ (xnM z : Int)) ∧ ((x.1.1 = 2 ∨ x.1.1 = 6 ∨ x.1.1 = 9 ∨ x.1.1 = 14 → x.2.1.2.1 = lkM N z x.2.1.1) ∧ (¬ (x.1.1 = 2 ∨ x.1.1 = 6 ∨ x.1.1 = 9 ∨ x.1.1 = 14) → x.2.1.2.1 = -1 ∨ x.2.1.2.1 = 1)) ∧ (x.1.1 = 10 → x.2.2.1.2.1 = x.2.2.2.headD (-1) ∧ 0 ≤ x.1.2.2.1)
/-- kept by moves of the place, and by each record -/
def ClX (N : Int → Int) (I : ZS → Prop) : Prop := ((∀ z, I z → 0 ≤ zAt z.1) ∧ ∀ z s', I z → s'.2 = z.1.2 → zAt z.1 ≤ zAt s' → I (s', z.2)) ∧ ∀ z x, I z → RcX N z x → I (puM x z)
abbrev IvM (I : ZS → Prop) (f : ZS → ZS) : Prop := ∀ z, I z → I (f z)
theorem mv_rai {n : Int} {s : SpC} : (raiY n s).2 = s.2 ∧ zAt s ≤ zAt (raiY n s) := by sorry
theorem mv_acc {s : SpC} : (accY s).2 = s.2 ∧ zAt s ≤ zAt (accY s) := by sorry
theorem mv_xp {c : Int} {s : SpC} : (xpY c s).2 = s.2 ∧ zAt s ≤ zAt (xpY c s) := by sorry
theorem mv_typ {s : SpC} : (typY s).2 = s.2 ∧ zAt s ≤ zAt (typY s) := by sorry
theorem ClX.rai {N : Int → Int} {I : ZS → Prop} (h : ClX N I) {n : Int} : IvM I (raiM n) := fun z q => h.1.2 z _ q mv_rai.1 mv_rai.2
theorem ClX.acc {N : Int → Int} {I : ZS → Prop} (h : ClX N I) : IvM I accM := fun z q => h.1.2 z _ q mv_acc.1 mv_acc.2
theorem ClX.xp {N : Int → Int} {I : ZS → Prop} (h : ClX N I) {c : Int} : IvM I (xpM c) := fun z q => h.1.2 z _ q mv_xp.1 mv_xp.2
theorem ClX.typ {N : Int → Int} {I : ZS → Prop} (h : ClX N I) : IvM I typM := fun z q => h.1.2 z _ q mv_typ.1 mv_typ.2
theorem xc_suf {l l' : List ItZ} (h : l <:+ l') : xcZ l ≤ xcZ l' := by sorry
/-- how many exps there are goes up -/
abbrev UpM (f : ZS → ZS) : Prop := ∀ z, xnM z ≤ xnM (f z)
theorem up_ig {f : ZS → ZS} (h : IgM f) : UpM f := fun z => xc_suf (h z)
/-- records without a link -/
theorem rc_pl {N : Int → Int} {z : ZS} {x : XrZ} (hk : 0 ≤ x.1.1 ∧ x.1.1 ≤ 14) (hn : ¬ (x.1.1 = 2 ∨ x.1.1 = 6 ∨ x.1.1 = 9 ∨ x.1.1 = 14)) (h10 : ¬ x.1.1 = 10) (hs : 0 ≤ x.2.2.1.1 ∧ x.2.2.1.1 ≤ (xnM z : Int)) (hl : x.2.1.2.1 = -1 ∨ x.2.1.2.1 = 1) : RcX N z x := by sorry
theorem rc_lk {N : Int → Int} {z : ZS} {x : XrZ} (hn : x.1.1 = 2 ∨ x.1.1 = 6 ∨ x.1.1 = 9 ∨ x.1.1 = 14) (hs : 0 ≤ x.2.2.1.1 ∧ x.2.2.1.1 ≤ (xnM z : Int)) (hl : x.2.1.2.1 = lkM N z x.2.1.1) : RcX N z x := by sorry
def WtP (W : WtZ) (n : Nat) : Prop := ∀ w ∈ W, 0 ≤ w.2.2.1 ∧ w.2.2.1 ≤ (n : Int)
theorem WtP.mo {W : WtZ} {m n : Nat} (h : WtP W m) (q : m ≤ n) : WtP W n := fun w hw => ⟨(h w hw).1, by have := (h w hw).2; omega⟩
theorem iv_cl {N : Int → Int} {I : ZS → Prop} (hI : ClX N I) {p : Int} : ∀ (W : WtZ) (z : ZS), I z → WtP W (xnM z) → I (clM p W z) := by sorry
theorem iv_fk {N : Int → Int} {I : ZS → Prop} (hI : ClX N I) {z : ZS} (h : I z) : I (fkM z) := by sorry
theorem csw_q {p : Int} {n : Nat} : ∀ {W : WtZ}, WtP W n → WtP (cswZ p W) n := by sorry
theorem csr_q {p : Int} {n : Nat} : ∀ {W : WtZ} {r : Int × Int}, WtP W n → 0 ≤ r.2 ∧ r.2 ≤ (n : Int) → 0 ≤ (csrZ p W r).2 ∧ (csrZ p W r).2 ≤ (n : Int) := by sorry
theorem up_cl {p : Int} {W : WtZ} {z : ZS} : xnM z ≤ xnM (clM p W z) := xc_suf (ig_cl W z)
theorem up_fk {z : ZS} : xnM z ≤ xnM (fkM z) := xc_suf ig_fk
theorem iv_chl {N : Int → Int} {I : ZS → Prop} (hI : ClX N I) {O : ZS → ZS} (gO : IgM O) (hO : IvM I O) : ∀ (f : Nat) (W : WtZ) (r : Int × Int) (z : ZS), I z → WtP W (xnM z) → 0 ≤ r.2 ∧ r.2 ≤ (xnM z : Int) → I (chlM O f W r z) ∧ (0 ≤ r.2 ∧ r.2 ≤ (xnM (chlM O f W r z) : Int)) := by sorry
theorem iv_ch2 {N : Int → Int} {I : ZS → Prop} (hI : ClX N I) {E C : ZS → ZS} (gE : IgM E) (gC : IgM C) (hE : IvM I E) (hC : IvM I C) {r : Int × Int} {z : ZS} (h : I z) (hr : 0 ≤ r.2 ∧ r.2 ≤ (xnM z : Int)) : I (ch2M E C r z) := by sorry
theorem iv_chc {N : Int → Int} {I : ZS → Prop} (hI : ClX N I) {O E C : ZS → ZS} (gO : IgM O) (gE : IgM E) (gC : IgM C) (hO : IvM I O) (hE : IvM I E) (hC : IvM I C) : IvM I (chcM O E C) := by sorry
theorem lk_ks {N : Int → Int} {z z' : ZS} {t : Int} (h : z'.2.2 = z.2.2) : lkM N z' t = lkM N z t := by sorry
theorem iv_xps {N : Int → Int} {I : ZS → Prop} (hI : ClX N I) {O E C : ZS → ZS} (gO : IgM O) (gE : IgM E) (gC : IgM C) (kE : KsM E) (hO : IvM I O) (hE : IvM I E) (hC : IvM I C) : IvM I (xpsM N O E C) := by sorry
theorem iv_cle {N : Int → Int} {I : ZS → Prop} (hI : ClX N I) {r : Int × Int} {l : List Int} {z : ZS} (h : I z) (hr : (0 ≤ r.2 ∧ r.2 ≤ (xnM z : Int)) ∧ 0 ≤ r.1) : I (cleM r l z) := by sorry
theorem iv_clp {N : Int → Int} {I : ZS → Prop} (hI : ClX N I) {E : ZS → ZS} (gE : IgM E) (hE : IvM I E) {r : Int × Int} : ∀ (f : Nat) (l : List Int) (z : ZS), I z → (0 ≤ r.2 ∧ r.2 ≤ (xnM z : Int)) ∧ 0 ≤ r.1 → I (clpM E r f l z) := by sorry
theorem iv_opr {N : Int → Int} {I : ZS → Prop} (hI : ClX N I) {m : Nat} {E : ZS → ZS} {J : Int → ZS → ZS} (gE : IgM E) (gJ : ∀ g, IgM (J g)) (hE : IvM I E) (hJ : ∀ g, IvM I (J g)) (g : Int) : IvM I (oprM N m E J g) := by sorry
theorem iv_lv {N : Int → Int} {I : ZS → Prop} (hI : ClX N I) : ∀ n, IvM I (eM N n) ∧ IvM I (cM N n) ∧ ∀ g, IvM I (oM N n g) := by sorry
/-- an invariant that moves and records keep is kept by an exp -/
theorem iv_e {N : Int → Int} {I : ZS → Prop} (hI : ClX N I) {n : Nat} : IvM I (eM N n) := (iv_lv hI n).1
/-! the same along all that is read: what no step but records of exps can hurt -/
def ClA (N : Int → Int) (I : ZS → Prop) : Prop := ((∀ z z', I z → z'.2.1 = z.2.1 → zAt z.1 ≤ zAt z'.1 → I z') ∧ ∀ z c, I z → I (z.1, .inr c :: z.2.1, z.2.2)) ∧ (∀ z x, I z → x.1.1 = 15 → 0 ≤ x.2.2.1.1 ∧ x.2.2.1.1 ≤ (xnM z : Int) → I (puM x z)) ∧ ∀ n, IvM I (eM N n)
theorem mv_dcl {ty f h : Int} {s : SpC} : zAt s ≤ zAt (dclY ty f h s) := by sorry
section
variable {N : Int → Int} {I : ZS → Prop} {z : ZS}
theorem ClA.ac (h : ClA N I) (q : I z) : I (accM z) := h.1.1 z _ q rfl mv_acc.2
theorem ClA.ra (h : ClA N I) {c : Int} (q : I z) : I (raiM c z) := h.1.1 z _ q rfl mv_rai.2
theorem ClA.xp (h : ClA N I) {c : Int} (q : I z) : I (xpM c z) := h.1.1 z _ q rfl mv_xp.2
theorem ClA.ty (h : ClA N I) (q : I z) : I (typM z) := h.1.1 z _ q rfl mv_typ.2
theorem ClA.se (h : ClA N I) {j : Nat} {f : SrZ → SrZ} (q : I z) : I (seM j f z) := h.1.1 z _ q rfl (Int.le_refl _)
theorem ClA.ar (h : ClA N I) {j : Int} (q : I z) : I (arM j z) := h.1.1 z _ q rfl (Int.le_refl _)
theorem ClA.un (h : ClA N I) {j : Nat} (q : I z) : I (unM j z) := h.ar q
theorem ClA.be (h : ClA N I) {k l : Int} (q : I z) : I (beM k l z) := h.1.1 z _ q rfl (Int.le_refl _)
theorem ClA.th (h : ClA N I) (q : I z) : I (thM z) := h.1.1 z _ q rfl (Int.le_refl _)
theorem ClA.ve (h : ClA N I) {t : Int} {o : List (Int × Int)} (q : I z) : I (veM t o z) := h.1.1 z _ q rfl (Int.le_refl _)
theorem ClA.dc (h : ClA N I) {ty f g : Int} (q : I z) : I (dcM N ty f g z) := h.1.1 z _ q rfl mv_dcl
theorem ClA.co (h : ClA N I) {o a b t : Int} (q : I z) : I (coM o a b t z) := h.1.2 z _ q
theorem ClA.cx (h : ClA N I) {o a b t : Int} (q : I z) : I (cxM o a b t z) := h.1.2 z _ q
theorem ClA.bg (h : ClA N I) {k : Int} {n : Nat} (q : I z) : I (bgM k n z) := h.co (h.be q)
theorem ClA.bh (h : ClA N I) {k : Int} {n : Nat} (q : I z) : I (bgH k n z) := h.th (h.bg q)
theorem ClA.en (h : ClA N I) {j c : Nat} (q : I z) : I (enM j c z) := h.co q
theorem ClA.po (h : ClA N I) (q : I z) : I (poM z) := h.cx q
theorem ClA.ex (h : ClA N I) {j n : Nat} (q : I z) : I (exS N j n z) := h.se (h.2.2 n z q)
theorem ClA.cd (h : ClA N I) {j n : Nat} (q : I z) : I (cdM N j n z) := h.xp (h.ex (h.xp q))
theorem ClA.bd (h : ClA N I) {j k : Nat} (q : I z) : I (bdM j k z) := h.un (h.se q)
theorem ClA.xs (h : ClA N I) {n : Nat} (q : I z) : I (xsM N n z) := h.en (h.xp (h.po (h.ex (h.bg q))))
theorem ClA.va2 (h : ClA N I) {j n : Nat} {f v t : Int} (q : I z) : I (va2M N j n f v t z) := by sorry
theorem ClA.va1 (h : ClA N I) {j n : Nat} {f ty : Int} (q : I z) : I (va1M N j n f ty z) := h.va2 (h.se (h.dc q))
theorem ClA.va (h : ClA N I) {j n : Nat} (q : I z) : I (vaM N j n z) := by sorry
theorem ClA.to (h : ClA N I) {n : Nat} (q : I z) : I (toM N n z) := h.en (h.xp (h.va (h.bg q)))
theorem ClA.fx1 (h : ClA N I) {n : Nat} (q : I z) : I (fx1M N n z) := h.po (h.ex (h.be q))
end
theorem ClA.fxl {N : Int → Int} {I : ZS → Prop} (h : ClA N I) {n : Nat} : ∀ (f j : Nat) (z : ZS), I z → I (fxlM N n f j z) := by sorry
section
variable {N : Int → Int} {I : ZS → Prop} {z : ZS}
theorem ClA.fx (h : ClA N I) {n : Nat} (q : I z) : I (fxM N n z) := h.fxl 501 _ _ (h.fx1 q)
theorem ClA.cs (h : ClA N I) {n : Nat} {js : Int} (q : I z) : I (csM N js n z) := by sorry
theorem ClA.ju (h : ClA N I) {n : Nat} {k : Int} (q : I z) : I (juM N k n z) := by sorry
theorem ClA.gi (h : ClA N I) {n : Nat} {k : Int} (q : I z) : I (giM N k n z) := by sorry
/-- rows -/
abbrev RvA (I : ZS → Prop) (Rw : Int → Nat → ZS → ZS × Int) : Prop := ∀ sw js z, I z → I (Rw sw js z).1
variable {St : ZS → ZS} {Rw : Int → Nat → ZS → ZS × Int}
theorem ClA.blk (h : ClA N I) (r : RvA I Rw) {j : Nat} {o : List (Int × Int)} (q : I z) : I (blkM Rw j o z) := h.xp (h.ve (h.un (h.se (r _ _ _ (h.xp (h.ar q))))))
theorem ClA.bo (h : ClA N I) (r : RvA I Rw) {n : Nat} {o : List (Int × Int)} (q : I z) : I (boM Rw n o z) := h.blk r (h.be q)
theorem ClA.bl (h : ClA N I) (r : RvA I Rw) {n : Nat} (q : I z) : I (blM Rw n z) := h.en (h.blk r (h.bh q))
theorem ClA.em (h : ClA N I) {n : Nat} (q : I z) : I (emM n z) := h.en (h.ac (h.bg q))
theorem ClA.la (h : ClA N I) (s : IvM I St) {n : Nat} (q : I z) : I (laM n St z) := by sorry
theorem ClA.ifX (h : ClA N I) {j k c : Nat} (q : I z) : I (ifX j k c z) := h.en (h.co q)
theorem ClA.if2 (h : ClA N I) (s : IvM I St) {j k c : Nat} (q : I z) : I (if2M St j k c z) := by sorry
theorem ClA.if (h : ClA N I) (s : IvM I St) {n : Nat} (q : I z) : I (ifM N n St z) := h.if2 s (h.bd (s _ (h.ar (h.cx (h.cd (h.ac (h.bh q)))))))
theorem ClA.wh (h : ClA N I) (s : IvM I St) {n : Nat} (q : I z) : I (whM N n St z) := by sorry
theorem ClA.do (h : ClA N I) (s : IvM I St) {n : Nat} (q : I z) : I (doM N n St z) := by sorry
theorem ClA.fo1 (h : ClA N I) {j n : Nat} (q : I z) : I (fo1M N j n z) := by sorry
theorem ClA.fo2 (h : ClA N I) {j k n : Nat} (q : I z) : I (fo2M N j k n z) := by sorry
theorem ClA.fo3 (h : ClA N I) {j n : Nat} (q : I z) : I (fo3M N j n z) := by sorry
theorem ClA.foB (h : ClA N I) {j k n : Nat} (q : I z) : I (foB N j k n z) := by sorry
theorem ClA.fo (h : ClA N I) (s : IvM I St) {n : Nat} (q : I z) : I (foM2 N n St z) := h.en (h.co (h.ve (h.bd (s _ (h.foB (h.ac (h.bh q)))))))
theorem ClA.sw (h : ClA N I) (r : RvA I Rw) {n : Nat} (q : I z) : I (swM N n Rw z) := by sorry
theorem ClA.tr1 (h : ClA N I) (q : I z) : I (tr1M z) := by sorry
theorem ClA.tr2 (h : ClA N I) (r : RvA I Rw) {j k n : Nat} (q : I z) : I (tr2M N Rw j k n z) := by sorry
theorem ClA.tr3 (h : ClA N I) (r : RvA I Rw) {j k n : Nat} (q : I z) : I (tr3M Rw j k n z) := by sorry
theorem ClA.tr (h : ClA N I) (r : RvA I Rw) {n : Nat} (q : I z) : I (trM N n Rw z) := by sorry
theorem iv_if {c : Prop} [Decidable c] {a b : ZS} (p : I a) (q : I b) : I (if c then a else b) := by sorry
theorem ClA.sm (h : ClA N I) (s : IvM I St) (r : RvA I Rw) {n : Nat} (q : I z) : I (smM N n St Rw z) := by sorry
theorem ClA.rp2 (h : ClA N I) (s : IvM I St) {n : Nat} (q : I z) : I (rp2M N n St z) := by sorry
theorem ClA.rp (h : ClA N I) (s : IvM I St) {n js : Nat} {sw b : Int} (q : I z) : I (rpM N n St sw js b z) := by sorry
theorem ClA.nx (h : ClA N I) {l : Int} {j : Nat} (q : I z) : I (nxM l j z) := by sorry
end
theorem ClA.rwl {N : Int → Int} {I : ZS → Prop} (h : ClA N I) {St : ZS → ZS} (s : IvM I St) {n js : Nat} {sw : Int} : ∀ (k : Nat) (f l : Int) (z : ZS), I z → I (rwlM N n St sw js k f l z).1 := by sorry
theorem ClA.ls {N : Int → Int} {I : ZS → Prop} (h : ClA N I) : ∀ n, IvM I (lsM N n).1 ∧ RvA I (lsM N n).2 := by sorry
section
variable {N : Int → Int} {I : ZS → Prop} {z : ZS}
theorem ClA.pa2 (h : ClA N I) {i : Nat} {ty f : Int} (q : I z) : I (pa2M N i ty f z) := by sorry
theorem ClA.pa1 (h : ClA N I) {i : Nat} (q : I z) : I (pa1M N i z) := by sorry
end
theorem ClA.pal {N : Int → Int} {I : ZS → Prop} (h : ClA N I) : ∀ (f i : Nat) (z : ZS), I z → I (palM N f i z) := by sorry
theorem ClA.pa {N : Int → Int} {I : ZS → Prop} (h : ClA N I) {z : ZS} (q : I z) : I (paM N z) := by sorry
theorem ClA.me {N : Int → Int} {I : ZS → Prop} (h : ClA N I) {z : ZS} (q : I z) : I (meM N z) := by sorry
/-- all that is read keeps it -/
theorem ClA.pr {N : Int → Int} {I : ZS → Prop} (h : ClA N I) : ∀ (f : Nat) (z : ZS), I z → I (prM N f z) := by sorry
/-- of exps' records: where they start, their kinds; a call's first argument -/
def RxA (i : Nat) (x : XrZ) : Prop := ((0 ≤ x.2.2.1.1 ∧ x.2.2.1.1 ≤ (i : Int)) ∧ 0 ≤ x.1.1 ∧ x.1.1 ≤ 15) ∧ (x.1.1 = 10 → x.2.2.1.2.1 = x.2.2.2.headD (-1) ∧ 0 ≤ x.1.2.2.1)
def XsA (z : ZS) : Prop := 0 ≤ zAt z.1 ∧ ∀ i, i < xnM z → RxA i (xth z i)
theorem XsA.pu {z : ZS} {x : XrZ} (h : XsA z) (q : RxA (xnM z) x) : XsA (puM x z) := by sorry
theorem xs_cl {N : Int → Int} : ClX N XsA := by sorry
theorem xs_ca {N : Int → Int} : ClA N XsA := by sorry
/-- what judgeProgram asks of exps' records -/
theorem xs_pr {N : Int → Int} {f : Nat} {z : ZS} (h0 : 0 ≤ zAt z.1) (he : z.2.1 = []) : XsA (prM N f z) := by sorry
/-! links of S's go up, parents down: along all that is read -/
def lkU (j : Nat) (x : SrZ) : Prop := x.1.2.2.2 < (j : Int) ∧ (x.2.2.1 < 0 ∨ (j : Int) < x.2.2.1) ∧ (x.2.2.2.1 < 0 ∨ (j : Int) < x.2.2.2.1) ∧ (x.2.2.2.2.1 < 0 ∨ (j : Int) < x.2.2.2.2.1) ∧ (x.2.2.2.2.2.1 < 0 ∨ (j : Int) < x.2.2.2.2.2.1) ∧ 0 ≤ x.2.2.2.2.2.2.2.2
def Uw (n : Nat) (z : ZS) : Prop := n ≤ snM z ∧ z.2.2.2.1.2 < (snM z : Int) ∧ ∀ j, j < snM z → lkU j (reS z j)
section
variable {n j : Nat} {z : ZS}
theorem Uw.mo {m : Nat} (h : Uw n z) (q : m ≤ n) : Uw m z := ⟨Nat.le_trans q h.1, h.2⟩
theorem Uw.sf (h : Uw n z) : Uw (snM z) z := ⟨Nat.le_refl _, h.2⟩
theorem Uw.e {z' : ZS} (h : Uw n z) (q : z'.2.2.1 = z.2.2.1) (q' : z'.2.2.2.1.2 = z.2.2.2.1.2) : Uw n z' := by sorry
theorem Uw.ac (h : Uw n z) : Uw n (accM z) := h
theorem Uw.ra {c : Int} (h : Uw n z) : Uw n (raiM c z) := h
theorem Uw.xp {c : Int} (h : Uw n z) : Uw n (xpM c z) := h
theorem Uw.ty (h : Uw n z) : Uw n (typM z) := h
theorem Uw.th (h : Uw n z) : Uw n (thM z) := h
theorem Uw.ve {t : Int} {o : List (Int × Int)} (h : Uw n z) : Uw n (veM t o z) := h
theorem Uw.dc {N : Int → Int} {ty f g : Int} (h : Uw n z) : Uw n (dcM N ty f g z) := h
theorem Uw.co {o a b t : Int} (h : Uw n z) : Uw n (coM o a b t z) := h
theorem Uw.cx {o a b t : Int} (h : Uw n z) : Uw n (cxM o a b t z) := h
theorem Uw.pu {x : XrZ} (h : Uw n z) : Uw n (puM x z) := h
theorem Uw.en {j c : Nat} (h : Uw n z) : Uw n (enM j c z) := h
theorem Uw.po (h : Uw n z) : Uw n (poM z) := h
theorem Uw.se {f : SrZ → SrZ} (h : Uw n z) (q : ∀ x, lkU j x → lkU j (f x)) : Uw n (seM j f z) := by sorry
theorem Uw.sx {v : Int} (h : Uw n z) : Uw n (seM j (sEx v) z) := h.se (fun _ q => q)
theorem Uw.sl {v : Int} (h : Uw n z) : Uw n (seM j (sLk v) z) := h.se (fun _ q => q)
theorem Uw.sb {v : Int} (h : Uw n z) (q : v < 0 ∨ (j : Int) < v) : Uw n (seM j (sBd v) z) := h.se (fun _ p => ⟨p.1, p.2.1, q, p.2.2.2⟩)
theorem Uw.sn {v : Int} (h : Uw n z) (q : v < 0 ∨ (j : Int) < v) : Uw n (seM j (sNx v) z) := h.se (fun _ p => ⟨p.1, q, p.2.2⟩)
theorem Uw.so {v : Int} (h : Uw n z) (q : v < 0 ∨ (j : Int) < v) : Uw n (seM j (sOt v) z) := h.se (fun _ p => ⟨p.1, p.2.1, p.2.2.1, q, p.2.2.2.2⟩)
theorem Uw.sg {v : Int} (h : Uw n z) (q : v < 0 ∨ (j : Int) < v) : Uw n (seM j (sLs v) z) := by sorry
theorem Uw.ar {i : Int} (h : Uw n z) (q : i < (n : Int)) : Uw n (arM i z) := by sorry
theorem Uw.un (h : Uw n z) (q : j < n) : Uw n (unM j z) := by sorry
theorem Uw.be {k l : Int} (h : Uw n z) : Uw (snM z + 1) (beM k l z) := by sorry
theorem Uw.bg {k : Int} {m : Nat} (h : Uw n z) : Uw (snM z + 1) (bgM k m z) := h.be
theorem Uw.bh {k : Int} {m : Nat} (h : Uw n z) : Uw (snM z + 1) (bgH k m z) := h.be
theorem Uw.dn {f : ZS} (h : Uw n z) (q : Uw (snM z + 1) f) : Uw n f := q.mo (Nat.le_succ_of_le h.1)
variable {N : Int → Int}
theorem Uw.ee {m : Nat} (h : Uw n z) : Uw n (eM N m z) := by sorry
theorem Uw.ex {m : Nat} (h : Uw n z) : Uw n (exS N j m z) := h.ee.sx
theorem Uw.cd {m : Nat} (h : Uw n z) : Uw n (cdM N j m z) := (h.xp).ex.xp
theorem Uw.bd {k : Nat} (h : Uw n z) (q : j < n) (q' : j < k) : Uw n (bdM j k z) := (h.sb (Or.inr (by omega))).un q
theorem Uw.xs {m : Nat} (h : Uw n z) : Uw (snM z + 1) (xsM N m z) := id h.bg.ex.po.xp.en
theorem Uw.va2 {m : Nat} {f v t : Int} (h : Uw n z) : Uw n (va2M N j m f v t z) := by sorry
theorem Uw.va1 {m : Nat} {f ty : Int} (h : Uw n z) : Uw n (va1M N j m f ty z) := (h.dc.sl).va2
theorem Uw.va {m : Nat} (h : Uw n z) : Uw n (vaM N j m z) := by sorry
theorem Uw.to {m : Nat} (h : Uw n z) : Uw (snM z + 1) (toM N m z) := id h.bg.va.xp.en
theorem Uw.fx1 {m : Nat} (h : Uw n z) : Uw (snM z + 1) (fx1M N m z) := h.be.ex.po
end
theorem Uw.fxl {N : Int → Int} {m : Nat} : ∀ (f j n : Nat) (z : ZS), Uw n z → j < n → Uw n (fxlM N m f j z) := by sorry
section
variable {n j : Nat} {z : ZS} {N : Int → Int}
theorem Uw.fx {m : Nat} (h : Uw n z) : Uw n (fxM N m z) := h.dn (Uw.fxl 501 _ _ _ h.fx1 (Nat.lt_succ_self _))
theorem Uw.cs {m : Nat} {js : Int} (h : Uw n z) : Uw (snM z + 1) (csM N js m z) := by sorry
theorem Uw.ju {m : Nat} {k : Int} (h : Uw n z) : Uw (snM z + 1) (juM N k m z) := by sorry
theorem Uw.gi {m : Nat} {k : Int} (h : Uw n z) : Uw (snM z + 1) (giM N k m z) := by sorry
abbrev UvS (St : ZS → ZS) : Prop := ∀ n z, Uw n z → Uw n (St z)
abbrev UsS (St : ZS → ZS) : Prop := ∀ n z, Uw n z → Uw (snM z + 1) (St z)
abbrev UvR (Rw : Int → Nat → ZS → ZS × Int) : Prop := ∀ sw js n z, Uw n z → Uw n (Rw sw js z).1 ∧ ((Rw sw js z).2 < 0 ∨ (n : Int) ≤ (Rw sw js z).2)
variable {St : ZS → ZS} {Rw : Int → Nat → ZS → ZS × Int}
theorem Uw.blk (h : Uw n z) (r : UvR Rw) (q : j < n) {o : List (Int × Int)} : Uw n (blkM Rw j o z) := by sorry
theorem Uw.bo (h : Uw n z) (r : UvR Rw) {m : Nat} {o : List (Int × Int)} : Uw n (boM Rw m o z) := h.dn (h.be.blk r (Nat.lt_succ_self _))
theorem Uw.bl (h : Uw n z) (r : UvR Rw) {m : Nat} : Uw (snM z + 1) (blM Rw m z) := id (h.bh.blk r (Nat.lt_succ_self _)).en
theorem Uw.em (h : Uw n z) {m : Nat} : Uw (snM z + 1) (emM m z) := id h.bg.ac.en
theorem Uw.la (h : Uw n z) (s : UvS St) {m : Nat} : Uw (snM z + 1) (laM m St z) := by sorry
theorem Uw.if2 (h : Uw n z) (s : UvS St) (q : j < n) {k c : Nat} : Uw n (if2M St j k c z) := by sorry
theorem Uw.if (h : Uw n z) (s : UvS St) {m : Nat} : Uw (snM z + 1) (ifM N m St z) := by sorry
theorem Uw.wh (h : Uw n z) (s : UvS St) {m : Nat} : Uw (snM z + 1) (whM N m St z) := by sorry
theorem Uw.do (h : Uw n z) (s : UvS St) {m : Nat} : Uw (snM z + 1) (doM N m St z) := by sorry
theorem Uw.fo1 (h : Uw n z) (q : j < n) {m : Nat} : Uw n (fo1M N j m z) := by sorry
theorem Uw.fo2 (h : Uw n z) {k m : Nat} : Uw n (fo2M N j k m z) := by sorry
theorem Uw.fo3 (h : Uw n z) (q : j < n) {m : Nat} : Uw n (fo3M N j m z) := by sorry
theorem Uw.fob (h : Uw n z) (q : j < n) {k m : Nat} : Uw n (foB N j k m z) := by sorry
theorem Uw.fo (h : Uw n z) (s : UvS St) {m : Nat} : Uw (snM z + 1) (foM2 N m St z) := by sorry
theorem Uw.sw (h : Uw n z) (r : UvR Rw) {m : Nat} : Uw (snM z + 1) (swM N m Rw z) := by sorry
theorem Uw.tr1 (h : Uw n z) : Uw n (tr1M z) := by sorry
theorem Uw.tr2 (h : Uw n z) (r : UvR Rw) (q : j < n) {k m : Nat} : Uw n (tr2M N Rw j k m z) := by sorry
theorem Uw.tr3 (h : Uw n z) (r : UvR Rw) (q : j < n) {k m : Nat} : Uw n (tr3M Rw j k m z) := by sorry
theorem Uw.tr (h : Uw n z) (r : UvR Rw) {m : Nat} : Uw (snM z + 1) (trM N m Rw z) := by sorry
theorem Uw.sm (h : Uw n z) (s : UvS St) (r : UvR Rw) {m : Nat} : Uw (snM z + 1) (smM N m St Rw z) := by sorry
theorem Uw.rp2 (h : Uw n z) (s : UsS St) {m : Nat} : Uw (snM z + 1) (rp2M N m St z) := by sorry
theorem Uw.rp (h : Uw n z) (s : UsS St) {m js : Nat} {sw b : Int} : Uw (snM z + 1) (rpM N m St sw js b z) := by sorry
end
theorem Uw.rwl {N : Int → Int} {St : ZS → ZS} (s : UsS St) {m js : Nat} {sw : Int} : ∀ (k n : Nat) (f l : Int) (z : ZS), Uw n z → (f < 0 ∨ (n : Int) ≤ f) → l < (snM z : Int) → Uw n (rwlM N m St sw js k f l z).1 ∧ ((rwlM N m St sw js k f l z).2 < 0 ∨ (n : Int) ≤ (rwlM N m St sw js k f l z).2) := by sorry
theorem Uw.ls {N : Int → Int} : ∀ m, UvS (lsM N m).1 ∧ UvR (lsM N m).2 := by sorry
section
variable {n : Nat} {z : ZS} {N : Int → Int}
theorem Uw.pa2 (h : Uw n z) {i : Nat} {ty f : Int} : Uw n (pa2M N i ty f z) := by sorry
theorem Uw.pa1 (h : Uw n z) {i : Nat} : Uw n (pa1M N i z) := by sorry
end
theorem Uw.pal {N : Int → Int} {n : Nat} : ∀ (f i : Nat) (z : ZS), Uw n z → Uw n (palM N f i z) := by sorry
theorem Uw.pa {N : Int → Int} {n : Nat} {z : ZS} (q : Uw n z) : Uw n (paM N z) := by sorry
theorem Uw.me {N : Int → Int} {n : Nat} {z : ZS} (q : Uw n z) : Uw n (meM N z) := by sorry
/-- all that is read keeps it -/
theorem Uw.pr {N : Int → Int} {n : Nat} : ∀ (f : Nat) (z : ZS), Uw n z → Uw n (prM N f z) := by sorry
/-- links go up, parents down -/
theorem up_pr {N : Int → Int} {f : Nat} {z : ZS} (h0 : snM z = 0) (ha : z.2.2.2.1.2 < 0) : UpS (prM N f z) ∧ ∀ j, j < snM (prM N f z) → paS (prM N f z) j < (j : Int) := by sorry
/-- things are numbers -/
theorem tn_pr {N : Int → Int} {f : Nat} {z : ZS} (h0 : snM z = 0) (ha : z.2.2.2.1.2 < 0) : ∀ j, j < snM (prM N f z) → 0 ≤ (reS (prM N f z) j).2.2.2.2.2.2.2.2 := by sorry
/-! what is known stays small, so links do -/
def OkO (I : ZS → Prop) (o : List (Int × Int)) : Prop := o = [] ∨ ∃ z, I z ∧ (o = z.2.2.2.1.1 ∨ ∃ j, o = knS z j)
def ClB (N : Int → Int) (I : ZS → Prop) : Prop := (((∀ z s', I z → s'.2 = z.1.2 → zAt z.1 ≤ zAt s' → I (s', z.2)) ∧ ∀ z c, I z → I (z.1, .inr c :: z.2.1, z.2.2)) ∧ (∀ z j f, I z → (∀ x : SrZ, (f x).2.1 = x.2.1) → I (seM j f z)) ∧ ((∀ z j, I z → I (arM j z)) ∧ (∀ z k l, I z → I (beM k l z)) ∧ (∀ z, I z → I (thM z)) ∧ (∀ z t o, I z → OkO I o → I (veM t o z)) ∧ ∀ z ty f g, I z → I (dcM N ty f g z)) ∧ (∀ z ty, I z → I (me0M ty z)) ∧ ∀ z ty, I z → I (padY ty z.1, z.2)) ∧ ((∀ z, I z → ((zVs z.1).length : Int) < 64) ∧ ∀ z x, I z → x.1.1 = 15 → x.2.1.2.1 < 64 → I (puM x z)) ∧ True ∧ ∀ n, IvM I (eM N n)
section
variable {N : Int → Int} {I : ZS → Prop} {z : ZS}
theorem ClB.ac (h : ClB N I) (q : I z) : I (accM z) := h.1.1.1 z _ q mv_acc.1 mv_acc.2
theorem ClB.ra (h : ClB N I) {c : Int} (q : I z) : I (raiM c z) := h.1.1.1 z _ q mv_rai.1 mv_rai.2
theorem ClB.xp (h : ClB N I) {c : Int} (q : I z) : I (xpM c z) := h.1.1.1 z _ q mv_xp.1 mv_xp.2
theorem ClB.ty (h : ClB N I) (q : I z) : I (typM z) := h.1.1.1 z _ q mv_typ.1 mv_typ.2
theorem ClB.se (h : ClB N I) {j : Nat} {f : SrZ → SrZ} (e : ∀ x : SrZ, (f x).2.1 = x.2.1) (q : I z) : I (seM j f z) := h.1.2.1 z j f q e
theorem ClB.ar (h : ClB N I) {j : Int} (q : I z) : I (arM j z) := h.1.2.2.1.1 z j q
theorem ClB.un (h : ClB N I) {j : Nat} (q : I z) : I (unM j z) := h.ar q
theorem ClB.be (h : ClB N I) {k l : Int} (q : I z) : I (beM k l z) := h.1.2.2.1.2.1 z k l q
theorem ClB.th (h : ClB N I) (q : I z) : I (thM z) := h.1.2.2.1.2.2.1 z q
theorem ClB.ve (h : ClB N I) {t : Int} {o : List (Int × Int)} (ho : OkO I o) (q : I z) : I (veM t o z) := h.1.2.2.1.2.2.2.1 z t o q ho
theorem ClB.dc (h : ClB N I) {ty f g : Int} (q : I z) : I (dcM N ty f g z) := h.1.2.2.1.2.2.2.2 z ty f g q
theorem ClB.co (h : ClB N I) {o a b t : Int} (q : I z) : I (coM o a b t z) := h.1.1.2 z _ q
theorem ClB.cx (h : ClB N I) {o a b t : Int} (q : I z) : I (cxM o a b t z) := h.1.1.2 z _ q
theorem ClB.bg (h : ClB N I) {k : Int} {n : Nat} (q : I z) : I (bgM k n z) := h.co (h.be q)
theorem ClB.bh (h : ClB N I) {k : Int} {n : Nat} (q : I z) : I (bgH k n z) := h.th (h.bg q)
theorem ClB.en (h : ClB N I) {j c : Nat} (q : I z) : I (enM j c z) := h.co q
theorem ClB.po (h : ClB N I) (q : I z) : I (poM z) := h.cx q
theorem ClB.ex (h : ClB N I) {j n : Nat} (q : I z) : I (exS N j n z) := h.se (fun _ => rfl) (h.2.2.2 n z q)
theorem ClB.cd (h : ClB N I) {j n : Nat} (q : I z) : I (cdM N j n z) := h.xp (h.ex (h.xp q))
theorem ClB.bd (h : ClB N I) {j k : Nat} (q : I z) : I (bdM j k z) := h.un (h.se (fun _ => rfl) q)
theorem ClB.xs (h : ClB N I) {n : Nat} (q : I z) : I (xsM N n z) := h.en (h.xp (h.po (h.ex (h.bg q))))
theorem ClB.va2 (h : ClB N I) {j n : Nat} {f v t : Int} (hv : v < 64) (q : I z) : I (va2M N j n f v t z) := by sorry
theorem ClB.va1 (h : ClB N I) {j n : Nat} {f ty : Int} (q : I z) : I (va1M N j n f ty z) := h.va2 (h.2.1.1 z q) (h.se (fun _ => rfl) (h.dc q))
theorem ClB.va (h : ClB N I) {j n : Nat} (q : I z) : I (vaM N j n z) := by sorry
theorem ClB.to (h : ClB N I) {n : Nat} (q : I z) : I (toM N n z) := h.en (h.xp (h.va (h.bg q)))
theorem ClB.fx1 (h : ClB N I) {n : Nat} (q : I z) : I (fx1M N n z) := h.po (h.ex (h.be q))
end
theorem ClB.fxl {N : Int → Int} {I : ZS → Prop} (h : ClB N I) {n : Nat} : ∀ (f j : Nat) (z : ZS), I z → I (fxlM N n f j z) := by sorry
section
variable {N : Int → Int} {I : ZS → Prop} {z : ZS}
theorem ClB.fx (h : ClB N I) {n : Nat} (q : I z) : I (fxM N n z) := h.fxl 501 _ _ (h.fx1 q)
theorem ClB.cs (h : ClB N I) {n : Nat} {js : Int} (q : I z) : I (csM N js n z) := by sorry
theorem ClB.ju (h : ClB N I) {n : Nat} {k : Int} (q : I z) : I (juM N k n z) := by sorry
theorem ClB.gi (h : ClB N I) {n : Nat} {k : Int} (q : I z) : I (giM N k n z) := by sorry
variable {St : ZS → ZS} {Rw : Int → Nat → ZS → ZS × Int}
theorem ClB.blk (h : ClB N I) (r : RvA I Rw) {j : Nat} {o : List (Int × Int)} (ho : OkO I o) (q : I z) : I (blkM Rw j o z) := by sorry
theorem ClB.bo (h : ClB N I) (r : RvA I Rw) {n : Nat} {o : List (Int × Int)} (ho : OkO I o) (q : I z) : I (boM Rw n o z) := h.blk r ho (h.be q)
theorem ClB.bl (h : ClB N I) (r : RvA I Rw) {n : Nat} (q : I z) : I (blM Rw n z) := h.en (h.blk r (Or.inr ⟨z, q, Or.inl rfl⟩) (h.bh q))
theorem ClB.em (h : ClB N I) {n : Nat} (q : I z) : I (emM n z) := h.en (h.ac (h.bg q))
theorem ClB.la (h : ClB N I) (s : IvM I St) {n : Nat} (q : I z) : I (laM n St z) := by sorry
theorem ClB.ifX (h : ClB N I) {j k c : Nat} (q : I z) : I (ifX j k c z) := h.en (h.co q)
theorem ClB.if2 (h : ClB N I) (s : IvM I St) {j k c : Nat} (q : I z) : I (if2M St j k c z) := by sorry
theorem ClB.if (h : ClB N I) (s : IvM I St) {n : Nat} (q : I z) : I (ifM N n St z) := h.if2 s (h.bd (s _ (h.ar (h.cx (h.cd (h.ac (h.bh q)))))))
theorem ClB.wh (h : ClB N I) (s : IvM I St) {n : Nat} (q : I z) : I (whM N n St z) := by sorry
theorem ClB.do (h : ClB N I) (s : IvM I St) {n : Nat} (q : I z) : I (doM N n St z) := by sorry
theorem ClB.fo1 (h : ClB N I) {j n : Nat} (q : I z) : I (fo1M N j n z) := by sorry
theorem ClB.fo2 (h : ClB N I) {j k n : Nat} (q : I z) : I (fo2M N j k n z) := by sorry
theorem ClB.fo3 (h : ClB N I) {j n : Nat} (q : I z) : I (fo3M N j n z) := by sorry
theorem ClB.foB (h : ClB N I) {j k n : Nat} (q : I z) : I (foB N j k n z) := by sorry
theorem ClB.fo (h : ClB N I) (s : IvM I St) {n : Nat} (q : I z) : I (foM2 N n St z) := by sorry
theorem ClB.sw (h : ClB N I) (r : RvA I Rw) {n : Nat} (q : I z) : I (swM N n Rw z) := by sorry
theorem ClB.tr1 (h : ClB N I) (q : I z) : I (tr1M z) := by sorry
theorem ClB.tr2 (h : ClB N I) (r : RvA I Rw) {j k n : Nat} (q : I z) : I (tr2M N Rw j k n z) := by sorry
theorem ClB.tr3 (h : ClB N I) (r : RvA I Rw) {j k n : Nat} (q : I z) : I (tr3M Rw j k n z) := by sorry
theorem ClB.tr (h : ClB N I) (r : RvA I Rw) {n : Nat} (q : I z) : I (trM N n Rw z) := by sorry
theorem ClB.sm (h : ClB N I) (s : IvM I St) (r : RvA I Rw) {n : Nat} (q : I z) : I (smM N n St Rw z) := by sorry
theorem ClB.rp2 (h : ClB N I) (s : IvM I St) {n : Nat} (q : I z) : I (rp2M N n St z) := by sorry
theorem ClB.rp (h : ClB N I) (s : IvM I St) {n js : Nat} {sw b : Int} (q : I z) : I (rpM N n St sw js b z) := by sorry
theorem ClB.nx (h : ClB N I) {l : Int} {j : Nat} (q : I z) : I (nxM l j z) := by sorry
end
theorem ClB.rwl {N : Int → Int} {I : ZS → Prop} (h : ClB N I) {St : ZS → ZS} (s : IvM I St) {n js : Nat} {sw : Int} : ∀ (k : Nat) (f l : Int) (z : ZS), I z → I (rwlM N n St sw js k f l z).1 := by sorry
theorem ClB.ls {N : Int → Int} {I : ZS → Prop} (h : ClB N I) : ∀ n, IvM I (lsM N n).1 ∧ RvA I (lsM N n).2 := by sorry
section
variable {N : Int → Int} {I : ZS → Prop} {z : ZS}
theorem ClB.pa2 (h : ClB N I) {i : Nat} {ty f : Int} (q : I z) : I (pa2M N i ty f z) := by sorry
theorem ClB.pa1 (h : ClB N I) {i : Nat} (q : I z) : I (pa1M N i z) := by sorry
end
theorem ClB.pal {N : Int → Int} {I : ZS → Prop} (h : ClB N I) : ∀ (f i : Nat) (z : ZS), I z → I (palM N f i z) := by sorry
theorem ClB.pa {N : Int → Int} {I : ZS → Prop} (h : ClB N I) {z : ZS} (q : I z) : I (paM N z) := by sorry
theorem ClB.me {N : Int → Int} {I : ZS → Prop} (h : ClB N I) {z : ZS} (q : I z) : I (meM N z) := by sorry
/-- all that is read keeps it -/
theorem ClB.pr {N : Int → Int} {I : ZS → Prop} (h : ClB N I) : ∀ (f : Nat) (z : ZS), I z → I (prM N f z) := by sorry
/-- what is known is below 64, and so are links -/
def KvB (o : List (Int × Int)) : Prop := ∀ p ∈ o, p.1 ≤ 60
def VbB (z : ZS) : Prop := (0 ≤ zAt z.1 ∧ (zVs z.1).length ≤ 60) ∧ (KvB z.2.2.2.1.1 ∧ ∀ j, KvB (knS z j)) ∧ ∀ i, i < xnM z → ¬ (xth z i).1.1 = 10 → (xth z i).2.1.2.1 < 64
theorem lk_le {N : Int → Int} {t : Int} : ∀ {o : List (Int × Int)}, KvB o → lkZ N o t ≤ 60 := by sorry
theorem VbB.pu {z : ZS} {x : XrZ} (h : VbB z) (q : ¬ x.1.1 = 10 → x.2.1.2.1 < 64) : VbB (puM x z) := by sorry
theorem vb_cl {N : Int → Int} : ClX N VbB := by sorry
theorem vs_dcl {ty f g : Int} {s : SpC} (h : (zVs s).length ≤ 60) : (zVs (dclY ty f g s)).length ≤ 60 := by sorry
theorem kv_ok {o : List (Int × Int)} (h : OkO VbB o) : KvB o := by sorry
theorem vb_ca {N : Int → Int} : ClB N VbB := by sorry
/-- links are below 64 -/
theorem vb_pr {N : Int → Int} {f : Nat} {s : SpC} (h0 : 0 ≤ zAt s) (hv : zVs s = []) : VbB (prM N f (z0S s)) := by sorry
theorem sx_pr {N : Int → Int} {f : Nat} {s : SpC} (h0 : 0 ≤ zAt s) (hv : zVs s = []) : SxS (prM N f (z0S s)) := by sorry
/-! links of S's stay below how many there are, as long as there is no FAULT -/
def lkW (n : Int) (x : SrZ) : Prop := x.2.2.1 < n ∧ x.2.2.2.1 < n ∧ x.2.2.2.2.1 < n ∧ x.2.2.2.2.2.1 < n
def Wx (n : Nat) (z : ZS) : Prop := Uw n z ∧ (zFt z.1 = 0 → ∀ j, j < snM z → lkW (snM z) (reS z j))
theorem rai_b {c : Int} {s : SpC} (h : zFt (raiY c s) = 0) : zFt s = 0 := by sorry
theorem xp_b {c : Int} {s : SpC} (h : zFt (xpY c s) = 0) : zFt s = 0 := by sorry
theorem typ_b {s : SpC} (h : zFt (typY s) = 0) : zFt s = 0 := by sorry
section
variable {n j : Nat} {z : ZS}
theorem Wx.mo {m : Nat} (h : Wx n z) (q : m ≤ n) : Wx m z := ⟨h.1.mo q, h.2⟩
theorem Wx.ac (h : Wx n z) : Wx n (accM z) := ⟨h.1, fun q => h.2 (acc_n q).2.1⟩
theorem Wx.ra {c : Int} (h : Wx n z) : Wx n (raiM c z) := ⟨h.1, fun q => h.2 (rai_b q)⟩
theorem Wx.xp {c : Int} (h : Wx n z) : Wx n (xpM c z) := ⟨h.1, fun q => h.2 (xp_b q)⟩
theorem Wx.ty (h : Wx n z) : Wx n (typM z) := ⟨h.1, fun q => h.2 (typ_b q)⟩
theorem Wx.th (h : Wx n z) : Wx n (thM z) := h
theorem Wx.ve {t : Int} {o : List (Int × Int)} (h : Wx n z) : Wx n (veM t o z) := h
theorem Wx.dc {N : Int → Int} {ty f g : Int} (h : Wx n z) : Wx n (dcM N ty f g z) := ⟨h.1, fun q => h.2 (dcl_nz q).2.1⟩
theorem Wx.co {o a b t : Int} (h : Wx n z) : Wx n (coM o a b t z) := h
theorem Wx.cx {o a b t : Int} (h : Wx n z) : Wx n (cxM o a b t z) := h
theorem Wx.pu {x : XrZ} (h : Wx n z) : Wx n (puM x z) := h
theorem Wx.en {j c : Nat} (h : Wx n z) : Wx n (enM j c z) := h
theorem Wx.po (h : Wx n z) : Wx n (poM z) := h
theorem Wx.se {f : SrZ → SrZ} (h : Wx n z) (q : ∀ x, lkU j x → lkU j (f x)) (p : zFt z.1 = 0 → ∀ x, lkW (snM z) x → lkW (snM z) (f x)) : Wx n (seM j f z) := by sorry
theorem Wx.sx {v : Int} (h : Wx n z) : Wx n (seM j (sEx v) z) := h.se (fun _ q => q) (fun _ _ q => q)
theorem Wx.sl {v : Int} (h : Wx n z) : Wx n (seM j (sLk v) z) := h.se (fun _ q => q) (fun _ _ q => q)
theorem Wx.sb {v : Int} (h : Wx n z) (q : v < 0 ∨ (j : Int) < v) (w : zFt z.1 = 0 → v < (snM z : Int)) : Wx n (seM j (sBd v) z) := by sorry
theorem Wx.sn {v : Int} (h : Wx n z) (q : v < 0 ∨ (j : Int) < v) (w : zFt z.1 = 0 → v < (snM z : Int)) : Wx n (seM j (sNx v) z) := h.se (fun _ p => ⟨p.1, q, p.2.2⟩) (fun e _ p => ⟨w e, p.2⟩)
theorem Wx.so {v : Int} (h : Wx n z) (q : v < 0 ∨ (j : Int) < v) (w : zFt z.1 = 0 → v < (snM z : Int)) : Wx n (seM j (sOt v) z) := by sorry
theorem Wx.sg {v : Int} (h : Wx n z) (q : v < 0 ∨ (j : Int) < v) (w : zFt z.1 = 0 → v < (snM z : Int)) : Wx n (seM j (sLs v) z) := by sorry
theorem Wx.ar {i : Int} (h : Wx n z) (q : i < (n : Int)) : Wx n (arM i z) := ⟨h.1.ar q, h.2⟩
theorem Wx.un (h : Wx n z) (q : j < n) : Wx n (unM j z) := ⟨h.1.un q, h.2⟩
theorem Wx.be {k l : Int} (h : Wx n z) : Wx (snM z + 1) (beM k l z) := by sorry
theorem Wx.bg {k : Int} {m : Nat} (h : Wx n z) : Wx (snM z + 1) (bgM k m z) := h.be
theorem Wx.bh {k : Int} {m : Nat} (h : Wx n z) : Wx (snM z + 1) (bgH k m z) := h.be
theorem Wx.dn {f : ZS} (h : Wx n z) (q : Wx (snM z + 1) f) : Wx n f := q.mo (Nat.le_succ_of_le h.1.1)
variable {N : Int → Int}
end
section
variable {n j : Nat} {z : ZS} {N : Int → Int}
theorem Wx.ee {m : Nat} (h : Wx n z) : Wx n (eM N m z) := by sorry
theorem Wx.ex {m : Nat} (h : Wx n z) : Wx n (exS N j m z) := h.ee.sx
theorem Wx.cd {m : Nat} (h : Wx n z) : Wx n (cdM N j m z) := (h.xp).ex.xp
theorem Wx.bd {k : Nat} (h : Wx n z) (q : j < n) (q' : j < k) (w : zFt z.1 = 0 → k < snM z) : Wx n (bdM j k z) := by sorry
theorem Wx.xs {m : Nat} (h : Wx n z) : Wx (snM z + 1) (xsM N m z) := id h.bg.ex.po.xp.en
theorem Wx.va2 {m : Nat} {f v t : Int} (h : Wx n z) : Wx n (va2M N j m f v t z) := by sorry
theorem Wx.va1 {m : Nat} {f ty : Int} (h : Wx n z) : Wx n (va1M N j m f ty z) := (h.dc.sl).va2
theorem Wx.va {m : Nat} (h : Wx n z) : Wx n (vaM N j m z) := by sorry
theorem Wx.to {m : Nat} (h : Wx n z) : Wx (snM z + 1) (toM N m z) := id h.bg.va.xp.en
theorem Wx.fx1 {m : Nat} (h : Wx n z) : Wx (snM z + 1) (fx1M N m z) := h.be.ex.po
end
theorem Wx.fxl {N : Int → Int} {m : Nat} : ∀ (f j n : Nat) (z : ZS), Wx n z → j < n → Wx n (fxlM N m f j z) := by sorry
section
variable {n j : Nat} {z : ZS} {N : Int → Int}
theorem Wx.fx {m : Nat} (h : Wx n z) : Wx (snM z + 1) (fxM N m z) := Wx.fxl 501 _ _ _ h.fx1 (Nat.lt_succ_self _)
theorem Wx.cs {m : Nat} {js : Int} (h : Wx n z) : Wx (snM z + 1) (csM N js m z) := by sorry
theorem Wx.ju {m : Nat} {k : Int} (h : Wx n z) : Wx (snM z + 1) (juM N k m z) := by sorry
theorem Wx.gi {m : Nat} {k : Int} (h : Wx n z) : Wx (snM z + 1) (giM N k m z) := by sorry
abbrev WvS (St : ZS → ZS) : Prop := ∀ n z, Wx n z → Wx n (St z) ∧ (zFt (St z).1 = 0 → snM z + 1 ≤ snM (St z))
abbrev WsS (St : ZS → ZS) : Prop := ∀ n z, Wx n z → Wx (snM z + 1) (St z)
abbrev WvR (Rw : Int → Nat → ZS → ZS × Int) : Prop := ∀ sw js n z, Wx n z → Wx n (Rw sw js z).1 ∧ ((Rw sw js z).2 < 0 ∨ (n : Int) ≤ (Rw sw js z).2) ∧ (Rw sw js z).2 < (snM (Rw sw js z).1 : Int)
variable {St : ZS → ZS} {Rw : Int → Nat → ZS → ZS × Int}
theorem Wx.blk (h : Wx n z) (r : WvR Rw) (q : j < n) {o : List (Int × Int)} : Wx n (blkM Rw j o z) := by sorry
theorem Wx.bo (h : Wx n z) (r : WvR Rw) {m : Nat} {o : List (Int × Int)} : Wx (snM z + 1) (boM Rw m o z) := h.be.blk r (Nat.lt_succ_self _)
theorem Wx.bl (h : Wx n z) (r : WvR Rw) {m : Nat} : Wx (snM z + 1) (blM Rw m z) := id (h.bh.blk r (Nat.lt_succ_self _)).en
theorem Wx.em (h : Wx n z) {m : Nat} : Wx (snM z + 1) (emM m z) := id h.bg.ac.en
theorem wv_bd {X : ZS} (s : WvS St) (h : Wx (j + 1) X) : Wx (j + 1) (bdM j (j + 1) (St X)) := by sorry
theorem Wx.la (h : Wx n z) (s : WvS St) {m : Nat} : Wx (snM z + 1) (laM m St z) := id ((wv_bd s (h.bh.co.sl.ac.xp.ar (by omega))).co.en)
theorem Wx.if2 (h : Wx n z) (s : WvS St) (q : j < n) {k c : Nat} : Wx n (if2M St j k c z) := by sorry
theorem Wx.if (h : Wx n z) (s : WvS St) {m : Nat} : Wx (snM z + 1) (ifM N m St z) := by sorry
theorem Wx.wh (h : Wx n z) (s : WvS St) {m : Nat} : Wx (snM z + 1) (whM N m St z) := id ((wv_bd s (h.bh.co.ac.cd.cx.ar (by omega))).co.en)
theorem Wx.do (h : Wx n z) (s : WvS St) {m : Nat} : Wx (snM z + 1) (doM N m St z) := by sorry
theorem Wx.fo1 (h : Wx n z) (q : j < n) {m : Nat} : Wx n (fo1M N j m z) := by sorry
theorem Wx.fo2 (h : Wx n z) {k m : Nat} : Wx n (fo2M N j k m z) := by sorry
theorem Wx.fo3 (h : Wx n z) (q : j < n) {m : Nat} : Wx n (fo3M N j m z) := by sorry
theorem Wx.fob (h : Wx n z) (q : j < n) {k m : Nat} : Wx n (foB N j k m z) := by sorry
theorem Wx.fo (h : Wx n z) (s : WvS St) {m : Nat} : Wx (snM z + 1) (foM2 N m St z) := by sorry
theorem Wx.sw (h : Wx n z) (r : WvR Rw) {m : Nat} : Wx (snM z + 1) (swM N m Rw z) := by sorry
theorem Wx.tr1 (h : Wx n z) : Wx n (tr1M z) := by sorry
theorem Wx.tr2 (h : Wx n z) (r : WvR Rw) (q : j < n) {k m : Nat} : Wx n (tr2M N Rw j k m z) := by sorry
theorem Wx.tr3 (h : Wx n z) (r : WvR Rw) (q : j < n) {k m : Nat} : Wx n (tr3M Rw j k m z) := by sorry
theorem Wx.tr (h : Wx n z) (r : WvR Rw) {m : Nat} : Wx (snM z + 1) (trM N m Rw z) := by sorry
theorem Wx.sm (h : Wx n z) (s : WvS St) (r : WvR Rw) {m : Nat} : Wx (snM z + 1) (smM N m St Rw z) := by sorry
theorem Wx.rp2 (h : Wx n z) (s : WsS St) {m : Nat} : Wx (snM z + 1) (rp2M N m St z) := by sorry
theorem Wx.rp (h : Wx n z) (s : WsS St) {m js : Nat} {sw b : Int} : Wx (snM z + 1) (rpM N m St sw js b z) := by sorry
end
theorem Wx.rwl {N : Int → Int} {St : ZS → ZS} (s : WsS St) {m js : Nat} {sw : Int} : ∀ (k n : Nat) (f l : Int) (z : ZS), Wx n z → (f < 0 ∨ (n : Int) ≤ f) → f < (snM z : Int) → l < (snM z : Int) → Wx n (rwlM N m St sw js k f l z).1 ∧ ((rwlM N m St sw js k f l z).2 < 0 ∨ (n : Int) ≤ (rwlM N m St sw js k f l z).2) ∧ (rwlM N m St sw js k f l z).2 < (snM (rwlM N m St sw js k f l z).1 : Int) := by sorry
theorem Wx.ls {N : Int → Int} : ∀ m, WvS (lsM N m).1 ∧ WvR (lsM N m).2 := by sorry
section
variable {n : Nat} {z : ZS} {N : Int → Int}
theorem Wx.pa2 (h : Wx n z) {i : Nat} {ty f : Int} : Wx n (pa2M N i ty f z) := by sorry
theorem Wx.pa1 (h : Wx n z) {i : Nat} : Wx n (pa1M N i z) := by sorry
end
theorem Wx.pal {N : Int → Int} {n : Nat} : ∀ (f i : Nat) (z : ZS), Wx n z → Wx n (palM N f i z) := by sorry
theorem Wx.pa {N : Int → Int} {n : Nat} {z : ZS} (q : Wx n z) : Wx n (paM N z) := by sorry
theorem Wx.me {N : Int → Int} {n : Nat} {z : ZS} (q : Wx n z) : Wx n (meM N z) := by sorry
/-- all that is read keeps it -/
theorem Wx.pr {N : Int → Int} {n : Nat} : ∀ (f : Nat) (z : ZS), Wx n z → Wx n (prM N f z) := by sorry
/-- links of S's are below how many there are -/
theorem wl_pr {N : Int → Int} {f : Nat} {z : ZS} (h0 : snM z = 0) (ha : z.2.2.2.1.2 < 0) (hf : zFt (prM N f z).1 = 0) : ∀ j, j < snM (prM N f z) → lkW (snM (prM N f z)) (reS (prM N f z) j) := by sorry
theorem cI {v u : Int32} {X Y : Int} (h : v.toInt = X) (g : u.toInt = Y) : (v = u ↔ X = Y) ∧ (v < u ↔ X < Y) ∧ (v ≤ u ↔ X ≤ Y) ∧ (u < v ↔ Y < X) ∧ (u ≤ v ↔ Y ≤ X) := by sorry
theorem cL {a b : Int64} : (lg_cmp b a = 0 ↔ b = a) ∧ (lg_cmp b a < 0 ↔ b.toInt < a.toInt) ∧ (0 < lg_cmp b a ↔ a.toInt < b.toInt) ∧ (lg_cmp b a ≤ 0 ↔ b.toInt ≤ a.toInt) ∧ (0 ≤ lg_cmp b a ↔ a.toInt ≤ b.toInt) := by sorry
/-! the reference judges -/
def VaT (e : TvT) : Prop := (0 ≤ e.1 ∧ e.1 ≤ 5) ∧ (¬ e.2.1 = 0 → nrT e.1 e.2.2.1 = e.2.2.1 ∧ (e.1 = 0 → e.2.2.1 = 0 ∨ e.2.2.1 = 1))
/-- place i of its pile shows e -/
def TeR (σ : RS) (i : Nat) (e : TvT) : Prop := (aI σ 70 i).toInt = e.1 ∧ (¬ aI σ 71 i = 0 ↔ ¬ e.2.1 = 0) ∧ (¬ e.2.1 = 0 → aL σ 72 i = e.2.2.1) ∧ VaT e
def ShT (ty su : Int32) (v : Int64) (e : TvT) : Prop := ty.toInt = e.1 ∧ (¬ su = 0 ↔ ¬ e.2.1 = 0) ∧ (¬ e.2.1 = 0 → v = e.2.2.1)
/-- what lies then -/
def lieS (σ : RS) (c ty su : Int32) (v : Int64) : RS :=
  sI (sM (sA (sA (sA (sA (sM (sA (sA (sI (sA (sM (sA (sA σ 70 (upd (aI σ 70) (gI σ 69).toNatClampNeg ty)) 71 (upd (aI σ 71) (gI σ 69).toNatClampNeg su)) 72 (vp_updL (aL σ 72) (gI σ 69).toNatClampNeg v)) 73 (upd (aI σ 73) (gI σ 69).toNatClampNeg (aI σ 23 c.toNatClampNeg))) 69 (gI σ 69 + 1))
    81 (upd (aI σ 81) c.toNatClampNeg ty)) 84 (upd (aI σ 84) c.toNatClampNeg su)) 85 (vp_updL (aL σ 85) c.toNatClampNeg v))
    75 (upd (aI σ 75) (gI σ 74).toNatClampNeg (aI σ 23 c.toNatClampNeg))) 76 (upd (aI σ 76) (gI σ 74).toNatClampNeg (aI σ 24 c.toNatClampNeg))) 77 (upd (aI σ 77) (gI σ 74).toNatClampNeg ty)) 78 (upd (aI σ 78) (gI σ 74).toNatClampNeg su)) 79 (vp_updL (aL σ 79) (gI σ 74).toNatClampNeg v)) 74 (gI σ 74 + 1)
theorem lie_66 {σ : RS} {c ty su : Int32} {v : Int64} : gI (lieS σ c ty su v) 66 = gI σ 66 := rfl
def caT (t : Int) (v : Int64) : Int64 := if t = 0 then (if v = 0 then 0 else 1) else nrT t v
def hvT (t : Int) (v : Int64) : Prop := if t = 1 then -128 ≤ v.toInt ∧ v.toInt ≤ 127 else if t = 2 then 0 ≤ v.toInt ∧ v.toInt ≤ 65535 else True
def ndT (want : Int32) (e : TvT) : Prop := (want = 0 ∧ e.1 = 0) ∨ (¬ want = 0 ∧ nuT e.1)
def prT (ei : Int32) (e : TvT) : Prop := (¬ ei = 0 ∧ e.1 = 0) ∨ nuT e.1
theorem TeR.nb {σ : RS} {i : Nat} {e : TvT} (h : TeR σ i e) : ¬ aI σ 70 i = -2 := by sorry
theorem b01 {P : Prop} (h : P) : ¬ (1 : Int32) = 0 ↔ P := ⟨fun _ => h, fun _ => by decide⟩
theorem b00 {P : Prop} (h : ¬ P) : ¬ (0 : Int32) = 0 ↔ P := ⟨fun q => absurd rfl q, fun q => absurd q h⟩
theorem nr_1 {v : Int64} : nrT 1 v = v ↔ -128 ≤ v.toInt ∧ v.toInt ≤ 127 := by sorry
theorem nr_2 {v : Int64} : nrT 2 v = v ↔ 0 ≤ v.toInt ∧ v.toInt ≤ 65535 := by sorry
theorem hv_nr {t : Int} {v : Int64} (h : smT t) : hvT t v ↔ nrT t v = v := by sorry
theorem ft_hv {σ : RS} {i : Nat} {e : TvT} {t : Int} (h : TeR σ i e) (ht : smT t) : (¬ aI σ 71 i = 0 ∧ hvT t (aL σ 72 i)) ↔ hlT e t = true := by sorry
def Pv_err : UP1 := fun A1 σ => match A1 with
  | [.int what, .int token] => ¬ what = 0
  | _ => False
def Qv_err : UQ1 := fun A1 σ w τ => match A1 with
  | [.int what, .int token] => w = none ∧ ¬ gI τ 66 = 0
  | _ => False
def Qw_err : UQ1 := fun A1 σ w τ => Pv_err A1 σ → Qv_err A1 σ w τ
set_option maxRecDepth 100000 in
set_option maxHeartbeats 4000000 in
theorem v_err : UMet 70 (Pv_err) (Qv_err) := by sorry
theorem w_err : UMet 70 (fun _ _ => True) Qw_err := fun A1 σ _ w τ h hP => v_err A1 σ hP w τ h
def Pv_isNumber : UP1 := fun A1 σ => match A1 with
  | [.int type] => True
  | _ => False
def Qv_isNumber : UQ1 := fun A1 σ w τ => match A1 with
  | [.int type] => σ = τ ∧ ∃ b : Int32, w = some (.int b) ∧ (¬ b = 0 ↔ nuT type.toInt)
  | _ => False
def Qw_isNumber : UQ1 := fun A1 σ w τ => Pv_isNumber A1 σ → Qv_isNumber A1 σ w τ
set_option maxRecDepth 100000 in
set_option maxHeartbeats 4000000 in
theorem v_isNumber : UMet 72 (Pv_isNumber) (Qv_isNumber) := by sorry
theorem w_isNumber : UMet 72 (fun _ _ => True) Qw_isNumber := fun A1 σ _ w τ h hP => v_isNumber A1 σ hP w τ h
def Pv_widens : UP1 := fun A1 σ => match A1 with
  | [.int a, .int b] => True
  | _ => False
def Qv_widens : UQ1 := fun A1 σ w τ => match A1 with
  | [.int a, .int b] => σ = τ ∧ ∃ r : Int32, w = some (.int r) ∧ (¬ r = 0 ↔ wdT a.toInt b.toInt)
  | _ => False
def Qw_widens : UQ1 := fun A1 σ w τ => Pv_widens A1 σ → Qv_widens A1 σ w τ
set_option maxRecDepth 100000 in
set_option maxHeartbeats 4000000 in
theorem v_widens : UMet 73 (Pv_widens) (Qv_widens) := by sorry
theorem w_widens : UMet 73 (fun _ _ => True) Qw_widens := fun A1 σ _ w τ h hP => v_widens A1 σ hP w τ h
def Pv_holdsValue : UP1 := fun A1 σ => match A1 with
  | [.int type, .long v] => True
  | _ => False
def Qv_holdsValue : UQ1 := fun A1 σ w τ => match A1 with
  | [.int type, .long v] => σ = τ ∧ ∃ b : Int32, w = some (.int b) ∧ (¬ b = 0 ↔ hvT type.toInt v)
  | _ => False
def Qw_holdsValue : UQ1 := fun A1 σ w τ => Pv_holdsValue A1 σ → Qv_holdsValue A1 σ w τ
set_option maxRecDepth 100000 in
set_option maxHeartbeats 4000000 in
theorem v_holdsValue : UMet 74 (Pv_holdsValue) (Qv_holdsValue) := by sorry
theorem w_holdsValue : UMet 74 (fun _ _ => True) Qw_holdsValue := fun A1 σ _ w τ h hP => v_holdsValue A1 σ hP w τ h
def Pv_cast : UP1 := fun A1 σ => match A1 with
  | [.int type, .long v] => True
  | _ => False
def Qv_cast : UQ1 := fun A1 σ w τ => match A1 with
  | [.int type, .long v] => σ = τ ∧ w = some (.long (caT type.toInt v))
  | _ => False
def Qw_cast : UQ1 := fun A1 σ w τ => Pv_cast A1 σ → Qv_cast A1 σ w τ
set_option maxRecDepth 100000 in
set_option maxHeartbeats 4000000 in
theorem v_cast : UMet 76 (Pv_cast) (Qv_cast) := by sorry
theorem w_cast : UMet 76 (fun _ _ => True) Qw_cast := fun A1 σ _ w τ h hP => v_cast A1 σ hP w τ h
def Pv_lie : UP1 := fun A1 σ => match A1 with
  | [.int c, .int type, .int sure, .long v] => True
  | _ => False
def Qv_lie : UQ1 := fun A1 σ w τ => match A1 with
  | [.int c, .int type, .int sure, .long v] => w = none ∧ τ = lieS σ c type sure v
  | _ => False
def Qw_lie : UQ1 := fun A1 σ w τ => Pv_lie A1 σ → Qv_lie A1 σ w τ
set_option maxRecDepth 100000 in
set_option maxHeartbeats 4000000 in
theorem v_lie : UMet 77 (Pv_lie) (Qv_lie) := by sorry
theorem w_lie : UMet 77 (fun _ _ => True) Qw_lie := fun A1 σ _ w τ h hP => v_lie A1 σ hP w τ h
def Pv_none : UP1 := fun A1 σ => match A1 with
  | [.int c] => True
  | _ => False
def Qv_none : UQ1 := fun A1 σ w τ => match A1 with
  | [.int c] => w = none ∧ τ = lieS σ c (-2) 0 0
  | _ => False
def Qw_none : UQ1 := fun A1 σ w τ => Pv_none A1 σ → Qv_none A1 σ w τ
set_option maxRecDepth 100000 in
set_option maxHeartbeats 4000000 in
theorem v_none : UMet 78 (Pv_none) (Qv_none) := by sorry
theorem w_none : UMet 78 (fun _ _ => True) Qw_none := fun A1 σ _ w τ h hP => v_none A1 σ hP w τ h
def Pv_isBad : UP1 := fun A1 σ => match A1 with
  | [.int s] => True
  | _ => False
def Qv_isBad : UQ1 := fun A1 σ w τ => match A1 with
  | [.int s] => σ = τ ∧ ∃ b : Int32, w = some (.int b) ∧ (¬ b = 0 ↔ aI σ 70 s.toNatClampNeg = -2)
  | _ => False
def Qw_isBad : UQ1 := fun A1 σ w τ => Pv_isBad A1 σ → Qv_isBad A1 σ w τ
set_option maxRecDepth 100000 in
set_option maxHeartbeats 4000000 in
theorem v_isBad : UMet 79 (Pv_isBad) (Qv_isBad) := by sorry
theorem w_isBad : UMet 79 (fun _ _ => True) Qw_isBad := fun A1 σ _ w τ h hP => v_isBad A1 σ hP w τ h
def Pv_fits : UP1 := fun A1 σ => match A1 with
  | [.int s, .int type] => True
  | _ => False
def Qv_fits : UQ1 := fun A1 σ w τ => match A1 with
  | [.int s, .int type] => σ = τ ∧ ∃ b : Int32, w = some (.int b) ∧ ∀ e, TeR σ s.toNatClampNeg e → ¬ type.toInt = 5 → (¬ b = 0 ↔ ftT e type.toInt)
  | _ => False
def Qw_fits : UQ1 := fun A1 σ w τ => Pv_fits A1 σ → Qv_fits A1 σ w τ
set_option maxRecDepth 100000 in
set_option maxHeartbeats 4000000 in
theorem v_fits : UMet 75 (Pv_fits) (Qv_fits) := by sorry
theorem w_fits : UMet 75 (fun _ _ => True) Qw_fits := fun A1 σ _ w τ h hP => v_fits A1 σ hP w τ h
/-! the reference judges: more helpers -/
theorem sg_n {a sg k m : Int} (h : (a, sg) ∈ sgT) (q : (k, m) ∈ sgT) : a = k ↔ sg = m := sgT_in _ h _ q
theorem ca_nr {t : Int} {v : Int64} (h : ¬ t = 0) : caT t v = nrT t v := if_neg h
theorem nd_t {e : TvT} {want : Int32} (h : want = 0) : ndT want e ↔ e.1 = 0 := by sorry
theorem nd_f {e : TvT} {want : Int32} (h : ¬ want = 0) : ndT want e ↔ nuT e.1 := by sorry
theorem pr_t {e : TvT} {ei : Int32} (h : ¬ ei = 0) : prT ei e ↔ (e.1 = 0 ∨ nuT e.1) := by sorry
theorem pr_f {e : TvT} {ei : Int32} (h : ei = 0) : prT ei e ↔ nuT e.1 := ⟨fun q => q.elim (fun z => absurd h z.1) id, Or.inr⟩
theorem sgr : ∀ p ∈ sgT, 22 ≤ p.2 → p.2 ≤ 38 → (p.2 = 34 ∧ p.1 = 43) ∨ (p.2 = 35 ∧ p.1 = 45) ∨ (p.2 = 36 ∧ p.1 = 42) ∨ (p.2 = 37 ∧ p.1 = 47) ∨ (p.2 = 38 ∧ p.1 = 37) ∨ (p.2 = 24 ∧ p.1 = 38) ∨ (p.2 = 22 ∧ p.1 = 124) ∨ (p.2 = 23 ∧ p.1 = 94) ∨ (p.2 = 31 ∧ p.1 = 304) ∨ (p.2 = 32 ∧ p.1 = 305) ∨ (p.2 = 33 ∧ p.1 = 306) ∨ (p.2 = 25 ∧ p.1 = 300) ∨ (p.2 = 26 ∧ p.1 = 301) ∨ (p.2 = 27 ∧ p.1 = 60) ∨ (p.2 = 29 ∧ p.1 = 62) ∨ (p.2 = 28 ∧ p.1 = 302) ∨ (p.2 = 30 ∧ p.1 = 303) := by sorry
def Pv_wide : UP1 := fun A1 σ => match A1 with
  | [.int type] => True
  | _ => False
def Qv_wide : UQ1 := fun A1 σ w τ => match A1 with
  | [.int type] => σ = τ ∧ ∃ r : Int32, w = some (.int r) ∧ r.toInt = pmT type.toInt
  | _ => False
def Qw_wide : UQ1 := fun A1 σ w τ => Pv_wide A1 σ → Qv_wide A1 σ w τ
set_option maxRecDepth 100000 in
set_option maxHeartbeats 4000000 in
theorem v_wide : UMet 81 (Pv_wide) (Qv_wide) := by sorry
theorem w_wide : UMet 81 (fun _ _ => True) Qw_wide := fun A1 σ _ w τ h hP => v_wide A1 σ hP w τ h
def Pv_isShift : UP1 := fun A1 σ => match A1 with
  | [.int s] => True
  | _ => False
def Qv_isShift : UQ1 := fun A1 σ w τ => match A1 with
  | [.int s] => σ = τ ∧ ∃ b : Int32, w = some (.int b) ∧ (¬ b = 0 ↔ ((s.toInt) = 304 ∨ (s.toInt) = 305 ∨ (s.toInt) = 306))
  | _ => False
def Qw_isShift : UQ1 := fun A1 σ w τ => Pv_isShift A1 σ → Qv_isShift A1 σ w τ
set_option maxRecDepth 100000 in
set_option maxHeartbeats 4000000 in
theorem v_isShift : UMet 93 (Pv_isShift) (Qv_isShift) := by sorry
theorem w_isShift : UMet 93 (fun _ _ => True) Qw_isShift := fun A1 σ _ w τ h hP => v_isShift A1 σ hP w τ h
def Pv_isBits : UP1 := fun A1 σ => match A1 with
  | [.int s] => True
  | _ => False
def Qv_isBits : UQ1 := fun A1 σ w τ => match A1 with
  | [.int s] => σ = τ ∧ ∃ b : Int32, w = some (.int b) ∧ (¬ b = 0 ↔ ((s.toInt) = 38 ∨ (s.toInt) = 124 ∨ (s.toInt) = 94))
  | _ => False
def Qw_isBits : UQ1 := fun A1 σ w τ => Pv_isBits A1 σ → Qv_isBits A1 σ w τ
set_option maxRecDepth 100000 in
set_option maxHeartbeats 4000000 in
theorem v_isBits : UMet 94 (Pv_isBits) (Qv_isBits) := by sorry
theorem w_isBits : UMet 94 (fun _ _ => True) Qw_isBits := fun A1 σ _ w τ h hP => v_isBits A1 σ hP w τ h
def Pv_isHeld : UP1 := fun A1 σ => match A1 with
  | [.int s, .int type] => True
  | _ => False
def Qv_isHeld : UQ1 := fun A1 σ w τ => match A1 with
  | [.int s, .int type] => σ = τ ∧ ∃ b : Int32, w = some (.int b) ∧ ∀ e, TeR σ s.toNatClampNeg e → (¬ b = 0 ↔ (smT type.toInt ∧ e.1 = 3 ∧ hlT e type.toInt = true))
  | _ => False
def Qw_isHeld : UQ1 := fun A1 σ w τ => Pv_isHeld A1 σ → Qv_isHeld A1 σ w τ
set_option maxRecDepth 100000 in
set_option maxHeartbeats 4000000 in
theorem v_isHeld : UMet 99 (Pv_isHeld) (Qv_isHeld) := by sorry
theorem w_isHeld : UMet 99 (fun _ _ => True) Qw_isHeld := fun A1 σ _ w τ h hP => v_isHeld A1 σ hP w τ h
def Pv_need : UP1 := fun A1 σ => match A1 with
  | [.int s, .int want] => True
  | _ => False
def Qv_need : UQ1 := fun A1 σ w τ => match A1 with
  | [.int s, .int want] => (¬ gI σ 66 = 0 → ¬ gI τ 66 = 0) ∧ ∃ b : Int32, w = some (.int b) ∧ ∀ e, TeR σ s.toNatClampNeg e → (b = 1 ∧ σ = τ ∧ ndT want e) ∨ (b = 0 ∧ ¬ gI τ 66 = 0 ∧ ¬ ndT want e)
  | _ => False
def Qw_need : UQ1 := fun A1 σ w τ => Pv_need A1 σ → Qv_need A1 σ w τ
set_option maxRecDepth 100000 in
set_option maxHeartbeats 4000000 in
theorem v_need : UMet 80 (Pv_need) (Qv_need) := by sorry
theorem w_need : UMet 80 (fun _ _ => True) Qw_need := fun A1 σ _ w τ h hP => v_need A1 σ hP w τ h
def Pv_pair : UP1 := fun A1 σ => match A1 with
  | [.int s, .int either] => True
  | _ => False
def Qv_pair : UQ1 := fun A1 σ w τ => match A1 with
  | [.int s, .int either] => (¬ gI σ 66 = 0 → ¬ gI τ 66 = 0) ∧ ∃ b : Int32, w = some (.int b) ∧ ∀ e, TeR σ s.toNatClampNeg e → (b = 1 ∧ σ = τ ∧ prT either e) ∨ (b = 0 ∧ ¬ gI τ 66 = 0 ∧ ¬ prT either e)
  | _ => False
def Qw_pair : UQ1 := fun A1 σ w τ => Pv_pair A1 σ → Qv_pair A1 σ w τ
set_option maxRecDepth 100000 in
set_option maxHeartbeats 4000000 in
theorem v_pair : UMet 96 (Pv_pair) (Qv_pair) := by sorry
theorem w_pair : UMet 96 (fun _ _ => True) Qw_pair := fun A1 σ _ w τ h hP => v_pair A1 σ hP w τ h
def Pv_reckon : UP1 := fun A1 σ => match A1 with
  | [.int s, .int work, .long a, .long b] => True
  | _ => False
def Qv_reckon : UQ1 := fun A1 σ w τ => match A1 with
  | [.int s, .int work, .long a, .long b] => σ = τ ∧ ∃ r : Int64, w = some (.long r) ∧ ∀ sg : Int, (s.toInt, sg) ∈ sgT → 22 ≤ sg ∧ sg ≤ 38 → ((34 ≤ sg ∧ sg ≤ 38) → ¬ work.toInt = 0) → r = wkT sg work.toInt a b
  | _ => False
def Qw_reckon : UQ1 := fun A1 σ w τ => Pv_reckon A1 σ → Qv_reckon A1 σ w τ
set_option maxRecDepth 100000 in
set_option maxHeartbeats 4000000 in
theorem v_reckon : UMet 97 (Pv_reckon) (Qv_reckon) := by sorry
theorem w_reckon : UMet 97 (fun _ _ => True) Qw_reckon := fun A1 σ _ w τ h hP => v_reckon A1 σ hP w τ h
/-! the reference judges: what is told stays told; find -/
def sameR (σ : RS) (t u : Nat) : Prop := aL σ 7 t = aL σ 7 u ∧ aI σ 8 t = aI σ 8 u ∧ aI σ 5 t = aI σ 5 u
/-- variable v is known at token t under its NAME -/
def VkR (σ : RS) (t : Int32) (v : Nat) : Prop := aI σ 46 v = gI σ 89 ∧ aI σ 43 v < t ∧ t ≤ aI σ 48 v ∧ sameR σ (aI σ 43 v).toNatClampNeg t.toNatClampNeg
def FdR (σ : RS) (t : Int32) (r : Int) : Prop := (0 ≤ r ∧ r < (gI σ 42).toInt ∧ VkR σ t r.toNat ∧ ∀ v : Nat, r < (v : Int) → (v : Int) < (gI σ 42).toInt → ¬ VkR σ t v) ∨ (r = -2 ∧ ∀ v : Nat, (v : Int) < (gI σ 42).toInt → ¬ VkR σ t v)
theorem nT_x {v : Int32} {n : Nat} (h : v.toInt = (n : Int)) : v.toNatClampNeg = n := by sorry
theorem i32_m {v : Int32} {x : Int} (h : v.toInt = x) (h0 : -2147483647 ≤ x) (h1 : x ≤ 2147483647) : (v + -1).toInt = x - 1 := by sorry
theorem i32_s {v : Int32} {x : Int} {k : Int32} {y : Int} (h : v.toInt = x) (g : k.toInt = y) (h0 : -2147483648 ≤ x - y) (h1 : x - y ≤ 2147483647) : (v - k).toInt = x - y := by sorry
def Pv_find : UP1 := fun A1 σ => match A1 with
  | [.int t] => True
  | _ => False
def Qv_find : UQ1 := fun A1 σ w τ => match A1 with
  | [.int t] => σ = τ ∧ ∃ r : Int32, w = some (.int r) ∧ (0 ≤ (gI σ 42).toInt → FdR σ t r.toInt)
  | _ => False
def Qw_find : UQ1 := fun A1 σ w τ => Pv_find A1 σ → Qv_find A1 σ w τ
set_option maxRecDepth 100000 in
set_option maxHeartbeats 4000000 in
theorem v_find : UMet 71 (Pv_find) (Qv_find) := by sorry
theorem w_find : UMet 71 (fun _ _ => True) Qw_find := fun A1 σ _ w τ h hP => v_find A1 σ hP w τ h
def Pv_literalA : UP1 := fun A1 σ => match A1 with
  | [.int c, .int t] => ¬ gI σ 66 = 0
  | _ => False
def Qv_literalA : UQ1 := fun A1 σ w τ => match A1 with
  | [.int c, .int t] => w = none ∧ ¬ gI τ 66 = 0
  | _ => False
def Qw_literalA : UQ1 := fun A1 σ w τ => Pv_literalA A1 σ → Qv_literalA A1 σ w τ
set_option maxRecDepth 100000 in
set_option maxHeartbeats 4000000 in
theorem v_literalA : UMet 89 (Pv_literalA) (Qv_literalA) := by sorry
theorem w_literalA : UMet 89 (fun _ _ => True) Qw_literalA := fun A1 σ _ w τ h hP => v_literalA A1 σ hP w τ h
def Pv_stepA : UP1 := fun A1 σ => match A1 with
  | [.int c, .int t] => ¬ gI σ 66 = 0
  | _ => False
def Qv_stepA : UQ1 := fun A1 σ w τ => match A1 with
  | [.int c, .int t] => w = none ∧ ¬ gI τ 66 = 0
  | _ => False
def Qw_stepA : UQ1 := fun A1 σ w τ => Pv_stepA A1 σ → Qv_stepA A1 σ w τ
set_option maxRecDepth 100000 in
set_option maxHeartbeats 4000000 in
theorem v_stepA : UMet 90 (Pv_stepA) (Qv_stepA) := by sorry
theorem w_stepA : UMet 90 (fun _ _ => True) Qw_stepA := fun A1 σ _ w τ h hP => v_stepA A1 σ hP w τ h
def Pv_unaryA : UP1 := fun A1 σ => match A1 with
  | [.int c] => ¬ gI σ 66 = 0
  | _ => False
def Qv_unaryA : UQ1 := fun A1 σ w τ => match A1 with
  | [.int c] => w = none ∧ ¬ gI τ 66 = 0
  | _ => False
def Qw_unaryA : UQ1 := fun A1 σ w τ => Pv_unaryA A1 σ → Qv_unaryA A1 σ w τ
set_option maxRecDepth 100000 in
set_option maxHeartbeats 4000000 in
theorem v_unaryA : UMet 91 (Pv_unaryA) (Qv_unaryA) := by sorry
theorem w_unaryA : UMet 91 (fun _ _ => True) Qw_unaryA := fun A1 σ _ w τ h hP => v_unaryA A1 σ hP w τ h
def Pv_castsA : UP1 := fun A1 σ => match A1 with
  | [.int c] => ¬ gI σ 66 = 0
  | _ => False
def Qv_castsA : UQ1 := fun A1 σ w τ => match A1 with
  | [.int c] => w = none ∧ ¬ gI τ 66 = 0
  | _ => False
def Qw_castsA : UQ1 := fun A1 σ w τ => Pv_castsA A1 σ → Qv_castsA A1 σ w τ
set_option maxRecDepth 100000 in
set_option maxHeartbeats 4000000 in
theorem v_castsA : UMet 92 (Pv_castsA) (Qv_castsA) := by sorry
theorem w_castsA : UMet 92 (fun _ _ => True) Qw_castsA := fun A1 σ _ w τ h hP => v_castsA A1 σ hP w τ h
def Pv_binaryA : UP1 := fun A1 σ => match A1 with
  | [.int c] => ¬ gI σ 66 = 0
  | _ => False
def Qv_binaryA : UQ1 := fun A1 σ w τ => match A1 with
  | [.int c] => w = none ∧ ¬ gI τ 66 = 0
  | _ => False
def Qw_binaryA : UQ1 := fun A1 σ w τ => Pv_binaryA A1 σ → Qv_binaryA A1 σ w τ
set_option maxRecDepth 100000 in
set_option maxHeartbeats 4000000 in
theorem v_binaryA : UMet 95 (Pv_binaryA) (Qv_binaryA) := by sorry
theorem w_binaryA : UMet 95 (fun _ _ => True) Qw_binaryA := fun A1 σ _ w τ h hP => v_binaryA A1 σ hP w τ h
def Pv_choiceA : UP1 := fun A1 σ => match A1 with
  | [.int c] => ¬ gI σ 66 = 0
  | _ => False
def Qv_choiceA : UQ1 := fun A1 σ w τ => match A1 with
  | [.int c] => w = none ∧ ¬ gI τ 66 = 0
  | _ => False
def Qw_choiceA : UQ1 := fun A1 σ w τ => Pv_choiceA A1 σ → Qv_choiceA A1 σ w τ
set_option maxRecDepth 100000 in
set_option maxHeartbeats 4000000 in
theorem v_choiceA : UMet 98 (Pv_choiceA) (Qv_choiceA) := by sorry
theorem w_choiceA : UMet 98 (fun _ _ => True) Qw_choiceA := fun A1 σ _ w τ h hP => v_choiceA A1 σ hP w τ h
def Pv_assignA : UP1 := fun A1 σ => match A1 with
  | [.int c, .int t] => ¬ gI σ 66 = 0
  | _ => False
def Qv_assignA : UQ1 := fun A1 σ w τ => match A1 with
  | [.int c, .int t] => w = none ∧ ¬ gI τ 66 = 0
  | _ => False
def Qw_assignA : UQ1 := fun A1 σ w τ => Pv_assignA A1 σ → Qv_assignA A1 σ w τ
set_option maxRecDepth 100000 in
set_option maxHeartbeats 4000000 in
theorem v_assignA : UMet 100 (Pv_assignA) (Qv_assignA) := by sorry
theorem w_assignA : UMet 100 (fun _ _ => True) Qw_assignA := fun A1 σ _ w τ h hP => v_assignA A1 σ hP w τ h
/-! the reference judges exps one by one -/
def JgR (τ : RS) (r : Option TvT) (F : TvT → RS → Prop) : Prop := (r = none ∧ ¬ gI τ 66 = 0) ∨ ∃ e, r = some e ∧ F e τ
theorem nr_3 {v : Int64} : nrT 3 v = v ↔ -2147483648 ≤ v.toInt ∧ v.toInt ≤ 2147483647 := by sorry
theorem nr_rg {t : Int} {v : Int64} (h : nuT t) (g : ¬ t = 4) (q : nrT t v = v) : -2147483648 ≤ v.toInt ∧ v.toInt ≤ 2147483647 := by sorry
theorem nr_w {t : Int} {v : Int64} (h : nuT t) (q : nrT t v = v) : nrT (pmT t) v = v := by sorry
theorem not_i {v : Int64} : (~~~v).toInt = -1 - v.toInt := by sorry
theorem nr_no {t : Int} {v : Int64} (h : nuT t) (q : nrT t v = v) : nrT (pmT t) (~~~v) = ~~~v := by sorry
theorem x_m1 {v : Int64} : v ^^^ Int64.ofInt (-1) = ~~~v := by sorry
theorem ca_not {v : Int64} (h : v = 0 ∨ v = 1) : caT 0 (1 - v) = v ^^^ 1 := by sorry
theorem ca_b {v : Int64} (h : v = 0 ∨ v = 1) : caT 0 v = v := by sorry
theorem pm_nz {t : Int} : ¬ pmT t = 0 := by sorry
theorem ca_pm {t : Int} {v : Int64} : caT (pmT t) v = nrT (pmT t) v := ca_nr pm_nz
def Pv_literalB (r : Option TvT) : UP1 := fun A1 σ => match A1 with
  | [.int c, .int t] => gI σ 66 = 0 ∧ ((aI σ 3 t.toNatClampNeg = 2 ∧ (aI σ 11 t.toNatClampNeg = 2 ∨ (aI σ 11 t.toNatClampNeg = 1 ∧ aI σ 21 c.toNatClampNeg = 0))) ↔ r = none) ∧ ∀ e, r = some e → (aI σ 20 c.toNatClampNeg).toInt = e.1 ∧ ¬ e.2.1 = 0 ∧ e.2.2.1 = (if aI σ 3 t.toNatClampNeg = 4 then (if aI σ 6 t.toNatClampNeg = 22 then 1 else 0) else if aI σ 20 c.toNatClampNeg = 3 then (aL σ 9 t.toNatClampNeg).toInt32.toInt64 else aL σ 9 t.toNatClampNeg)
  | _ => False
def Qv_literalB (r : Option TvT) : UQ1 := fun A1 σ w τ => match A1 with
  | [.int c, .int t] => w = none ∧ JgR τ (r) (fun e τ => ∃ ty su v, ShT ty su v e ∧ τ = lieS σ c ty su v)
  | _ => False
def Qw_literalB : UQ1 := fun A1 σ w τ => ∀ (r : Option TvT), Pv_literalB r A1 σ → Qv_literalB r A1 σ w τ
set_option maxRecDepth 100000 in
set_option maxHeartbeats 4000000 in
theorem v_literalB (r : Option TvT) : UMet 89 (Pv_literalB r) (Qv_literalB r) := by sorry
theorem w_literalB : UMet 89 (fun _ _ => True) Qw_literalB := fun A1 σ _ w τ h r hP => v_literalB r A1 σ hP w τ h
def Pv_unaryB (a t : TvT) (x : XrZ) : UP1 := fun A1 σ => match A1 with
  | [.int c] => gI σ 66 = 0 ∧ TeR σ ((gI σ 69) - 1).toNatClampNeg a ∧ ((aI σ 20 c.toNatClampNeg).toInt, x.1.2.1) ∈ sgT ∧ (x.1.2.1 = 34 ∨ x.1.2.1 = 35 ∨ x.1.2.1 = 39 ∨ x.1.2.1 = 40)
  | _ => False
def Qv_unaryB (a t : TvT) (x : XrZ) : UQ1 := fun A1 σ w τ => match A1 with
  | [.int c] => w = none ∧ JgR τ (x4T a t x) (fun e τ => ∃ ty su v, ShT ty su v e ∧ τ = lieS (sA (sI σ 69 (gI σ 69 - 1)) 82 (upd (aI σ 82) c.toNatClampNeg ty)) c ty su v)
  | _ => False
def Qw_unaryB : UQ1 := fun A1 σ w τ => ∀ (a t : TvT) (x : XrZ), Pv_unaryB a t x A1 σ → Qv_unaryB a t x A1 σ w τ
set_option maxRecDepth 100000 in
set_option maxHeartbeats 4000000 in
theorem v_unaryB (a t : TvT) (x : XrZ) : UMet 91 (Pv_unaryB a t x) (Qv_unaryB a t x) := by sorry
theorem w_unaryB : UMet 91 (fun _ _ => True) Qw_unaryB := fun A1 σ _ w τ h a t x hP => v_unaryB a t x A1 σ hP w τ h
def Pv_castsB (a t : TvT) (x : XrZ) : UP1 := fun A1 σ => match A1 with
  | [.int c] => gI σ 66 = 0 ∧ TeR σ ((gI σ 69) - 1).toNatClampNeg a ∧ (aI σ 20 c.toNatClampNeg).toInt = x.2.1.2.2 ∧ (0 ≤ x.2.1.2.2 ∧ x.2.1.2.2 ≤ 4)
  | _ => False
def Qv_castsB (a t : TvT) (x : XrZ) : UQ1 := fun A1 σ w τ => match A1 with
  | [.int c] => w = none ∧ JgR τ (x5T a t x) (fun e τ => ∃ ty su v, ShT ty su v e ∧ τ = lieS (sI σ 69 (gI σ 69 - 1)) c ty su v)
  | _ => False
def Qw_castsB : UQ1 := fun A1 σ w τ => ∀ (a t : TvT) (x : XrZ), Pv_castsB a t x A1 σ → Qv_castsB a t x A1 σ w τ
set_option maxRecDepth 100000 in
set_option maxHeartbeats 4000000 in
theorem v_castsB (a t : TvT) (x : XrZ) : UMet 92 (Pv_castsB a t x) (Qv_castsB a t x) := by sorry
theorem w_castsB : UMet 92 (fun _ _ => True) Qw_castsB := fun A1 σ _ w τ h a t x hP => v_castsB a t x A1 σ hP w τ h
/-! the reference judges exps: operators, choices, assignments -/
theorem wr_nz {sg l r : Int} (h : 34 ≤ sg ∧ sg ≤ 38) (hl : ltT sg l) : ¬ wrT sg l r = 0 := by sorry
theorem cs_01 {sg : Int} {a b : TvT} {su : Int32} (h : ¬ su = 0 ↔ csT sg a b = 1) : ¬ su = 0 ↔ ¬ csT sg a b = 0 := by sorry
theorem cs_no {sg : Int} {a b : TvT} (h : a.2.1 = 0 ∨ b.2.1 = 0 ∨ ((sg = 37 ∨ sg = 38) ∧ b.2.2.1 = 0)) : ¬ csT sg a b = 1 := by sorry
theorem cv_wk {sg w : Int} {a b : Int64} (h : 22 ≤ sg) : cvT sg w a b = wkT sg w a b := by sorry
theorem sg_sh {a sg : Int} (h : (a, sg) ∈ sgT) : (a = 304 ∨ a = 305 ∨ a = 306) ↔ (31 ≤ sg ∧ sg ≤ 33) := by sorry
theorem sg_bi {a sg : Int} (h : (a, sg) ∈ sgT) : (a = 38 ∨ a = 124 ∨ a = 94) ↔ (22 ≤ sg ∧ sg ≤ 24) := by sorry
theorem ct_v {b c : TvT} (hb : VaT b) (hc : VaT c) (cb : ¬ b.2.1 = 0) (cc : ¬ c.2.1 = 0) (h : rtT b.1 c.1) (h5 : ¬ b.1 = 5) : caT (ctT b c) b.2.2.1 = b.2.2.1 ∧ caT (ctT b c) c.2.2.1 = c.2.2.1 := by sorry
def Pv_stepB (C : CxT) (t0 : TvT) (x : XrZ) : UP1 := fun A1 σ => match A1 with
  | [.int c, .int t] => gI σ 66 = 0 ∧ 0 ≤ (gI σ 42).toInt ∧ (∀ r, FdR σ t r → r = x.2.1.2.1 ∨ (r < 0 ∧ x.2.1.2.1 < 0)) ∧ (0 ≤ x.2.1.2.1 → knT C x.2.1.2.1) ∧ (knT C x.2.1.2.1 → (aI σ 44 x.2.1.2.1.toNat).toInt = (vtT C x.2.1.2.1).1 ∧ (¬ aI σ 45 x.2.1.2.1.toNat = 0 ↔ ¬ (vtT C x.2.1.2.1).2 = 0) ∧ 0 ≤ (vtT C x.2.1.2.1).1 ∧ (vtT C x.2.1.2.1).1 ≤ 4) ∧ t0.2.1 = 0
  | _ => False
def Qv_stepB (C : CxT) (t0 : TvT) (x : XrZ) : UQ1 := fun A1 σ w τ => match A1 with
  | [.int c, .int t] => w = none ∧ JgR τ (x6T C t0 x) (fun e τ => ∃ (l : Int32) (ty su : Int32) (v : Int64), l.toInt = x.2.1.2.1 ∧ ShT ty su v e ∧ τ = lieS (sA (sA σ 83 (upd (aI σ 83) c.toNatClampNeg l)) 80 (upd (aI σ 80) t.toNatClampNeg l)) c ty su v)
  | _ => False
def Qw_stepB : UQ1 := fun A1 σ w τ => ∀ (C : CxT) (t0 : TvT) (x : XrZ), Pv_stepB C t0 x A1 σ → Qv_stepB C t0 x A1 σ w τ
set_option maxRecDepth 100000 in
set_option maxHeartbeats 4000000 in
theorem v_stepB (C : CxT) (t0 : TvT) (x : XrZ) : UMet 90 (Pv_stepB C t0 x) (Qv_stepB C t0 x) := by sorry
theorem w_stepB : UMet 90 (fun _ _ => True) Qw_stepB := fun A1 σ _ w τ h C t0 x hP => v_stepB C t0 x A1 σ hP w τ h
def Pv_binaryB (a b t : TvT) (x : XrZ) : UP1 := fun A1 σ => match A1 with
  | [.int c] => gI σ 66 = 0 ∧ TeR σ ((gI σ 69) - 2).toNatClampNeg a ∧ TeR σ (((gI σ 69) - 2) + 1).toNatClampNeg b ∧ ((aI σ 20 c.toNatClampNeg).toInt, x.1.2.1) ∈ sgT ∧ (22 ≤ x.1.2.1 ∧ x.1.2.1 ≤ 38)
  | _ => False
def Qv_binaryB (a b t : TvT) (x : XrZ) : UQ1 := fun A1 σ w τ => match A1 with
  | [.int c] => w = none ∧ JgR τ (x7T a b t x) (fun e τ => ∃ (wk ty su : Int32) (v : Int64), wk.toInt = e.2.2.2 ∧ ShT ty su v e ∧ τ = lieS (sA (sI σ 69 (gI σ 69 - 2)) 82 (upd (aI σ 82) c.toNatClampNeg wk)) c ty su v)
  | _ => False
def Qw_binaryB : UQ1 := fun A1 σ w τ => ∀ (a b t : TvT) (x : XrZ), Pv_binaryB a b t x A1 σ → Qv_binaryB a b t x A1 σ w τ
set_option maxRecDepth 100000 in
set_option maxHeartbeats 4000000 in
theorem v_binaryB (a b t : TvT) (x : XrZ) : UMet 95 (Pv_binaryB a b t x) (Qv_binaryB a b t x) := by sorry
theorem w_binaryB : UMet 95 (fun _ _ => True) Qw_binaryB := by sorry
def Pv_choiceB (a b d t : TvT) (x : XrZ) : UP1 := fun A1 σ => match A1 with
  | [.int c] => gI σ 66 = 0 ∧ TeR σ ((gI σ 69) - 3).toNatClampNeg a ∧ TeR σ (((gI σ 69) - 3) + 1).toNatClampNeg b ∧ TeR σ (((gI σ 69) - 3) + 2).toNatClampNeg d
  | _ => False
def Qv_choiceB (a b d t : TvT) (x : XrZ) : UQ1 := fun A1 σ w τ => match A1 with
  | [.int c] => w = none ∧ JgR τ (x8T a b d t) (fun e τ => ∃ (ty su : Int32) (v : Int64), ShT ty su v e ∧ τ = lieS (sA (sI σ 69 (gI σ 69 - 3)) 82 (upd (aI σ 82) c.toNatClampNeg ty)) c ty su v)
  | _ => False
def Qw_choiceB : UQ1 := fun A1 σ w τ => ∀ (a b d t : TvT) (x : XrZ), Pv_choiceB a b d t x A1 σ → Qv_choiceB a b d t x A1 σ w τ
set_option maxRecDepth 100000 in
set_option maxHeartbeats 4000000 in
theorem v_choiceB (a b d t : TvT) (x : XrZ) : UMet 98 (Pv_choiceB a b d t x) (Qv_choiceB a b d t x) := by sorry
theorem w_choiceB : UMet 98 (fun _ _ => True) Qw_choiceB := by sorry
/-! the reference judges exps: assignments; methods as they are told -/
theorem sgT_p : ∀ p ∈ sgT, 33 ≤ p.1 := by sorry
/-- method m has the NAME of token t -/
def nmR (σ : RS) (m : Int32) (t : Nat) : Prop := (m < 10 ∧ sameR σ (aI σ 37 m.toNatClampNeg).toNatClampNeg t) ∨ (m = 10 ∧ aL σ 7 t = Int64.ofInt 7304564 ∧ aI σ 5 t = 3) ∨ (10 < m ∧ aL σ 7 t = Int64.ofInt 26990 ∧ aI σ 5 t = 2)
def ptR (σ : RS) (m : Int32) (i : Nat) : Int := ((if m = 10 then 4 else aI σ 44 (aI σ 40 m.toNatClampNeg + Int32.ofNat i).toNatClampNeg : Int32)).toInt
def pcR (σ : RS) (m : Int32) : Int32 := if m = 10 then 1 else if m = 11 then 0 else aI σ 39 m.toNatClampNeg
def Pv_assignB (C : CxT) (b t0 : TvT) (x : XrZ) : UP1 := fun A1 σ => match A1 with
  | [.int c, .int t] => gI σ 66 = 0 ∧ TeR σ ((gI σ 69) - 1).toNatClampNeg b ∧ ((x.1.2.1 = 8 ∧ (aI σ 20 c.toNatClampNeg).toInt = 61) ∨ (¬ x.1.2.1 = 8 ∧ ((aI σ 20 c.toNatClampNeg).toInt - 400, x.1.2.1) ∈ sgT ∧ 22 ≤ x.1.2.1 ∧ x.1.2.1 ≤ 38 ∧ (x.1.2.1 ≤ 24 ∨ 31 ≤ x.1.2.1))) ∧ 0 ≤ (gI σ 42).toInt ∧ (∀ r, FdR σ t r → r = x.2.1.2.1 ∨ (r < 0 ∧ x.2.1.2.1 < 0)) ∧ (0 ≤ x.2.1.2.1 → knT C x.2.1.2.1) ∧ (knT C x.2.1.2.1 → (aI σ 44 x.2.1.2.1.toNat).toInt = (vtT C x.2.1.2.1).1 ∧ (¬ aI σ 45 x.2.1.2.1.toNat = 0 ↔ ¬ (vtT C x.2.1.2.1).2 = 0) ∧ 0 ≤ (vtT C x.2.1.2.1).1 ∧ (vtT C x.2.1.2.1).1 ≤ 4) ∧ t0.2.1 = 0
  | _ => False
def Qv_assignB (C : CxT) (b t0 : TvT) (x : XrZ) : UQ1 := fun A1 σ w τ => match A1 with
  | [.int c, .int t] => w = none ∧ JgR τ (x9T C b t0 x) (fun e τ => ∃ (l : Int32) (σ1 : RS) (ty su : Int32) (v : Int64), l.toInt = x.2.1.2.1 ∧ ((x.1.2.1 = 8 ∧ σ1 = (sA (sA (sI σ 69 (gI σ 69 - 1)) 83 (upd (aI σ 83) c.toNatClampNeg l)) 80 (upd (aI σ 80) t.toNatClampNeg l))) ∨ (¬ x.1.2.1 = 8 ∧ ∃ wk : Int32, wk.toInt = e.2.2.2 ∧ σ1 = sA (sA (sA (sI σ 69 (gI σ 69 - 1)) 83 (upd (aI σ 83) c.toNatClampNeg l)) 80 (upd (aI σ 80) t.toNatClampNeg l)) 82 (upd (aI σ 82) c.toNatClampNeg wk))) ∧ ShT ty su v e ∧ τ = lieS σ1 c ty su v)
  | _ => False
def Qw_assignB : UQ1 := fun A1 σ w τ => ∀ (C : CxT) (b t0 : TvT) (x : XrZ), Pv_assignB C b t0 x A1 σ → Qv_assignB C b t0 x A1 σ w τ
set_option maxRecDepth 100000 in
set_option maxHeartbeats 4000000 in
theorem v_assignB (C : CxT) (b t0 : TvT) (x : XrZ) : UMet 100 (Pv_assignB C b t0 x) (Qv_assignB C b t0 x) := by sorry
theorem w_assignB : UMet 100 (fun _ _ => True) Qw_assignB := by sorry
def Pv_typeOfParam : UP1 := fun A1 σ => match A1 with
  | [.int m, .int i] => True
  | _ => False
def Qv_typeOfParam : UQ1 := fun A1 σ w τ => match A1 with
  | [.int m, .int i] => σ = τ ∧ ∃ r : Int32, w = some (.int r) ∧ r = (if m = 10 then 4 else aI σ 44 (aI σ 40 m.toNatClampNeg + i).toNatClampNeg)
  | _ => False
def Qw_typeOfParam : UQ1 := fun A1 σ w τ => Pv_typeOfParam A1 σ → Qv_typeOfParam A1 σ w τ
set_option maxRecDepth 100000 in
set_option maxHeartbeats 4000000 in
theorem v_typeOfParam : UMet 83 (Pv_typeOfParam) (Qv_typeOfParam) := by sorry
theorem w_typeOfParam : UMet 83 (fun _ _ => True) Qw_typeOfParam := fun A1 σ _ w τ h hP => v_typeOfParam A1 σ hP w τ h
def Pv_paramsOf : UP1 := fun A1 σ => match A1 with
  | [.int m] => True
  | _ => False
def Qv_paramsOf : UQ1 := fun A1 σ w τ => match A1 with
  | [.int m] => σ = τ ∧ ∃ r : Int32, w = some (.int r) ∧ r = (if m = 10 then 1 else if m = 11 then 0 else aI σ 39 m.toNatClampNeg)
  | _ => False
def Qw_paramsOf : UQ1 := fun A1 σ w τ => Pv_paramsOf A1 σ → Qv_paramsOf A1 σ w τ
set_option maxRecDepth 100000 in
set_option maxHeartbeats 4000000 in
theorem v_paramsOf : UMet 84 (Pv_paramsOf) (Qv_paramsOf) := by sorry
theorem w_paramsOf : UMet 84 (fun _ _ => True) Qw_paramsOf := fun A1 σ _ w τ h hP => v_paramsOf A1 σ hP w τ h
def Pv_resultOf : UP1 := fun A1 σ => match A1 with
  | [.int m] => True
  | _ => False
def Qv_resultOf : UQ1 := fun A1 σ w τ => match A1 with
  | [.int m] => σ = τ ∧ ∃ r : Int32, w = some (.int r) ∧ r = (if m = 10 then 5 else if m = 11 then 3 else aI σ 38 m.toNatClampNeg)
  | _ => False
def Qw_resultOf : UQ1 := fun A1 σ w τ => Pv_resultOf A1 σ → Qv_resultOf A1 σ w τ
set_option maxRecDepth 100000 in
set_option maxHeartbeats 4000000 in
theorem v_resultOf : UMet 85 (Pv_resultOf) (Qv_resultOf) := by sorry
theorem w_resultOf : UMet 85 (fun _ _ => True) Qw_resultOf := fun A1 σ _ w τ h hP => v_resultOf A1 σ hP w τ h
def Pv_isMethod : UP1 := fun A1 σ => match A1 with
  | [.int m] => True
  | _ => False
def Qv_isMethod : UQ1 := fun A1 σ w τ => match A1 with
  | [.int m] => σ = τ ∧ ∃ b : Int32, w = some (.int b) ∧ (¬ b = 0 ↔ (m.toInt < (gI σ 36).toInt ∨ 10 ≤ m.toInt))
  | _ => False
def Qw_isMethod : UQ1 := fun A1 σ w τ => Pv_isMethod A1 σ → Qv_isMethod A1 σ w τ
set_option maxRecDepth 100000 in
set_option maxHeartbeats 4000000 in
theorem v_isMethod : UMet 103 (Pv_isMethod) (Qv_isMethod) := by sorry
theorem w_isMethod : UMet 103 (fun _ _ => True) Qw_isMethod := fun A1 σ _ w τ h hP => v_isMethod A1 σ hP w τ h
def Pv_isNamed : UP1 := fun A1 σ => match A1 with
  | [.int m, .int t] => True
  | _ => False
def Qv_isNamed : UQ1 := fun A1 σ w τ => match A1 with
  | [.int m, .int t] => σ = τ ∧ ∃ b : Int32, w = some (.int b) ∧ (¬ b = 0 ↔ nmR σ m t.toNatClampNeg)
  | _ => False
def Qw_isNamed : UQ1 := fun A1 σ w τ => Pv_isNamed A1 σ → Qv_isNamed A1 σ w τ
set_option maxRecDepth 100000 in
set_option maxHeartbeats 4000000 in
theorem v_isNamed : UMet 86 (Pv_isNamed) (Qv_isNamed) := by sorry
theorem w_isNamed : UMet 86 (fun _ _ => True) Qw_isNamed := fun A1 σ _ w τ h hP => v_isNamed A1 σ hP w τ h
/-! the reference judges calls -/
/-- the params of method m -/
def MpR (σ : RS) (m : Int32) (ps : List Int) : Prop := (if m = 10 then (1 : Int32) else if m = 11 then 0 else aI σ 39 m.toNatClampNeg).toInt = (ps.length : Int) ∧ ∀ i : Int32, 0 ≤ i.toInt → i.toInt < (ps.length : Int) → (if m = 10 then (4 : Int32) else aI σ 44 (aI σ 40 m.toNatClampNeg + i).toNatClampNeg).toInt = ps.getD i.toInt.toNat 0
/-- the arguments' TYPES from place f on -/
def AsR (σ : RS) (f n : Int32) (as : List Int) : Prop := n.toInt = (as.length : Int) ∧ ∀ i : Int32, 0 ≤ i.toInt → i.toInt < (as.length : Int) → (aI σ 70 (f + i).toNatClampNeg).toInt = as.getD i.toInt.toNat 0
theorem tk_iff : ∀ {as ps : List Int}, tkT as ps = true ↔ (as.length = ps.length ∧ ∀ j : Nat, j < as.length → wdT (as.getD j 0) (ps.getD j 0)) := by sorry
theorem i32_1 {v : Int32} {x : Int} (h : v.toInt = x) (h1 : x < 2147483647) (h0 : -2147483648 ≤ x) : (v + 1).toInt = x + 1 := by sorry
theorem wd_st {P : Prop} {b i : Int32} {as ps : List Int} {k : Nat} (hb : ¬ b = 0 ↔ P) (hP : P ↔ wdT (as.getD k 0) (ps.getD k 0)) (hi : i.toInt = (k : Int)) (h1 : (i + 1).toInt = (k : Int) + 1) (ho : as.length = ps.length ∧ ∀ j : Nat, (j : Int) < i.toInt → wdT (as.getD j 0) (ps.getD j 0)) : ¬ b = 0 ↔ (as.length = ps.length ∧ ∀ j : Nat, (j : Int) < (i + 1).toInt → wdT (as.getD j 0) (ps.getD j 0)) := by sorry
def Pv_takes : UP1 := fun A1 σ => match A1 with
  | [.int m, .int first, .int n] => True
  | _ => False
def Qv_takes : UQ1 := fun A1 σ w τ => match A1 with
  | [.int m, .int first, .int n] => σ = τ ∧ ∃ b : Int32, w = some (.int b) ∧ ∀ as ps, AsR σ first n as → MpR σ m ps → (¬ b = 0 ↔ tkT as ps = true)
  | _ => False
def Qw_takes : UQ1 := fun A1 σ w τ => Pv_takes A1 σ → Qv_takes A1 σ w τ
set_option maxRecDepth 100000 in
set_option maxHeartbeats 4000000 in
theorem v_takes : UMet 101 (Pv_takes) (Qv_takes) := by sorry
theorem w_takes : UMet 101 (fun _ _ => True) Qw_takes := fun A1 σ _ w τ h hP => v_takes A1 σ hP w τ h
def Pv_isCloser : UP1 := fun A1 σ => match A1 with
  | [.int m, .int o] => True
  | _ => False
def Qv_isCloser : UQ1 := fun A1 σ w τ => match A1 with
  | [.int m, .int o] => σ = τ ∧ ∃ b : Int32, w = some (.int b) ∧ ∀ as ps, MpR σ m as → MpR σ o ps → as.length = ps.length → (¬ b = 0 ↔ tkT as ps = true)
  | _ => False
def Qw_isCloser : UQ1 := fun A1 σ w τ => Pv_isCloser A1 σ → Qv_isCloser A1 σ w τ
set_option maxRecDepth 100000 in
set_option maxHeartbeats 4000000 in
theorem v_isCloser : UMet 102 (Pv_isCloser) (Qv_isCloser) := by sorry
theorem w_isCloser : UMet 102 (fun _ _ => True) Qw_isCloser := fun A1 σ _ w τ h hP => v_isCloser A1 σ hP w τ h
/-! the reference judges calls: the last one that is as narrow as all others is the only one -/
def blT (ms : MfT) (key : Int) (as : List Int) : Nat → Int
  | 0 => -2
  | k + 1 => if taT ms key as k = true ∧ naT ms key as (psT ms k) 12 = true then (k : Int) else blT ms key as k
/-- no two of the same NAME and params -/
def NdT (ms : MfT) : Prop := ∀ i j a b, i < 12 → j < 12 → ms i = some a → ms j = some b → a.1 = b.1 → a.2.2 = b.2.2 → i = j
def okT (ms : MfT) (key : Int) (as : List Int) (i : Nat) : Prop := taT ms key as i = true ∧ naT ms key as (psT ms i) 12 = true
theorem ta_iff {ms : MfT} {key : Int} {as : List Int} {i : Nat} : taT ms key as i = true ↔ ∃ e, ms i = some e ∧ e.1 = key ∧ tkT as e.2.2 = true := by sorry
theorem ps_e {ms : MfT} {i : Nat} {e : MtT} (h : ms i = some e) : psT ms i = e.2.2 := by sorry
theorem na_sx {ms : MfT} {key : Int} {as ps : List Int} {j : Nat} : naT ms key as ps (j + 1) = true ↔ (naT ms key as ps j = true ∧ (taT ms key as j = true → tkT ps (psT ms j) = true)) := by sorry
theorem na_a {ms : MfT} {key : Int} {as ps : List Int} : ∀ {k : Nat}, naT ms key as ps k = true → ∀ o, o < k → taT ms key as o = true → tkT ps (psT ms o) = true := by sorry
theorem tk_rf : ∀ ps : List Int, tkT ps ps = true := by sorry
theorem tk_as : ∀ {p q : List Int}, tkT p q = true → tkT q p = true → p = q := by sorry
theorem ok_un {ms : MfT} {key : Int} {as : List Int} {i j : Nat} (hn : NdT ms) (hi : i < 12) (hj : j < 12) (a : okT ms key as i) (b : okT ms key as j) : i = j := by sorry
theorem bl_ok {ms : MfT} {key : Int} {as : List Int} : ∀ k : Nat, (0 ≤ blT ms key as k ∧ blT ms key as k < (k : Int) ∧ okT ms key as (blT ms key as k).toNat) ∨ (blT ms key as k = -2 ∧ ∀ i, i < k → ¬ okT ms key as i) := by sorry
theorem bs_ok {ms : MfT} {key : Int} {as : List Int} : ∀ k : Nat, k ≤ 12 → (0 ≤ bsT ms key as k ∧ bsT ms key as k < 12 ∧ okT ms key as (bsT ms key as k).toNat) ∨ (bsT ms key as k = -1 ∧ ∀ j, j < k → ¬ okT ms key as (odT (11 - j))) := by sorry
theorem bl_bs {ms : MfT} {key : Int} {as : List Int} (hn : NdT ms) : (0 ≤ blT ms key as 12 ∧ bsT ms key as 12 = blT ms key as 12) ∨ (blT ms key as 12 < 0 ∧ bsT ms key as 12 < 0) := by sorry
/-- methods as token t sees them -/
def MsR (σ : RS) (t : Int32) (key : Int) (ms : MfT) : Prop := ∀ m : Int32, 0 ≤ m.toInt → m.toInt < 12 → ((m.toInt < (gI σ 36).toInt ∨ 10 ≤ m.toInt) ↔ ∃ e, ms m.toInt.toNat = some e) ∧ ∀ e, ms m.toInt.toNat = some e → (nmR σ m t.toNatClampNeg ↔ e.1 = key) ∧ MpR σ m e.2.2 ∧ (if m = 10 then (5 : Int32) else if m = 11 then 3 else aI σ 38 m.toNatClampNeg).toInt = e.2.1
theorem gd_mem {as : List Int} {k : Nat} (h : k < as.length) : as.getD k 0 ∈ as := by sorry
def Pv_callA : UP1 := fun A1 σ => match A1 with
  | [.int c, .int t] => ¬ gI σ 66 = 0
  | _ => False
def Qv_callA : UQ1 := fun A1 σ w τ => match A1 with
  | [.int c, .int t] => w = none ∧ ¬ gI τ 66 = 0
  | _ => False
def Qw_callA : UQ1 := fun A1 σ w τ => Pv_callA A1 σ → Qv_callA A1 σ w τ
set_option maxRecDepth 100000 in
set_option maxHeartbeats 4000000 in
theorem v_callA : UMet 104 (Pv_callA) (Qv_callA) := by sorry
theorem w_callA : UMet 104 (fun _ _ => True) Qw_callA := fun A1 σ _ w τ h hP => v_callA A1 σ hP w τ h
def Pv_callB (C : CxT) (T : TbT) (t0 : TvT) (x : XrZ) : UP1 := fun A1 σ => match A1 with
  | [.int c, .int t] => gI σ 66 = 0 ∧ AsR σ (gI σ 69 - aI σ 20 c.toNatClampNeg) (aI σ 20 c.toNatClampNeg) (agT T x.2.2.2) ∧ (∀ q ∈ (agT T x.2.2.2), 0 ≤ q ∧ q ≤ 5) ∧ MsR σ t (C.1 x.1.2.2.1) C.2.2.2 ∧ NdT C.2.2.2 ∧ t0.2.1 = 0
  | _ => False
def Qv_callB (C : CxT) (T : TbT) (t0 : TvT) (x : XrZ) : UQ1 := fun A1 σ w τ => match A1 with
  | [.int c, .int t] => w = none ∧ JgR τ (xaT C T t0 x) (fun e τ => ∃ (l ty su : Int32) (v : Int64), l.toInt = e.2.2.2 ∧ ShT ty su v e ∧ τ = lieS (sA (sA (sA (sI σ 69 (gI σ 69 - aI σ 20 c.toNatClampNeg)) 83 (upd (aI σ 83) c.toNatClampNeg (-2))) 83 (upd (upd (aI σ 83) c.toNatClampNeg (-2)) c.toNatClampNeg l)) 80 (upd (aI σ 80) t.toNatClampNeg (100 + l))) c ty su v)
  | _ => False
def Qw_callB : UQ1 := fun A1 σ w τ => ∀ (C : CxT) (T : TbT) (t0 : TvT) (x : XrZ), Pv_callB C T t0 x A1 σ → Qv_callB C T t0 x A1 σ w τ
set_option maxRecDepth 100000 in
set_option maxHeartbeats 4000000 in
theorem v_callB (C : CxT) (T : TbT) (t0 : TvT) (x : XrZ) : UMet 104 (Pv_callB C T t0 x) (Qv_callB C T t0 x) := by sorry
theorem w_callB : UMet 104 (fun _ _ => True) Qw_callB := by sorry
/-! the reference judges one exp -/
theorem JgR.m {τ : RS} {r r' : Option TvT} {F G : TvT → RS → Prop} (h : JgR τ r F) (e : r' = r) (hF : ∀ x, F x τ → G x τ) : JgR τ r' G := by sorry
def FrJ (σ σ1 : RS) (k : Int32) : Prop := gI σ1 69 = gI σ 69 - k ∧ (∀ j, j ≠ 69 → gI σ1 j = gI σ j) ∧ gL σ1 = gL σ ∧ aL σ1 = aL σ ∧ ∀ j, j ≠ 80 → j ≠ 82 → j ≠ 83 → aI σ1 j = aI σ j
theorem FrJ.rf {σ : RS} : FrJ σ σ 0 := by sorry
theorem FrJ.p {σ : RS} {k : Int32} : FrJ σ (sI σ 69 (gI σ 69 - k)) k := by sorry
theorem FrJ.a {σ σ1 : RS} {k : Int32} {j : Nat} {f : Nat → Int32} (h : FrJ σ σ1 k) (hj : j = 80 ∨ j = 82 ∨ j = 83) : FrJ σ (sA σ1 j f) k := by sorry
/-- how many it takes -/
def opnZ (x : XrZ) : Int32 := if x.1.1 = 3 ∨ x.1.1 = 4 ∨ x.1.1 = 5 ∨ x.1.1 = 9 then 1 else if x.1.1 = 7 then 2 else if x.1.1 = 8 then 3 else if x.1.1 = 10 then Int32.ofInt x.2.2.2.length else 0
/-- what is noted beside: work, what, meaning -/
def BaR (σ σ1 : RS) (c t : Nat) (x : XrZ) (e : TvT) : Prop :=
  FrJ σ σ1 (opnZ x) ∧ ((∀ q, q ≠ c → aI σ1 82 q = aI σ 82 q) ∧ (∀ q, q ≠ c → aI σ1 83 q = aI σ 83 q) ∧ ∀ q, q ≠ t → aI σ1 80 q = aI σ 80 q) ∧
  ((x.1.1 = 4 ∨ x.1.1 = 8 → (aI σ1 82 c).toInt = e.1) ∧ ((x.1.1 = 7 ∧ 22 ≤ x.1.2.1) ∨ (x.1.1 = 9 ∧ ¬ x.1.2.1 = 8) → (aI σ1 82 c).toInt = e.2.2.2)) ∧
  ((x.1.1 = 2 ∨ x.1.1 = 6 ∨ x.1.1 = 9 → (aI σ1 83 c).toInt = x.2.1.2.1 ∧ (aI σ1 80 t).toInt = x.2.1.2.1) ∧ (x.1.1 = 10 → (aI σ1 83 c).toInt = e.2.2.2 ∧ (aI σ1 80 t).toInt = 100 + e.2.2.2)) ∧
  (¬ (x.1.1 = 2 ∨ x.1.1 = 6 ∨ x.1.1 = 9 ∨ x.1.1 = 10) → aI σ1 80 = aI σ 80)
/-- where none is told -/
def GoR (σ : RS) (c t : Int32) (x : XrZ) (e : TvT) (τ : RS) : Prop := (11 ≤ x.1.1 → τ = σ) ∧ (x.1.1 ≤ 10 → ∃ (σ1 : RS) (ty su : Int32) (v : Int64), ShT ty su v e ∧ τ = lieS σ1 c ty su v ∧ BaR σ σ1 c.toNatClampNeg t.toNatClampNeg x e)
theorem opk_c {x : XrZ} (h0 : 0 ≤ x.1.1) (h1 : x.1.1 ≤ 14) : (x.1.1 ≤ 1 ∧ opkZ x = 1) ∨ (x.1.1 = 2 ∧ opkZ x = 2) ∨ (x.1.1 = 3 ∧ opkZ x = 15) ∨ (x.1.1 = 4 ∧ opkZ x = 5) ∨ (x.1.1 = 5 ∧ opkZ x = 6) ∨ (x.1.1 = 6 ∧ (opkZ x = 3 ∨ opkZ x = 4)) ∨ (x.1.1 = 7 ∧ ((x.1.2.1 = 21 ∧ opkZ x = 9) ∨ (x.1.2.1 = 20 ∧ opkZ x = 11) ∨ (¬ x.1.2.1 = 21 ∧ ¬ x.1.2.1 = 20 ∧ opkZ x = 7))) ∨ (x.1.1 = 8 ∧ opkZ x = 14) ∨ (x.1.1 = 9 ∧ opkZ x = 17) ∨ (x.1.1 = 10 ∧ opkZ x = 18) ∨ (x.1.1 = 11 ∧ (opkZ x = 8 ∨ opkZ x = 10)) ∨ (x.1.1 = 12 ∧ opkZ x = 12) ∨ (x.1.1 = 13 ∧ opkZ x = 13) ∨ (x.1.1 = 14 ∧ opkZ x = 16) := by sorry
theorem opn_1 {x : XrZ} (h : x.1.1 = 3 ∨ x.1.1 = 4 ∨ x.1.1 = 5 ∨ x.1.1 = 9) : opnZ x = 1 := if_pos h
theorem opn_7 {x : XrZ} (h : x.1.1 = 7) : opnZ x = 2 := by sorry
theorem opn_8 {x : XrZ} (h : x.1.1 = 8) : opnZ x = 3 := by sorry
theorem opn_10 {x : XrZ} (h : x.1.1 = 10) : opnZ x = Int32.ofInt x.2.2.2.length := by sorry
theorem opn_0 {x : XrZ} (h : x.1.1 ≤ 2 ∨ x.1.1 = 6) : opnZ x = 0 := by sorry
theorem BaR.lit {σ : RS} {c t : Nat} {x : XrZ} {e : TvT} (h : x.1.1 ≤ 1) : BaR σ σ c t x e := by sorry
theorem BaR.var {σ : RS} {c t : Nat} {l : Int32} {x : XrZ} {e : TvT} (h : x.1.1 = 2 ∨ x.1.1 = 6) (hl : l.toInt = x.2.1.2.1) : BaR σ (sA (sA σ 83 (upd (aI σ 83) c l)) 80 (upd (aI σ 80) t l)) c t x e := by sorry
theorem BaR.one {σ : RS} {c t : Nat} {x : XrZ} {e : TvT} (h : x.1.1 = 3 ∨ x.1.1 = 5) : BaR σ (sI σ 69 (gI σ 69 - 1)) c t x e := by sorry
theorem BaR.un {σ : RS} {c t : Nat} {ty : Int32} {x : XrZ} {e : TvT} (h : x.1.1 = 4) (hl : ty.toInt = e.1) : BaR σ (sA (sI σ 69 (gI σ 69 - 1)) 82 (upd (aI σ 82) c ty)) c t x e := by sorry
theorem BaR.bi {σ : RS} {c t : Nat} {ty : Int32} {x : XrZ} {e : TvT} (h : x.1.1 = 7) (hl : ty.toInt = e.2.2.2) : BaR σ (sA (sI σ 69 (gI σ 69 - 2)) 82 (upd (aI σ 82) c ty)) c t x e := by sorry
theorem BaR.an {σ : RS} {c t : Nat} {x : XrZ} {e : TvT} (h : x.1.1 = 7) (hs : x.1.2.1 < 22) : BaR σ (sI σ 69 (gI σ 69 - 2)) c t x e := by sorry
theorem BaR.ch {σ : RS} {c t : Nat} {ty : Int32} {x : XrZ} {e : TvT} (h : x.1.1 = 8) (hl : ty.toInt = e.1) : BaR σ (sA (sI σ 69 (gI σ 69 - 3)) 82 (upd (aI σ 82) c ty)) c t x e := by sorry
theorem BaR.as0 {σ : RS} {c t : Nat} {l : Int32} {x : XrZ} {e : TvT} (h : x.1.1 = 9) (h8 : x.1.2.1 = 8) (hl : l.toInt = x.2.1.2.1) : BaR σ (sA (sA (sI σ 69 (gI σ 69 - 1)) 83 (upd (aI σ 83) c l)) 80 (upd (aI σ 80) t l)) c t x e := by sorry
theorem BaR.as1 {σ : RS} {c t : Nat} {l wk : Int32} {x : XrZ} {e : TvT} (h : x.1.1 = 9) (hw : wk.toInt = e.2.2.2) (hl : l.toInt = x.2.1.2.1) : BaR σ (sA (sA (sA (sI σ 69 (gI σ 69 - 1)) 83 (upd (aI σ 83) c l)) 80 (upd (aI σ 80) t l)) 82 (upd (aI σ 82) c wk)) c t x e := by sorry
theorem BaR.cal {σ : RS} {c t : Nat} {l : Int32} {x : XrZ} {e : TvT} (h : x.1.1 = 10) (hn : aI σ 20 c = Int32.ofInt x.2.2.2.length) (hl : l.toInt = e.2.2.2) (hr : 0 ≤ e.2.2.2 ∧ e.2.2.2 < 12) : BaR σ (sA (sA (sA (sI σ 69 (gI σ 69 - aI σ 20 c)) 83 (upd (aI σ 83) c (-2))) 83 (upd (upd (aI σ 83) c (-2)) c l)) 80 (upd (aI σ 80) t (100 + l))) c t x e := by sorry
def Qw_literalJ : UQ1 := fun A1 σ w τ => Qw_literalA A1 σ w τ ∧ Qw_literalB A1 σ w τ
theorem w_literalJ : UMet 89 (fun _ _ => True) Qw_literalJ := by sorry
def Qw_stepJ : UQ1 := fun A1 σ w τ => Qw_stepA A1 σ w τ ∧ Qw_stepB A1 σ w τ
theorem w_stepJ : UMet 90 (fun _ _ => True) Qw_stepJ := by sorry
def Qw_unaryJ : UQ1 := fun A1 σ w τ => Qw_unaryA A1 σ w τ ∧ Qw_unaryB A1 σ w τ
theorem w_unaryJ : UMet 91 (fun _ _ => True) Qw_unaryJ := by sorry
def Qw_castsJ : UQ1 := fun A1 σ w τ => Qw_castsA A1 σ w τ ∧ Qw_castsB A1 σ w τ
theorem w_castsJ : UMet 92 (fun _ _ => True) Qw_castsJ := by sorry
def Qw_binaryJ : UQ1 := fun A1 σ w τ => Qw_binaryA A1 σ w τ ∧ Qw_binaryB A1 σ w τ
theorem w_binaryJ : UMet 95 (fun _ _ => True) Qw_binaryJ := by sorry
def Qw_choiceJ : UQ1 := fun A1 σ w τ => Qw_choiceA A1 σ w τ ∧ Qw_choiceB A1 σ w τ
theorem w_choiceJ : UMet 98 (fun _ _ => True) Qw_choiceJ := by sorry
def Qw_assignJ : UQ1 := fun A1 σ w τ => Qw_assignA A1 σ w τ ∧ Qw_assignB A1 σ w τ
theorem w_assignJ : UMet 100 (fun _ _ => True) Qw_assignJ := by sorry
def Qw_callJ : UQ1 := fun A1 σ w τ => Qw_callA A1 σ w τ ∧ Qw_callB A1 σ w τ
theorem w_callJ : UMet 104 (fun _ _ => True) Qw_callJ := by sorry
def Pv_judgeExpA : UP1 := fun A1 σ => match A1 with
  | [.int c] => ¬ gI σ 66 = 0
  | _ => False
def Qv_judgeExpA : UQ1 := fun A1 σ w τ => match A1 with
  | [.int c] => w = none ∧ ¬ gI τ 66 = 0
  | _ => False
def Qw_judgeExpA : UQ1 := fun A1 σ w τ => Pv_judgeExpA A1 σ → Qv_judgeExpA A1 σ w τ
set_option maxRecDepth 100000 in
set_option maxHeartbeats 4000000 in
theorem v_judgeExpA : UMet 88 (Pv_judgeExpA) (Qv_judgeExpA) := by sorry
theorem w_judgeExpA : UMet 88 (fun _ _ => True) Qw_judgeExpA := fun A1 σ _ w τ h hP => v_judgeExpA A1 σ hP w τ h
/-! the reference judges one exp, where none is told -/
theorem an_v {a b : Int64} (ha : a = 0 ∨ a = 1) (hb : b = 0 ∨ b = 1) : a &&& b = if ¬ a = 0 ∧ ¬ b = 0 then 1 else 0 := by sorry
theorem or_v {a b : Int64} (ha : a = 0 ∨ a = 1) (hb : b = 0 ∨ b = 1) : a ||| b = if ¬ a = 0 ∨ ¬ b = 0 then 1 else 0 := by sorry
theorem JgR.k {τ : RS} {r : Option TvT} {F : TvT → RS → Prop} (h : JgR τ r F) : JgR τ r (fun e τ => r = some e ∧ F e τ) := by sorry
/-- what it asks of the state -/
def XpR (σ : RS) (c : Int32) (C : CxT) (T : TbT) (i : Nat) (x : XrZ) : Prop :=
  ccZ σ c.toNatClampNeg x ∧ (0 ≤ x.1.1 ∧ x.1.1 ≤ 14) ∧ (x.1.1 ≤ 1 → (((aI σ 3 (aI σ 22 c.toNatClampNeg).toNatClampNeg = 2 ∧ (aI σ 11 (aI σ 22 c.toNatClampNeg).toNatClampNeg = 2 ∨ (aI σ 11 (aI σ 22 c.toNatClampNeg).toNatClampNeg = 1 ∧ aI σ 21 c.toNatClampNeg = 0))) ↔ exT C T i x = none) ∧ ∀ e, exT C T i x = some e → (aI σ 20 c.toNatClampNeg).toInt = e.1 ∧ ¬ e.2.1 = 0 ∧ e.2.2.1 = (if aI σ 3 (aI σ 22 c.toNatClampNeg).toNatClampNeg = 4 then (if aI σ 6 (aI σ 22 c.toNatClampNeg).toNatClampNeg = 22 then 1 else 0) else if aI σ 20 c.toNatClampNeg = 3 then (aL σ 9 (aI σ 22 c.toNatClampNeg).toNatClampNeg).toInt32.toInt64 else aL σ 9 (aI σ 22 c.toNatClampNeg).toNatClampNeg))) ∧
  ((x.1.1 = 2 ∨ x.1.1 = 6 ∨ x.1.1 = 9) → 0 ≤ (gI σ 42).toInt ∧ (∀ r, FdR σ (aI σ 22 c.toNatClampNeg) r → r = x.2.1.2.1 ∨ (r < 0 ∧ x.2.1.2.1 < 0)) ∧ (0 ≤ x.2.1.2.1 → knT C x.2.1.2.1) ∧ (knT C x.2.1.2.1 → (aI σ 44 x.2.1.2.1.toNat).toInt = (vtT C x.2.1.2.1).1 ∧ (¬ aI σ 45 x.2.1.2.1.toNat = 0 ↔ ¬ (vtT C x.2.1.2.1).2 = 0) ∧ 0 ≤ (vtT C x.2.1.2.1).1 ∧ (vtT C x.2.1.2.1).1 ≤ 4)) ∧
  (x.1.1 = 2 → knT C x.2.1.2.1 → (¬ aI σ 86 x.2.1.2.1.toNat = 0 ↔ ¬ (T.2 x.2.1.2.1.toNat).1 = 0) ∧ (¬ (T.2 x.2.1.2.1.toNat).1 = 0 → aL σ 87 x.2.1.2.1.toNat = (T.2 x.2.1.2.1.toNat).2 ∧ ¬ (vtT C x.2.1.2.1).2 = 0)) ∧
  ((x.1.1 = 2 ∨ x.1.1 = 6 ∨ x.1.1 = 9 ∨ x.1.1 = 10) → (T.1 i).2.1 = 0) ∧
  (x.1.1 = 3 ∨ x.1.1 = 4 ∨ x.1.1 = 5 → TeR σ (gI σ 69 - 1).toNatClampNeg (opT T x.2.2.1.2.1)) ∧
  (x.1.1 = 9 → TeR σ (gI σ 69 - 1).toNatClampNeg (opT T x.2.2.1.2.2.1)) ∧
  (x.1.1 = 7 → TeR σ (gI σ 69 - 2).toNatClampNeg (opT T x.2.2.1.2.1) ∧ TeR σ (gI σ 69 - 2 + 1).toNatClampNeg (opT T x.2.2.1.2.2.1)) ∧
  (x.1.1 = 8 → TeR σ (gI σ 69 - 3).toNatClampNeg (opT T x.2.2.1.2.1) ∧ TeR σ (gI σ 69 - 3 + 1).toNatClampNeg (opT T x.2.2.1.2.2.1) ∧ TeR σ (gI σ 69 - 3 + 2).toNatClampNeg (opT T x.2.2.1.2.2.2.1)) ∧
  (x.1.1 = 10 → AsR σ (gI σ 69 - aI σ 20 c.toNatClampNeg) (aI σ 20 c.toNatClampNeg) (agT T x.2.2.2) ∧ (∀ q ∈ (agT T x.2.2.2), 0 ≤ q ∧ q ≤ 5) ∧ MsR σ (aI σ 22 c.toNatClampNeg) (C.1 x.1.2.2.1) C.2.2.2 ∧ NdT C.2.2.2) ∧
  ((x.1.1 = 4 → x.1.2.1 = 34 ∨ x.1.2.1 = 35 ∨ x.1.2.1 = 39 ∨ x.1.2.1 = 40) ∧ (x.1.1 = 5 → 0 ≤ x.2.1.2.2 ∧ x.2.1.2.2 ≤ 4) ∧ (x.1.1 = 7 → 20 ≤ x.1.2.1 ∧ x.1.2.1 ≤ 38) ∧ (x.1.1 = 9 → x.1.2.1 = 8 ∨ (22 ≤ x.1.2.1 ∧ x.1.2.1 ≤ 38 ∧ (x.1.2.1 ≤ 24 ∨ 31 ≤ x.1.2.1))))
def Pv_judgeExpB (C : CxT) (T : TbT) (i : Nat) (x : XrZ) : UP1 := fun A1 σ => match A1 with
  | [.int c] => gI σ 66 = 0 ∧ XpR σ c C T i x
  | _ => False
def Qv_judgeExpB (C : CxT) (T : TbT) (i : Nat) (x : XrZ) : UQ1 := fun A1 σ w τ => match A1 with
  | [.int c] => w = none ∧ JgR τ (exT C T i x) (fun e τ => GoR σ c (aI σ 22 c.toNatClampNeg) x e τ)
  | _ => False
def Qw_judgeExpB : UQ1 := fun A1 σ w τ => ∀ (C : CxT) (T : TbT) (i : Nat) (x : XrZ), Pv_judgeExpB C T i x A1 σ → Qv_judgeExpB C T i x A1 σ w τ
set_option maxRecDepth 100000 in
set_option maxHeartbeats 4000000 in
theorem v_judgeExpB (C : CxT) (T : TbT) (i : Nat) (x : XrZ) : UMet 88 (Pv_judgeExpB C T i x) (Qv_judgeExpB C T i x) := by sorry
theorem w_judgeExpB : UMet 88 (fun _ _ => True) Qw_judgeExpB := by sorry
def Qw_judgeExpJ : UQ1 := fun A1 σ w τ => Qw_judgeExpA A1 σ w τ ∧ Qw_judgeExpB A1 σ w τ
theorem w_judgeExpJ : UMet 88 (fun _ _ => True) Qw_judgeExpJ := by sorry
/-! the reference judges S's: conditions, variables, cases, returns -/
/-- what a condition keeps -/
def keS (σ : RS) (c su : Int32) (v : Int64) : RS := sM (sA σ 84 (upd (aI σ 84) c.toNatClampNeg su)) 85 (vp_updL (aL σ 85) c.toNatClampNeg v)
def KsR (σ : RS) (s : Nat) (su : Int32) : Prop := ∀ e, TeR σ s e → (¬ su = 0 ↔ (e.1 = 0 ∧ ¬ e.2.1 = 0))
/-- a case of the same value ahead of c -/
def CeR (σ : RS) (c k : Int32) (v : Int64) (o : Nat) : Prop := aI σ 19 o = 38 ∧ aI σ 20 o = k ∧ ¬ aI σ 84 o = 0 ∧ aL σ 85 o = v
def Pv_keep : UP1 := fun A1 σ => match A1 with
  | [.int c] => True
  | _ => False
def Qv_keep : UQ1 := fun A1 σ w τ => match A1 with
  | [.int c] => w = none ∧ ∃ su : Int32, KsR σ (gI σ 69).toNatClampNeg su ∧ τ = keS σ c su (aL σ 72 (gI σ 69).toNatClampNeg)
  | _ => False
def Qw_keep : UQ1 := fun A1 σ w τ => Pv_keep A1 σ → Qv_keep A1 σ w τ
set_option maxRecDepth 100000 in
set_option maxHeartbeats 4000000 in
theorem v_keep : UMet 106 (Pv_keep) (Qv_keep) := by sorry
theorem w_keep : UMet 106 (fun _ _ => True) Qw_keep := fun A1 σ _ w τ h hP => v_keep A1 σ hP w τ h
def Pv_declaredA : UP1 := fun A1 σ => match A1 with
  | [.int c, .int v] => ¬ gI σ 66 = 0
  | _ => False
def Qv_declaredA : UQ1 := fun A1 σ w τ => match A1 with
  | [.int c, .int v] => w = none ∧ ¬ gI τ 66 = 0
  | _ => False
def Qw_declaredA : UQ1 := fun A1 σ w τ => Pv_declaredA A1 σ → Qv_declaredA A1 σ w τ
set_option maxRecDepth 100000 in
set_option maxHeartbeats 4000000 in
theorem v_declaredA : UMet 107 (Pv_declaredA) (Qv_declaredA) := by sorry
theorem w_declaredA : UMet 107 (fun _ _ => True) Qw_declaredA := fun A1 σ _ w τ h hP => v_declaredA A1 σ hP w τ h
def Pv_casedA : UP1 := fun A1 σ => match A1 with
  | [.int c, .int k] => ¬ gI σ 66 = 0
  | _ => False
def Qv_casedA : UQ1 := fun A1 σ w τ => match A1 with
  | [.int c, .int k] => w = none ∧ ¬ gI τ 66 = 0
  | _ => False
def Qw_casedA : UQ1 := fun A1 σ w τ => Pv_casedA A1 σ → Qv_casedA A1 σ w τ
set_option maxRecDepth 100000 in
set_option maxHeartbeats 4000000 in
theorem v_casedA : UMet 108 (Pv_casedA) (Qv_casedA) := by sorry
theorem w_casedA : UMet 108 (fun _ _ => True) Qw_casedA := fun A1 σ _ w τ h hP => v_casedA A1 σ hP w τ h
def Pv_returnsA : UP1 := fun A1 σ => match A1 with
  | [.int c, .int t] => ¬ gI σ 66 = 0
  | _ => False
def Qv_returnsA : UQ1 := fun A1 σ w τ => match A1 with
  | [.int c, .int t] => w = none ∧ ¬ gI τ 66 = 0
  | _ => False
def Qw_returnsA : UQ1 := fun A1 σ w τ => Pv_returnsA A1 σ → Qv_returnsA A1 σ w τ
set_option maxRecDepth 100000 in
set_option maxHeartbeats 4000000 in
theorem v_returnsA : UMet 109 (Pv_returnsA) (Qv_returnsA) := by sorry
theorem w_returnsA : UMet 109 (fun _ _ => True) Qw_returnsA := fun A1 σ _ w τ h hP => v_returnsA A1 σ hP w τ h
def Pv_declaredB (e : TvT) (vt : Int × Int) : UP1 := fun A1 σ => match A1 with
  | [.int c, .int v] => gI σ 66 = 0 ∧ (¬ aI σ 21 c.toNatClampNeg = 0 → TeR σ (gI σ 69 - 1).toNatClampNeg e) ∧ (aI σ 44 v.toNatClampNeg).toInt = vt.1 ∧ (¬ aI σ 45 v.toNatClampNeg = 0 ↔ ¬ vt.2 = 0) ∧ (0 ≤ vt.1 ∧ vt.1 ≤ 4)
  | _ => False
def Qv_declaredB (e : TvT) (vt : Int × Int) : UQ1 := fun A1 σ w τ => match A1 with
  | [.int c, .int v] => w = none ∧ ((¬ ((¬ aI σ 21 c.toNatClampNeg = 0 → ftT e vt.1)) ∧ ¬ gI τ 66 = 0) ∨ (((¬ aI σ 21 c.toNatClampNeg = 0 → ftT e vt.1)) ∧ (aI σ 21 c.toNatClampNeg = 0 → τ = σ) ∧ (¬ aI σ 21 c.toNatClampNeg = 0 → ∃ su : Int32, (¬ su = 0 ↔ (¬ vt.2 = 0 ∧ ¬ e.2.1 = 0)) ∧ τ = sM (sA (sI σ 69 (gI σ 69 - 1)) 86 (upd (aI σ 86) v.toNatClampNeg su)) 87 (vp_updL (aL σ 87) v.toNatClampNeg (caT vt.1 (aL σ 72 (gI σ 69 - 1).toNatClampNeg))))))
  | _ => False
def Qw_declaredB : UQ1 := fun A1 σ w τ => ∀ (e : TvT) (vt : Int × Int), Pv_declaredB e vt A1 σ → Qv_declaredB e vt A1 σ w τ
set_option maxRecDepth 100000 in
set_option maxHeartbeats 4000000 in
theorem v_declaredB (e : TvT) (vt : Int × Int) : UMet 107 (Pv_declaredB e vt) (Qv_declaredB e vt) := by sorry
theorem w_declaredB : UMet 107 (fun _ _ => True) Qw_declaredB := fun A1 σ _ w τ h e vt hP => v_declaredB e vt A1 σ hP w τ h
def Pv_returnsB (e : TvT) (rt : Int) : UP1 := fun A1 σ => match A1 with
  | [.int c, .int t] => gI σ 66 = 0 ∧ (¬ aI σ 20 c.toNatClampNeg = 0 → TeR σ (gI σ 69 - 1).toNatClampNeg e) ∧ (if gI σ 89 = 10 then (5 : Int32) else if gI σ 89 = 11 then 3 else aI σ 38 (gI σ 89).toNatClampNeg).toInt = rt
  | _ => False
def Qv_returnsB (e : TvT) (rt : Int) : UQ1 := fun A1 σ w τ => match A1 with
  | [.int c, .int t] => w = none ∧ ((¬ ((aI σ 20 c.toNatClampNeg = 0 → rt = 5) ∧ (¬ aI σ 20 c.toNatClampNeg = 0 → ¬ rt = 5 ∧ ftT e rt)) ∧ ¬ gI τ 66 = 0) ∨ (((aI σ 20 c.toNatClampNeg = 0 → rt = 5) ∧ (¬ aI σ 20 c.toNatClampNeg = 0 → ¬ rt = 5 ∧ ftT e rt)) ∧ (aI σ 20 c.toNatClampNeg = 0 → τ = σ) ∧ (¬ aI σ 20 c.toNatClampNeg = 0 → τ = sI σ 69 (gI σ 69 - 1))))
  | _ => False
def Qw_returnsB : UQ1 := fun A1 σ w τ => ∀ (e : TvT) (rt : Int), Pv_returnsB e rt A1 σ → Qv_returnsB e rt A1 σ w τ
set_option maxRecDepth 100000 in
set_option maxHeartbeats 4000000 in
theorem v_returnsB (e : TvT) (rt : Int) : UMet 109 (Pv_returnsB e rt) (Qv_returnsB e rt) := by sorry
theorem w_returnsB : UMet 109 (fun _ _ => True) Qw_returnsB := fun A1 σ _ w τ h e rt hP => v_returnsB e rt A1 σ hP w τ h
def Pv_casedB (e : TvT) (kt : Int) : UP1 := fun A1 σ => match A1 with
  | [.int c, .int k] => gI σ 66 = 0 ∧ TeR σ (gI σ 69 - 1).toNatClampNeg e ∧ (aI σ 88 k.toNatClampNeg).toInt = kt ∧ (1 ≤ kt ∧ kt ≤ 3) ∧ (aI σ 51 k.toNatClampNeg).toInt ≤ c.toInt ∧ 0 ≤ (aI σ 51 k.toNatClampNeg).toInt
  | _ => False
def Qv_casedB (e : TvT) (kt : Int) : UQ1 := fun A1 σ w τ => match A1 with
  | [.int c, .int k] => w = none ∧ ((¬ ((¬ e.2.1 = 0 ∧ ftT e kt) ∧ ∀ o : Nat, (aI σ 51 k.toNatClampNeg).toInt ≤ (o : Int) → (o : Int) < c.toInt → ¬ CeR σ c k (aL σ 72 (gI σ 69 - 1).toNatClampNeg) o) ∧ ¬ gI τ 66 = 0) ∨ (((¬ e.2.1 = 0 ∧ ftT e kt) ∧ ∀ o : Nat, (aI σ 51 k.toNatClampNeg).toInt ≤ (o : Int) → (o : Int) < c.toInt → ¬ CeR σ c k (aL σ 72 (gI σ 69 - 1).toNatClampNeg) o) ∧ τ = sA (sM (sA (sI σ 69 (gI σ 69 - 1)) 84 (upd (aI σ 84) c.toNatClampNeg 0)) 85 (vp_updL (aL σ 85) c.toNatClampNeg (aL σ 72 (gI σ 69 - 1).toNatClampNeg))) 84 (upd (upd (aI σ 84) c.toNatClampNeg 0) c.toNatClampNeg 1)))
  | _ => False
def Qw_casedB : UQ1 := fun A1 σ w τ => ∀ (e : TvT) (kt : Int), Pv_casedB e kt A1 σ → Qv_casedB e kt A1 σ w τ
set_option maxRecDepth 100000 in
set_option maxHeartbeats 4000000 in
theorem v_casedB (e : TvT) (kt : Int) : UMet 108 (Pv_casedB e kt) (Qv_casedB e kt) := by sorry
theorem w_casedB : UMet 108 (fun _ _ => True) Qw_casedB := fun A1 σ _ w τ h e kt hP => v_casedB e kt A1 σ hP w τ h
def Qw_declaredJ : UQ1 := fun A1 σ w τ => Qw_declaredA A1 σ w τ ∧ Qw_declaredB A1 σ w τ
theorem w_declaredJ : UMet 107 (fun _ _ => True) Qw_declaredJ := by sorry
def Qw_casedJ : UQ1 := fun A1 σ w τ => Qw_casedA A1 σ w τ ∧ Qw_casedB A1 σ w τ
theorem w_casedJ : UMet 108 (fun _ _ => True) Qw_casedJ := by sorry
def Qw_returnsJ : UQ1 := fun A1 σ w τ => Qw_returnsA A1 σ w τ ∧ Qw_returnsB A1 σ w τ
theorem w_returnsJ : UMet 109 (fun _ _ => True) Qw_returnsJ := by sorry
/-! the reference judges one code of an S -/
def So_21 (σ : RS) (c : Int32) (e : TvT) (vt : Int × Int) (rt kt : Int) : Prop := ¬ (aI σ 20 c.toNatClampNeg) = 0
def Sf_21 (σ : RS) (c : Int32) (e : TvT) (vt : Int × Int) (rt kt : Int) (τ : RS) : Prop := τ = sA (sI σ 69 (gI σ 69 - 1)) 82 (upd (aI σ 82) c.toNatClampNeg (aI σ 70 (gI σ 69 - 1).toNatClampNeg))
def So_22a (σ : RS) (c : Int32) (e : TvT) (vt : Int × Int) (rt kt : Int) : Prop := True
def Sf_22a (σ : RS) (c : Int32) (e : TvT) (vt : Int × Int) (rt kt : Int) (τ : RS) : Prop := τ = σ
def So_22b (σ : RS) (c : Int32) (e : TvT) (vt : Int × Int) (rt kt : Int) : Prop := (¬ (aI σ 21 c.toNatClampNeg) = 0 → ftT e vt.1)
def Sf_22b (σ : RS) (c : Int32) (e : TvT) (vt : Int × Int) (rt kt : Int) (τ : RS) : Prop := (aI σ 21 c.toNatClampNeg = 0 → τ = σ) ∧ (¬ aI σ 21 c.toNatClampNeg = 0 → ∃ su : Int32, (¬ su = 0 ↔ (¬ vt.2 = 0 ∧ ¬ e.2.1 = 0)) ∧ τ = sM (sA (sI σ 69 (gI σ 69 - 1)) 86 (upd (aI σ 86) (aI σ 20 c.toNatClampNeg).toNatClampNeg su)) 87 (vp_updL (aL σ 87) (aI σ 20 c.toNatClampNeg).toNatClampNeg (caT vt.1 (aL σ 72 (gI σ 69 - 1).toNatClampNeg))))
def So_23 (σ : RS) (c : Int32) (e : TvT) (vt : Int × Int) (rt kt : Int) : Prop := e.1 = 0
def Sf_23 (σ : RS) (c : Int32) (e : TvT) (vt : Int × Int) (rt kt : Int) (τ : RS) : Prop := ∃ su : Int32, (¬ su = 0 ↔ (e.1 = 0 ∧ ¬ e.2.1 = 0)) ∧ τ = keS (sI σ 69 (gI σ 69 - 1)) c su (aL σ 72 (gI σ 69 - 1).toNatClampNeg)
def So_33a (σ : RS) (c : Int32) (e : TvT) (vt : Int × Int) (rt kt : Int) : Prop := True
def Sf_33a (σ : RS) (c : Int32) (e : TvT) (vt : Int × Int) (rt kt : Int) (τ : RS) : Prop := τ = (sM (sA σ 84 (upd (aI σ 84) c.toNatClampNeg 1)) 85 (vp_updL (aL σ 85) c.toNatClampNeg 1))
def So_33b (σ : RS) (c : Int32) (e : TvT) (vt : Int × Int) (rt kt : Int) : Prop := e.1 = 0
def Sf_33b (σ : RS) (c : Int32) (e : TvT) (vt : Int × Int) (rt kt : Int) (τ : RS) : Prop := ∃ su : Int32, (¬ su = 0 ↔ (e.1 = 0 ∧ ¬ e.2.1 = 0)) ∧ τ = keS (sI (sM (sA σ 84 (upd (aI σ 84) c.toNatClampNeg 1)) 85 (vp_updL (aL σ 85) c.toNatClampNeg 1)) 69 (gI σ 69 - 1)) c su (aL σ 72 (gI σ 69 - 1).toNatClampNeg)
def So_37 (σ : RS) (c : Int32) (e : TvT) (vt : Int × Int) (rt kt : Int) : Prop := 1 ≤ e.1 ∧ e.1 ≤ 3
def Sf_37 (σ : RS) (c : Int32) (e : TvT) (vt : Int × Int) (rt kt : Int) (τ : RS) : Prop := τ = sA (sI σ 69 (gI σ 69 - 1)) 88 (upd (aI σ 88) (aI σ 20 c.toNatClampNeg).toNatClampNeg (aI σ 70 (gI σ 69 - 1).toNatClampNeg))
def So_38 (σ : RS) (c : Int32) (e : TvT) (vt : Int × Int) (rt kt : Int) : Prop := (¬ e.2.1 = 0 ∧ ftT e kt) ∧ ∀ o : Nat, (aI σ 51 (aI σ 20 c.toNatClampNeg).toNatClampNeg).toInt ≤ (o : Int) → (o : Int) < c.toInt → ¬ CeR σ c (aI σ 20 c.toNatClampNeg) (aL σ 72 (gI σ 69 - 1).toNatClampNeg) o
def Sf_38 (σ : RS) (c : Int32) (e : TvT) (vt : Int × Int) (rt kt : Int) (τ : RS) : Prop := τ = sA (sM (sA (sI σ 69 (gI σ 69 - 1)) 84 (upd (aI σ 84) c.toNatClampNeg 0)) 85 (vp_updL (aL σ 85) c.toNatClampNeg (aL σ 72 (gI σ 69 - 1).toNatClampNeg))) 84 (upd (upd (aI σ 84) c.toNatClampNeg 0) c.toNatClampNeg 1)
def So_39 (σ : RS) (c : Int32) (e : TvT) (vt : Int × Int) (rt kt : Int) : Prop := aI σ 59 (aI σ 20 c.toNatClampNeg).toNatClampNeg < 0
def Sf_39 (σ : RS) (c : Int32) (e : TvT) (vt : Int × Int) (rt kt : Int) (τ : RS) : Prop := τ = sA σ 59 (upd (aI σ 59) (aI σ 20 c.toNatClampNeg).toNatClampNeg c)
def So_41 (σ : RS) (c : Int32) (e : TvT) (vt : Int × Int) (rt kt : Int) : Prop := ∀ i : Int32, 0 ≤ i.toInt → i.toInt < (gI σ 91).toInt → ¬ sameR σ (aI σ 60 (aI σ 90 i.toNatClampNeg).toNatClampNeg).toNatClampNeg (aI σ 22 c.toNatClampNeg).toNatClampNeg
def Sf_41 (σ : RS) (c : Int32) (e : TvT) (vt : Int × Int) (rt kt : Int) (τ : RS) : Prop := τ = sI (sA (sA σ 80 (upd (aI σ 80) (aI σ 22 c.toNatClampNeg).toNatClampNeg 200)) 90 (upd (aI σ 90) (gI σ 91).toNatClampNeg (aI σ 20 c.toNatClampNeg))) 91 (gI σ 91 + 1)
def So_42 (σ : RS) (c : Int32) (e : TvT) (vt : Int × Int) (rt kt : Int) : Prop := True
def Sf_42 (σ : RS) (c : Int32) (e : TvT) (vt : Int × Int) (rt kt : Int) (τ : RS) : Prop := τ = sI σ 91 (gI σ 91 - 1)
def So_46 (σ : RS) (c : Int32) (e : TvT) (vt : Int × Int) (rt kt : Int) : Prop := 0 ≤ (aI σ 20 c.toNatClampNeg)
def Sf_46 (σ : RS) (c : Int32) (e : TvT) (vt : Int × Int) (rt kt : Int) (τ : RS) : Prop := (aI σ 3 (aI σ 22 c.toNatClampNeg).toNatClampNeg = 1 → τ = sA σ 80 (upd (aI σ 80) (aI σ 22 c.toNatClampNeg).toNatClampNeg 200)) ∧ (¬ aI σ 3 (aI σ 22 c.toNatClampNeg).toNatClampNeg = 1 → τ = σ)
def So_48 (σ : RS) (c : Int32) (e : TvT) (vt : Int × Int) (rt kt : Int) : Prop := (aI σ 20 c.toNatClampNeg = 0 → rt = 5) ∧ (¬ aI σ 20 c.toNatClampNeg = 0 → ¬ rt = 5 ∧ ftT e rt)
def Sf_48 (σ : RS) (c : Int32) (e : TvT) (vt : Int × Int) (rt kt : Int) (τ : RS) : Prop := (aI σ 20 c.toNatClampNeg = 0 → τ = σ) ∧ (¬ aI σ 20 c.toNatClampNeg = 0 → τ = sI σ 69 (gI σ 69 - 1))
def So_49 (σ : RS) (c : Int32) (e : TvT) (vt : Int × Int) (rt kt : Int) : Prop := ftT e 3
def Sf_49 (σ : RS) (c : Int32) (e : TvT) (vt : Int × Int) (rt kt : Int) (τ : RS) : Prop := τ = (sI σ 69 (gI σ 69 - 1))
def So_54 (σ : RS) (c : Int32) (e : TvT) (vt : Int × Int) (rt kt : Int) : Prop := True
def Sf_54 (σ : RS) (c : Int32) (e : TvT) (vt : Int × Int) (rt kt : Int) (τ : RS) : Prop := τ = sI σ 89 (gI σ 89 + 1)
def So_0 (σ : RS) (c : Int32) (e : TvT) (vt : Int × Int) (rt kt : Int) : Prop := True
def Sf_0 (σ : RS) (c : Int32) (e : TvT) (vt : Int × Int) (rt kt : Int) (τ : RS) : Prop := τ = σ
/-- what is asked and what comes, by the code -/
def StR (σ : RS) (c : Int32) (e : TvT) (vt : Int × Int) (rt kt : Int) (ok : Prop) (F : RS → Prop) : Prop := (((aI σ 19 c.toNatClampNeg).toInt = 21) ∧ ok = So_21 σ c e vt rt kt ∧ F = Sf_21 σ c e vt rt kt) ∨ (((aI σ 19 c.toNatClampNeg).toInt = 22 ∧ (aI σ 21 c.toNatClampNeg) = 2) ∧ ok = So_22a σ c e vt rt kt ∧ F = Sf_22a σ c e vt rt kt) ∨ (((aI σ 19 c.toNatClampNeg).toInt = 22 ∧ ¬ (aI σ 21 c.toNatClampNeg) = 2) ∧ ok = So_22b σ c e vt rt kt ∧ F = Sf_22b σ c e vt rt kt) ∨ ((((aI σ 19 c.toNatClampNeg).toInt = 23 ∨ (aI σ 19 c.toNatClampNeg).toInt = 27 ∨ (aI σ 19 c.toNatClampNeg).toInt = 31)) ∧ ok = So_23 σ c e vt rt kt ∧ F = Sf_23 σ c e vt rt kt) ∨ (((aI σ 19 c.toNatClampNeg).toInt = 33 ∧ (aI σ 21 c.toNatClampNeg) = 0) ∧ ok = So_33a σ c e vt rt kt ∧ F = Sf_33a σ c e vt rt kt) ∨ (((aI σ 19 c.toNatClampNeg).toInt = 33 ∧ ¬ (aI σ 21 c.toNatClampNeg) = 0) ∧ ok = So_33b σ c e vt rt kt ∧ F = Sf_33b σ c e vt rt kt) ∨ (((aI σ 19 c.toNatClampNeg).toInt = 37) ∧ ok = So_37 σ c e vt rt kt ∧ F = Sf_37 σ c e vt rt kt) ∨ (((aI σ 19 c.toNatClampNeg).toInt = 38) ∧ ok = So_38 σ c e vt rt kt ∧ F = Sf_38 σ c e vt rt kt) ∨ (((aI σ 19 c.toNatClampNeg).toInt = 39) ∧ ok = So_39 σ c e vt rt kt ∧ F = Sf_39 σ c e vt rt kt) ∨ (((aI σ 19 c.toNatClampNeg).toInt = 41) ∧ ok = So_41 σ c e vt rt kt ∧ F = Sf_41 σ c e vt rt kt) ∨ (((aI σ 19 c.toNatClampNeg).toInt = 42) ∧ ok = So_42 σ c e vt rt kt ∧ F = Sf_42 σ c e vt rt kt) ∨ ((((aI σ 19 c.toNatClampNeg).toInt = 46 ∨ (aI σ 19 c.toNatClampNeg).toInt = 47)) ∧ ok = So_46 σ c e vt rt kt ∧ F = Sf_46 σ c e vt rt kt) ∨ (((aI σ 19 c.toNatClampNeg).toInt = 48) ∧ ok = So_48 σ c e vt rt kt ∧ F = Sf_48 σ c e vt rt kt) ∨ (((aI σ 19 c.toNatClampNeg).toInt = 49) ∧ ok = So_49 σ c e vt rt kt ∧ F = Sf_49 σ c e vt rt kt) ∨ (((aI σ 19 c.toNatClampNeg).toInt = 54) ∧ ok = So_54 σ c e vt rt kt ∧ F = Sf_54 σ c e vt rt kt) ∨ ((¬ ((aI σ 19 c.toNatClampNeg).toInt = 21 ∨ (aI σ 19 c.toNatClampNeg).toInt = 22 ∨ (aI σ 19 c.toNatClampNeg).toInt = 23 ∨ (aI σ 19 c.toNatClampNeg).toInt = 27 ∨ (aI σ 19 c.toNatClampNeg).toInt = 31 ∨ (aI σ 19 c.toNatClampNeg).toInt = 33 ∨ (37 ≤ (aI σ 19 c.toNatClampNeg).toInt ∧ (aI σ 19 c.toNatClampNeg).toInt ≤ 39) ∨ (aI σ 19 c.toNatClampNeg).toInt = 41 ∨ (aI σ 19 c.toNatClampNeg).toInt = 42 ∨ (46 ≤ (aI σ 19 c.toNatClampNeg).toInt ∧ (aI σ 19 c.toNatClampNeg).toInt ≤ 49) ∨ (aI σ 19 c.toNatClampNeg).toInt = 54)) ∧ ok = So_0 σ c e vt rt kt ∧ F = Sf_0 σ c e vt rt kt)
theorem sr_21 {σ : RS} {c : Int32} {e : TvT} {vt : Int × Int} {rt kt : Int} (h : (aI σ 19 c.toNatClampNeg).toInt = 21) : StR σ c e vt rt kt (So_21 σ c e vt rt kt) (Sf_21 σ c e vt rt kt) := Or.inl ⟨h, rfl, rfl⟩
theorem sr_22a {σ : RS} {c : Int32} {e : TvT} {vt : Int × Int} {rt kt : Int} (h : (aI σ 19 c.toNatClampNeg).toInt = 22 ∧ (aI σ 21 c.toNatClampNeg) = 2) : StR σ c e vt rt kt (So_22a σ c e vt rt kt) (Sf_22a σ c e vt rt kt) := Or.inr (Or.inl ⟨h, rfl, rfl⟩)
theorem sr_22b {σ : RS} {c : Int32} {e : TvT} {vt : Int × Int} {rt kt : Int} (h : (aI σ 19 c.toNatClampNeg).toInt = 22 ∧ ¬ (aI σ 21 c.toNatClampNeg) = 2) : StR σ c e vt rt kt (So_22b σ c e vt rt kt) (Sf_22b σ c e vt rt kt) := Or.inr (Or.inr (Or.inl ⟨h, rfl, rfl⟩))
theorem sr_23 {σ : RS} {c : Int32} {e : TvT} {vt : Int × Int} {rt kt : Int} (h : ((aI σ 19 c.toNatClampNeg).toInt = 23 ∨ (aI σ 19 c.toNatClampNeg).toInt = 27 ∨ (aI σ 19 c.toNatClampNeg).toInt = 31)) : StR σ c e vt rt kt (So_23 σ c e vt rt kt) (Sf_23 σ c e vt rt kt) := Or.inr (Or.inr (Or.inr (Or.inl ⟨h, rfl, rfl⟩)))
theorem sr_33a {σ : RS} {c : Int32} {e : TvT} {vt : Int × Int} {rt kt : Int} (h : (aI σ 19 c.toNatClampNeg).toInt = 33 ∧ (aI σ 21 c.toNatClampNeg) = 0) : StR σ c e vt rt kt (So_33a σ c e vt rt kt) (Sf_33a σ c e vt rt kt) := Or.inr (Or.inr (Or.inr (Or.inr (Or.inl ⟨h, rfl, rfl⟩))))
theorem sr_33b {σ : RS} {c : Int32} {e : TvT} {vt : Int × Int} {rt kt : Int} (h : (aI σ 19 c.toNatClampNeg).toInt = 33 ∧ ¬ (aI σ 21 c.toNatClampNeg) = 0) : StR σ c e vt rt kt (So_33b σ c e vt rt kt) (Sf_33b σ c e vt rt kt) := by sorry
theorem sr_37 {σ : RS} {c : Int32} {e : TvT} {vt : Int × Int} {rt kt : Int} (h : (aI σ 19 c.toNatClampNeg).toInt = 37) : StR σ c e vt rt kt (So_37 σ c e vt rt kt) (Sf_37 σ c e vt rt kt) := by sorry
theorem sr_38 {σ : RS} {c : Int32} {e : TvT} {vt : Int × Int} {rt kt : Int} (h : (aI σ 19 c.toNatClampNeg).toInt = 38) : StR σ c e vt rt kt (So_38 σ c e vt rt kt) (Sf_38 σ c e vt rt kt) := by sorry
theorem sr_39 {σ : RS} {c : Int32} {e : TvT} {vt : Int × Int} {rt kt : Int} (h : (aI σ 19 c.toNatClampNeg).toInt = 39) : StR σ c e vt rt kt (So_39 σ c e vt rt kt) (Sf_39 σ c e vt rt kt) := by sorry
theorem sr_41 {σ : RS} {c : Int32} {e : TvT} {vt : Int × Int} {rt kt : Int} (h : (aI σ 19 c.toNatClampNeg).toInt = 41) : StR σ c e vt rt kt (So_41 σ c e vt rt kt) (Sf_41 σ c e vt rt kt) := by sorry
theorem sr_42 {σ : RS} {c : Int32} {e : TvT} {vt : Int × Int} {rt kt : Int} (h : (aI σ 19 c.toNatClampNeg).toInt = 42) : StR σ c e vt rt kt (So_42 σ c e vt rt kt) (Sf_42 σ c e vt rt kt) := by sorry
theorem sr_46 {σ : RS} {c : Int32} {e : TvT} {vt : Int × Int} {rt kt : Int} (h : ((aI σ 19 c.toNatClampNeg).toInt = 46 ∨ (aI σ 19 c.toNatClampNeg).toInt = 47)) : StR σ c e vt rt kt (So_46 σ c e vt rt kt) (Sf_46 σ c e vt rt kt) := by sorry
theorem sr_48 {σ : RS} {c : Int32} {e : TvT} {vt : Int × Int} {rt kt : Int} (h : (aI σ 19 c.toNatClampNeg).toInt = 48) : StR σ c e vt rt kt (So_48 σ c e vt rt kt) (Sf_48 σ c e vt rt kt) := by sorry
theorem sr_49 {σ : RS} {c : Int32} {e : TvT} {vt : Int × Int} {rt kt : Int} (h : (aI σ 19 c.toNatClampNeg).toInt = 49) : StR σ c e vt rt kt (So_49 σ c e vt rt kt) (Sf_49 σ c e vt rt kt) := by sorry
theorem sr_54 {σ : RS} {c : Int32} {e : TvT} {vt : Int × Int} {rt kt : Int} (h : (aI σ 19 c.toNatClampNeg).toInt = 54) : StR σ c e vt rt kt (So_54 σ c e vt rt kt) (Sf_54 σ c e vt rt kt) := by sorry
theorem sr_0 {σ : RS} {c : Int32} {e : TvT} {vt : Int × Int} {rt kt : Int} (h : ¬ ((aI σ 19 c.toNatClampNeg).toInt = 21 ∨ (aI σ 19 c.toNatClampNeg).toInt = 22 ∨ (aI σ 19 c.toNatClampNeg).toInt = 23 ∨ (aI σ 19 c.toNatClampNeg).toInt = 27 ∨ (aI σ 19 c.toNatClampNeg).toInt = 31 ∨ (aI σ 19 c.toNatClampNeg).toInt = 33 ∨ (37 ≤ (aI σ 19 c.toNatClampNeg).toInt ∧ (aI σ 19 c.toNatClampNeg).toInt ≤ 39) ∨ (aI σ 19 c.toNatClampNeg).toInt = 41 ∨ (aI σ 19 c.toNatClampNeg).toInt = 42 ∨ (46 ≤ (aI σ 19 c.toNatClampNeg).toInt ∧ (aI σ 19 c.toNatClampNeg).toInt ≤ 49) ∨ (aI σ 19 c.toNatClampNeg).toInt = 54)) : StR σ c e vt rt kt (So_0 σ c e vt rt kt) (Sf_0 σ c e vt rt kt) := by sorry
def Pv_judgeStepA : UP1 := fun A1 σ => match A1 with
  | [.int c] => ¬ gI σ 66 = 0
  | _ => False
def Qv_judgeStepA : UQ1 := fun A1 σ w τ => match A1 with
  | [.int c] => w = none ∧ ¬ gI τ 66 = 0
  | _ => False
def Qw_judgeStepA : UQ1 := fun A1 σ w τ => Pv_judgeStepA A1 σ → Qv_judgeStepA A1 σ w τ
set_option maxRecDepth 100000 in
set_option maxHeartbeats 4000000 in
theorem v_judgeStepA : UMet 105 (Pv_judgeStepA) (Qv_judgeStepA) := by sorry
theorem w_judgeStepA : UMet 105 (fun _ _ => True) Qw_judgeStepA := fun A1 σ _ w τ h hP => v_judgeStepA A1 σ hP w τ h
def Pv_judgeStepB (e : TvT) (vt : Int × Int) (rt kt : Int) : UP1 := fun A1 σ => match A1 with
  | [.int c] => gI σ 66 = 0 ∧ (((aI σ 19 c.toNatClampNeg).toInt = 21 ∨ ((aI σ 19 c.toNatClampNeg).toInt = 22 ∧ ¬ (aI σ 21 c.toNatClampNeg) = 0 ∧ ¬ (aI σ 21 c.toNatClampNeg) = 2) ∨ (aI σ 19 c.toNatClampNeg).toInt = 23 ∨ (aI σ 19 c.toNatClampNeg).toInt = 27 ∨ (aI σ 19 c.toNatClampNeg).toInt = 31 ∨ ((aI σ 19 c.toNatClampNeg).toInt = 33 ∧ ¬ (aI σ 21 c.toNatClampNeg) = 0) ∨ (aI σ 19 c.toNatClampNeg).toInt = 37 ∨ (aI σ 19 c.toNatClampNeg).toInt = 38 ∨ ((aI σ 19 c.toNatClampNeg).toInt = 48 ∧ ¬ (aI σ 20 c.toNatClampNeg) = 0) ∨ (aI σ 19 c.toNatClampNeg).toInt = 49) → TeR σ (gI σ 69 - 1).toNatClampNeg e) ∧ ((aI σ 19 c.toNatClampNeg).toInt = 22 → ¬ (aI σ 21 c.toNatClampNeg) = 2 → (aI σ 44 (aI σ 20 c.toNatClampNeg).toNatClampNeg).toInt = vt.1 ∧ (¬ aI σ 45 (aI σ 20 c.toNatClampNeg).toNatClampNeg = 0 ↔ ¬ vt.2 = 0) ∧ (0 ≤ vt.1 ∧ vt.1 ≤ 4)) ∧ ((aI σ 19 c.toNatClampNeg).toInt = 48 → (if gI σ 89 = 10 then (5 : Int32) else if gI σ 89 = 11 then 3 else aI σ 38 (gI σ 89).toNatClampNeg).toInt = rt) ∧ ((aI σ 19 c.toNatClampNeg).toInt = 38 → (aI σ 88 (aI σ 20 c.toNatClampNeg).toNatClampNeg).toInt = kt ∧ (1 ≤ kt ∧ kt ≤ 3) ∧ (aI σ 51 (aI σ 20 c.toNatClampNeg).toNatClampNeg).toInt ≤ c.toInt ∧ 0 ≤ (aI σ 51 (aI σ 20 c.toNatClampNeg).toNatClampNeg).toInt)
  | _ => False
def Qv_judgeStepB (e : TvT) (vt : Int × Int) (rt kt : Int) : UQ1 := fun A1 σ w τ => match A1 with
  | [.int c] => w = none ∧ ∃ ok F, StR σ c e vt rt kt ok F ∧ ((¬ ok ∧ ¬ gI τ 66 = 0) ∨ (ok ∧ F τ))
  | _ => False
def Qw_judgeStepB : UQ1 := fun A1 σ w τ => ∀ (e : TvT) (vt : Int × Int) (rt kt : Int), Pv_judgeStepB e vt rt kt A1 σ → Qv_judgeStepB e vt rt kt A1 σ w τ
set_option maxRecDepth 100000 in
set_option maxHeartbeats 4000000 in
theorem v_judgeStepB (e : TvT) (vt : Int × Int) (rt kt : Int) : UMet 105 (Pv_judgeStepB e vt rt kt) (Qv_judgeStepB e vt rt kt) := by sorry
theorem w_judgeStepB : UMet 105 (fun _ _ => True) Qw_judgeStepB := by sorry
def Qw_judgeStepJ : UQ1 := fun A1 σ w τ => Qw_judgeStepA A1 σ w τ ∧ Qw_judgeStepB A1 σ w τ
theorem w_judgeStepJ : UMet 105 (fun _ _ => True) Qw_judgeStepJ := by sorry
/-! the reference judges: methods that are told -/
def MtR (σ : RS) (ms : MfT) (nm : Nat) : Prop := ((gI σ 36).toInt = (nm : Int) ∧ nm ≤ 10) ∧ ∀ m : Int32, 0 ≤ m.toInt → m.toInt < 12 → ((m.toInt < (nm : Int) ∨ 10 ≤ m.toInt) ↔ ∃ e, ms m.toInt.toNat = some e) ∧ ∀ e, ms m.toInt.toNat = some e → MpR σ m e.2.2 ∧ ∀ k : Int32, 0 ≤ k.toInt → k.toInt < (nm : Int) → ∀ f, ms k.toInt.toNat = some f → (nmR σ m (aI σ 37 k.toNatClampNeg).toNatClampNeg ↔ e.1 = f.1)
/-- meanings of methods' NAMES -/
def mtfR (σ : RS) : Nat → Nat → Int32
  | 0 => aI σ 80
  | k + 1 => upd (mtfR σ k) (aI σ 37 k).toNatClampNeg (100 + Int32.ofInt k)
theorem m1_el {ms : MfT} {k : Nat} : ∀ {n : Nat}, m1T ms k n → ∀ j, j < n → (j < k ∨ 10 ≤ j) → ∀ b m, ms j = some b → ms k = some m → ¬ (b.1 = m.1 ∧ b.2.2 = m.2.2) := by sorry
theorem gd_ext : ∀ {p q : List Int}, p.length = q.length → (∀ j : Nat, j < p.length → p.getD j 0 = q.getD j 0) → p = q := by sorry
def Pv_methodsToldA : UP1 := fun A1 σ => match A1 with
  | [] => ¬ gI σ 66 = 0
  | _ => False
def Qv_methodsToldA : UQ1 := fun A1 σ w τ => match A1 with
  | [] => w = none ∧ ¬ gI τ 66 = 0
  | _ => False
def Qw_methodsToldA : UQ1 := fun A1 σ w τ => Pv_methodsToldA A1 σ → Qv_methodsToldA A1 σ w τ
set_option maxRecDepth 100000 in
set_option maxHeartbeats 4000000 in
theorem v_methodsToldA : UMet 87 (Pv_methodsToldA) (Qv_methodsToldA) := by sorry
theorem w_methodsToldA : UMet 87 (fun _ _ => True) Qw_methodsToldA := fun A1 σ _ w τ h hP => v_methodsToldA A1 σ hP w τ h
def Pv_methodsToldB (ms : MfT) (nm : Nat) : UP1 := fun A1 σ => match A1 with
  | [] => gI σ 66 = 0 ∧ MtR σ ms nm
  | _ => False
def Qv_methodsToldB (ms : MfT) (nm : Nat) : UQ1 := fun A1 σ w τ => match A1 with
  | [] => w = none ∧ ((¬ (∀ k, k < nm → m1T ms k 12) ∧ ¬ gI τ 66 = 0) ∨ ((∀ k, k < nm → m1T ms k 12) ∧ τ = sA σ 80 (mtfR σ nm)))
  | _ => False
def Qw_methodsToldB : UQ1 := fun A1 σ w τ => ∀ (ms : MfT) (nm : Nat), Pv_methodsToldB ms nm A1 σ → Qv_methodsToldB ms nm A1 σ w τ
set_option maxRecDepth 100000 in
set_option maxHeartbeats 4000000 in
theorem v_methodsToldB (ms : MfT) (nm : Nat) : UMet 87 (Pv_methodsToldB ms nm) (Qv_methodsToldB ms nm) := by sorry
theorem w_methodsToldB : UMet 87 (fun _ _ => True) Qw_methodsToldB := by sorry
def Qw_methodsToldJ : UQ1 := fun A1 σ w τ => Qw_methodsToldA A1 σ w τ ∧ Qw_methodsToldB A1 σ w τ
theorem w_methodsToldJ : UMet 87 (fun _ _ => True) Qw_methodsToldJ := by sorry
/-! the reference's tables along the codes -/
def ycZ : List ItZ → Nat
  | [] => 0
  | .inl x :: l => if x.1.1 ≤ 10 then ycZ l + 1 else ycZ l
  | .inr _ :: l => ycZ l
/-- methods that have ended -/
def mdZ : List ItZ → Nat
  | [] => 0
  | .inl _ :: l => mdZ l
  | .inr y :: l => if y.1 = 54 then mdZ l + 1 else mdZ l
/-- NAMES: that stand open: thing, token -/
def lbZ : List ItZ → List (Int × Int)
  | [] => []
  | .inl _ :: l => lbZ l
  | .inr y :: l => if y.1 = 41 then (y.2.1, y.2.2.2.1) :: lbZ l else if y.1 = 42 then (lbZ l).tail else lbZ l
/-- the exp of the switch that thing k is; the code of its default -/
def swZ (k : Int) : List ItZ → Int
  | [] => -1
  | .inl _ :: l => swZ k l
  | .inr y :: l => if y.1 = 37 ∧ y.2.1 = k then y.2.2.2.2 else swZ k l
def dfZ (k : Int) : List ItZ → Int
  | [] => -2
  | .inl _ :: l => dfZ k l
  | .inr y :: l => if y.1 = 39 ∧ y.2.1 = k then (l.length : Int) else dfZ k l
/-- what NAMES mean; kd: kinds of tokens -/
def meZ (b kd : Nat → Int) (T : TbT) : List ItZ → Nat → Int
  | [], q => b q
  | .inl x :: l, q => if (x.1.1 = 2 ∨ x.1.1 = 6 ∨ x.1.1 = 9) ∧ (q : Int) = x.2.1.1 then x.2.1.2.1 else if x.1.1 = 10 ∧ (q : Int) = x.2.1.1 then 100 + (T.1 (xcZ l)).2.2.2 else meZ b kd T l q
  | .inr y :: l, q => if (y.1 = 41 ∨ ((y.1 = 46 ∨ y.1 = 47) ∧ kd y.2.2.2.1.toNat = 1)) ∧ (q : Int) = y.2.2.2.1 then 200 else meZ b kd T l q
/-- what a code of an S asks -/
def okS (C : CxT) (N : Int → Int) (T : TbT) (l : List ItZ) (y : Int × Int × Int × Int × Int) : Prop :=
  (y.1 = 21 → ¬ y.2.1 = 0) ∧ ((y.1 = 23 ∨ y.1 = 27 ∨ y.1 = 31 ∨ (y.1 = 33 ∧ ¬ y.2.2.1 = 0)) → (opT T y.2.2.2.2).1 = 0) ∧ (y.1 = 37 → 1 ≤ (opT T y.2.2.2.2).1 ∧ (opT T y.2.2.2.2).1 ≤ 3) ∧
  (y.1 = 38 → (¬ (opT T y.2.2.2.2).2.1 = 0 ∧ ftT (opT T y.2.2.2.2) (opT T (swZ y.2.1 l)).1) ∧ ∀ o x, itN l o = some (.inr x) → x.1 = 38 → x.2.1 = y.2.1 → ¬ (opT T x.2.2.2.2).2.2.1 = (opT T y.2.2.2.2).2.2.1) ∧
  (y.1 = 39 → dfZ y.2.1 l < 0) ∧ (y.1 = 41 → ∀ p ∈ lbZ l, ¬ N p.2 = N y.2.2.2.1) ∧ (y.1 = 46 ∨ y.1 = 47 → 0 ≤ y.2.1) ∧
  (y.1 = 48 → (y.2.1 = 0 → mtyT C (mdZ l) = 5) ∧ (¬ y.2.1 = 0 → ¬ mtyT C (mdZ l) = 5 ∧ ftT (opT T y.2.2.2.2) (mtyT C (mdZ l)))) ∧ (y.1 = 49 → ftT (opT T y.2.2.2.2) 3)
/-- none is told along these codes, and the tables are T -/
def OkL (C : CxT) (N : Int → Int) (T0 : TbT) : List ItZ → TbT → Prop
  | [], T => T = T0
  | .inl x :: l, T => ∃ U, OkL C N T0 l U ∧ stT C U (xcZ l) x = some T
  | .inr y :: l, T => OkL C N T0 l T ∧ okS C N T l y
theorem okl_un {C : CxT} {N : Int → Int} {T0 : TbT} : ∀ {l : List ItZ} {T U : TbT}, OkL C N T0 l T → OkL C N T0 l U → T = U := by sorry
/-! the pile -/
theorem sk_un : ∀ {l : List ItZ} {S U : List Int}, SkP l S → SkP l U → S = U := by sorry
theorem sk_rg : ∀ {l : List ItZ} {S : List Int}, SkP l S → ∀ q ∈ S, 0 ≤ q ∧ q < (xcZ l : Int) := by sorry
theorem sk_sf {l l' : List ItZ} {S : List Int} (h : SkP l S) (hs : l' <:+ l) : ∃ U, SkP l' U := by sorry
theorem sk_len : ∀ {l : List ItZ} {S : List Int}, SkP l S → S.length ≤ xcZ l := by sorry
theorem xc_len : ∀ {l : List ItZ}, xcZ l ≤ l.length := by sorry
theorem yc_xc : ∀ {l : List ItZ}, ycZ l ≤ xcZ l := by sorry
/-! frames -/
def bJ (k : Nat) : Bool := k == 59 || k == 70 || k == 71 || k == 73 || (Nat.ble 75 k && Nat.ble k 78) || (Nat.ble 80 k && Nat.ble k 84) || k == 86 || k == 88 || k == 90
def JfR (σ0 σ : RS) : Prop := (∀ k, k ≠ 66 → k ≠ 67 → k ≠ 69 → k ≠ 74 → k ≠ 89 → k ≠ 91 → gI σ k = gI σ0 k) ∧ gL σ = gL σ0 ∧ (∀ k, bJ k = false → aI σ k = aI σ0 k) ∧ ∀ k, k ≠ 72 → k ≠ 79 → k ≠ 85 → k ≠ 87 → aL σ k = aL σ0 k
theorem JfR.rf {σ : RS} : JfR σ σ := by sorry
theorem JfR.i {σ0 σ : RS} {k : Nat} {v : Int32} (h : JfR σ0 σ) (hk : k = 66 ∨ k = 67 ∨ k = 69 ∨ k = 74 ∨ k = 89 ∨ k = 91) : JfR σ0 (sI σ k v) := by sorry
theorem JfR.a {σ0 σ : RS} {k : Nat} {f : Nat → Int32} (h : JfR σ0 σ) (hk : bJ k = true) : JfR σ0 (sA σ k f) := by sorry
theorem JfR.m {σ0 σ : RS} {k : Nat} {f : Nat → Int64} (h : JfR σ0 σ) (hk : k = 72 ∨ k = 79 ∨ k = 85 ∨ k = 87) : JfR σ0 (sM σ k f) := by sorry
theorem JfR.lie {σ0 σ : RS} {c ty su : Int32} {v : Int64} (h : JfR σ0 σ) : JfR σ0 (lieS σ c ty su v) := by sorry
theorem JfR.fj {σ0 σ σ1 : RS} {k : Int32} (h : JfR σ0 σ) (f : FrJ σ σ1 k) : JfR σ0 σ1 := by sorry
/-! tables -/
def TaZ (n : Nat) (T U : TbT) : Prop := ∀ q, q < n → U.1 q = T.1 q
theorem ta_op {n : Nat} {T U : TbT} {q : Int} (h : TaZ n T U) (h0 : 0 ≤ q) (h1 : q < (n : Int)) : opT U q = opT T q := h _ (by omega)
theorem st_ta {C : CxT} {T U : TbT} {i : Nat} {x : XrZ} (h : stT C T i x = some U) : TaZ i T U := by sorry
theorem st_i {C : CxT} {T U : TbT} {i : Nat} {x : XrZ} (h : stT C T i x = some U) : exT C T i x = some (U.1 i) ∧ U.2 = vrT C T x := by sorry
/-- the pile shows the tables of S -/
def JsR (σ : RS) (T : TbT) (S : List Int) : Prop := (gI σ 69).toInt = (S.length : Int) ∧ ∀ (i : Nat) (q : Int), S[i]? = some q → TeR σ (S.length - 1 - i) (opT T q)
def xeR (σ : RS) (T : TbT) (p q : Nat) (x : XrZ) : Prop := (aI σ 75 p).toInt = x.1.2.2.1 ∧ (aI σ 76 p).toInt = x.1.2.2.2 ∧ ShT (aI σ 77 p) (aI σ 78 p) (aL σ 79 p) (T.1 q)
def ceR (σ : RS) (T : TbT) (c q : Nat) (x : XrZ) : Prop := ShT (aI σ 81 c) (aI σ 84 c) (aL σ 85 c) (T.1 q) ∧
  (x.1.1 = 4 ∨ x.1.1 = 8 → (aI σ 82 c).toInt = (T.1 q).1) ∧ ((x.1.1 = 7 ∧ 22 ≤ x.1.2.1) ∨ (x.1.1 = 9 ∧ ¬ x.1.2.1 = 8) → (aI σ 82 c).toInt = (T.1 q).2.2.2) ∧
  (x.1.1 = 2 ∨ x.1.1 = 6 ∨ x.1.1 = 9 → (aI σ 83 c).toInt = x.2.1.2.1) ∧ (x.1.1 = 10 → (aI σ 83 c).toInt = (T.1 q).2.2.2)
def keR (σ : RS) (T : TbT) (c : Nat) (y : Int × Int × Int × Int × Int) : Prop :=
  ((y.1 = 23 ∨ y.1 = 27 ∨ y.1 = 31 ∨ (y.1 = 33 ∧ ¬ y.2.2.1 = 0)) → (¬ aI σ 84 c = 0 ↔ ((opT T y.2.2.2.2).1 = 0 ∧ ¬ (opT T y.2.2.2.2).2.1 = 0)) ∧ (¬ (opT T y.2.2.2.2).2.1 = 0 → aL σ 85 c = (opT T y.2.2.2.2).2.2.1)) ∧
  (y.1 = 33 ∧ y.2.2.1 = 0 → aI σ 84 c = 1 ∧ aL σ 85 c = 1) ∧ (y.1 = 38 → aI σ 84 c = 1 ∧ aL σ 85 c = (opT T y.2.2.2.2).2.2.1) ∧ (y.1 = 21 → (aI σ 82 c).toInt = (opT T y.2.2.2.2).1)
/-- whether a code takes an exp -/
def tkO (y : Int × Int × Int × Int × Int) : Prop := y.1 = 21 ∨ y.1 = 23 ∨ y.1 = 27 ∨ y.1 = 31 ∨ (y.1 = 33 ∧ ¬ y.2.2.1 = 0) ∨ y.1 = 37 ∨ y.1 = 38 ∨ (y.1 = 48 ∧ ¬ y.2.1 = 0) ∨ y.1 = 49
def JtR (σ : RS) (T : TbT) : List ItZ → Prop
  | [] => True
  | .inl x :: l => (x.1.1 ≤ 10 → xeR σ T (ycZ l) (xcZ l) x ∧ ceR σ T l.length (xcZ l) x) ∧ JtR σ T l
  | .inr y :: l => ((tkO y → 0 ≤ y.2.2.2.2 ∧ y.2.2.2.2 < (xcZ l : Int)) ∧ keR σ T l.length y) ∧ JtR σ T l
theorem JtR.fr {σ τ : RS} {T U : TbT} : ∀ {l : List ItZ}, JtR σ T l → TaZ (xcZ l) T U → (∀ p, p < ycZ l → aI τ 75 p = aI σ 75 p ∧ aI τ 76 p = aI σ 76 p ∧ aI τ 77 p = aI σ 77 p ∧ aI τ 78 p = aI σ 78 p ∧ aL τ 79 p = aL σ 79 p) → (∀ c, c < l.length → aI τ 81 c = aI σ 81 c ∧ aI τ 82 c = aI σ 82 c ∧ aI τ 83 c = aI σ 83 c ∧ aI τ 84 c = aI σ 84 c ∧ aL τ 85 c = aL σ 85 c) → JtR τ U l := by sorry
/-- variables' CONSTANTS -/
def JvR (σ : RS) (C : CxT) (T : TbT) : Prop := ∀ v : Nat, v < C.2.2.1 → (¬ aI σ 86 v = 0 ↔ ¬ (T.2 v).1 = 0) ∧ (¬ (T.2 v).1 = 0 → aL σ 87 v = (T.2 v).2 ∧ ¬ (C.2.1 v).2 = 0)
/-- things: TYPES of switches, defaults -/
def JhR (σ : RS) (T : TbT) (n : Nat) (l : List ItZ) : Prop := ∀ k : Nat, k < n → (0 ≤ swZ k l → swZ k l < (xcZ l : Int) ∧ (aI σ 88 k).toInt = (opT T (swZ k l)).1 ∧ 1 ≤ (opT T (swZ k l)).1 ∧ (opT T (swZ k l)).1 ≤ 3) ∧ (aI σ 59 k).toInt = dfZ k l
/-- NAMES: -/
def JlR (σ : RS) (l : List ItZ) : Prop := (gI σ 91).toInt = ((lbZ l).length : Int) ∧ ∀ (i : Nat) (p : Int × Int), (lbZ l)[i]? = some p → (aI σ 90 ((lbZ l).length - 1 - i)).toInt = p.1
def JnR (b kd : Nat → Int) (σ : RS) (T : TbT) (l : List ItZ) : Prop := ∀ q : Nat, (aI σ 80 q).toInt = meZ b kd T l q
theorem me_ta {b kd : Nat → Int} {T U : TbT} : ∀ {l : List ItZ}, TaZ (xcZ l) T U → ∀ q, meZ b kd U l q = meZ b kd T l q := by sorry
/-- all of it, where none is told -/
def JR (b kd : Nat → Int) (σ0 σ : RS) (C : CxT) (tn : Nat) (l : List ItZ) (T : TbT) (S : List Int) : Prop :=
  (JfR σ0 σ ∧ gI σ 66 = 0 ∧ SkP l S) ∧ JsR σ T S ∧ ((gI σ 74).toInt = (ycZ l : Int) ∧ JtR σ T l) ∧ JvR σ C T ∧ JhR σ T tn l ∧ JlR σ l ∧ (gI σ 89).toInt = (mdZ l : Int) ∧ JnR b kd σ T l
/-! values of CONSTANTS are of their TYPES -/
theorem nr_id {t : Int} {v : Int64} : nrT t (nrT t v) = nrT t v := by sorry
theorem nr_i3 {x : Int32} : nrT 3 x.toInt64 = x.toInt64 := by sorry
theorem nr_e3 {v : Int64} (h : nrT 3 v = v) : v = v.toInt32.toInt64 := h.symm
theorem nr_and {a b : Int64} (ha : nrT 3 a = a) (hb : nrT 3 b = b) : nrT 3 (a &&& b) = a &&& b ∧ nrT 3 (a ||| b) = a ||| b ∧ nrT 3 (a ^^^ b) = a ^^^ b := by sorry
theorem b_and {a b : Int64} (ha : a = 0 ∨ a = 1) (hb : b = 0 ∨ b = 1) : (a &&& b = 0 ∨ a &&& b = 1) ∧ (a ||| b = 0 ∨ a ||| b = 1) ∧ (a ^^^ b = 0 ∨ a ^^^ b = 1) := by sorry
theorem wr_34 {sg l r : Int} (z : ¬ l = 0) : wrT sg l r = 3 ∨ wrT sg l r = 4 := by sorry
/-- what an operator makes -/
theorem va_wk {sg : Int} {a b : TvT} (ha : VaT a) (hb : VaT b) (ca : ¬ a.2.1 = 0) (cb : ¬ b.2.1 = 0) (hl : ltT sg a.1) (hr : rtT a.1 b.1) (hs : 20 ≤ sg ∧ sg ≤ 38) : nrT (if 25 ≤ sg ∧ sg ≤ 30 then 0 else wrT sg a.1 b.1) (cvT sg (wrT sg a.1 b.1) a.2.2.1 b.2.2.1) = cvT sg (wrT sg a.1 b.1) a.2.2.1 b.2.2.1 ∧ ((if 25 ≤ sg ∧ sg ≤ 30 then 0 else wrT sg a.1 b.1) = 0 → cvT sg (wrT sg a.1 b.1) a.2.2.1 b.2.2.1 = 0 ∨ cvT sg (wrT sg a.1 b.1) a.2.2.1 b.2.2.1 = 1) := by sorry
theorem va_un {sg : Int} {a : TvT} (ha : VaT a) (ca : ¬ a.2.1 = 0) (hs : sg = 34 ∨ sg = 35 ∨ sg = 39 ∨ sg = 40) (ht : (sg = 39 ∧ a.1 = 0) ∨ (¬ sg = 39 ∧ nuT a.1)) : nrT (auT sg a.1) (alT sg (auT sg a.1) a.2.2.1) = alT sg (auT sg a.1) a.2.2.1 ∧ (auT sg a.1 = 0 → alT sg (auT sg a.1) a.2.2.1 = 0 ∨ alT sg (auT sg a.1) a.2.2.1 = 1) := by sorry
/-- variables' values -/
def VvT (C : CxT) (T : TbT) : Prop := ∀ v : Nat, v < C.2.2.1 → (0 ≤ (C.2.1 v).1 ∧ (C.2.1 v).1 ≤ 4) ∧ (¬ (T.2 v).1 = 0 → nrT (C.2.1 v).1 (T.2 v).2 = (T.2 v).2 ∧ ((C.2.1 v).1 = 0 → (T.2 v).2 = 0 ∨ (T.2 v).2 = 1))
/-- methods' TYPES -/
def MyT (C : CxT) : Prop := ∀ i e, C.2.2.2 i = some e → 0 ≤ e.2.1 ∧ e.2.1 ≤ 5
theorem va_ex {C : CxT} {T : TbT} {i : Nat} {x : XrZ} {e : TvT} (h : exT C T i x = some e) (hk : 0 ≤ x.1.1 ∧ x.1.1 ≤ 10) (h0 : VaT (T.1 i) ∨ 2 ≤ x.1.1 ∨ x.1.1 = 0) (hn : (x.1.1 = 6 ∨ x.1.1 = 9 ∨ x.1.1 = 10 ∨ x.1.1 = 2) → (T.1 i).2.1 = 0)
    (h1 : x.1.1 = 3 ∨ x.1.1 = 4 ∨ x.1.1 = 5 → VaT (opT T x.2.2.1.2.1)) (h7 : x.1.1 = 7 → VaT (opT T x.2.2.1.2.1) ∧ VaT (opT T x.2.2.1.2.2.1)) (h8 : x.1.1 = 8 → VaT (opT T x.2.2.1.2.2.1) ∧ VaT (opT T x.2.2.1.2.2.2.1))
    (hv : VvT C T) (hm : MyT C) (hs : (x.1.1 = 4 → x.1.2.1 = 34 ∨ x.1.2.1 = 35 ∨ x.1.2.1 = 39 ∨ x.1.2.1 = 40) ∧ (x.1.1 = 5 → 0 ≤ x.2.1.2.2 ∧ x.2.1.2.2 ≤ 4) ∧ (x.1.1 = 7 → 20 ≤ x.1.2.1 ∧ x.1.2.1 ≤ 38)) : VaT e := by sorry
/-! one exp more, where none is told -/
theorem lie_69 {σ : RS} {c ty su : Int32} {v : Int64} : gI (lieS σ c ty su v) 69 = gI σ 69 + 1 := rfl
theorem lie_74 {σ : RS} {c ty su : Int32} {v : Int64} : gI (lieS σ c ty su v) 74 = gI σ 74 + 1 := rfl
/-- what stands of it in the text -/
def XtxR (σ0 : RS) (C : CxT) (T0 : TbT) (l : List ItZ) (x : XrZ) : Prop :=
  ccZ σ0 l.length x ∧ (0 ≤ x.1.1 ∧ x.1.1 ≤ 14) ∧ (x.1.1 ≤ 1 → ∀ (σ : RS) (c : Int32), JfR σ0 σ → c.toInt = (l.length : Int) → (((aI σ 3 (aI σ 22 c.toNatClampNeg).toNatClampNeg = 2 ∧ (aI σ 11 (aI σ 22 c.toNatClampNeg).toNatClampNeg = 2 ∨ (aI σ 11 (aI σ 22 c.toNatClampNeg).toNatClampNeg = 1 ∧ aI σ 21 c.toNatClampNeg = 0))) ↔ exT C T0 (xcZ l) x = none) ∧ ∀ e, exT C T0 (xcZ l) x = some e → (aI σ 20 c.toNatClampNeg).toInt = e.1 ∧ ¬ e.2.1 = 0 ∧ e.2.2.1 = (if aI σ 3 (aI σ 22 c.toNatClampNeg).toNatClampNeg = 4 then (if aI σ 6 (aI σ 22 c.toNatClampNeg).toNatClampNeg = 22 then 1 else 0) else if aI σ 20 c.toNatClampNeg = 3 then (aL σ 9 (aI σ 22 c.toNatClampNeg).toNatClampNeg).toInt32.toInt64 else aL σ 9 (aI σ 22 c.toNatClampNeg).toNatClampNeg))) ∧
  ((x.1.1 = 2 ∨ x.1.1 = 6 ∨ x.1.1 = 9) → ∀ (σ : RS) (c : Int32), JfR σ0 σ → c.toInt = (l.length : Int) → (gI σ 89).toInt = (mdZ l : Int) → 0 ≤ (gI σ 42).toInt ∧ (∀ r, FdR σ (aI σ 22 c.toNatClampNeg) r → r = x.2.1.2.1 ∨ (r < 0 ∧ x.2.1.2.1 < 0)) ∧ (0 ≤ x.2.1.2.1 → knT C x.2.1.2.1) ∧ (knT C x.2.1.2.1 → (aI σ 44 x.2.1.2.1.toNat).toInt = (vtT C x.2.1.2.1).1 ∧ (¬ aI σ 45 x.2.1.2.1.toNat = 0 ↔ ¬ (vtT C x.2.1.2.1).2 = 0) ∧ 0 ≤ (vtT C x.2.1.2.1).1 ∧ (vtT C x.2.1.2.1).1 ≤ 4)) ∧
  ((x.1.1 = 2 ∨ x.1.1 = 6 ∨ x.1.1 = 9 ∨ x.1.1 = 10) → (T0.1 (xcZ l)).2.1 = 0) ∧ (x.1.1 = 1 → VaT (T0.1 (xcZ l))) ∧
  (x.1.1 = 10 → (∀ (σ : RS) (c : Int32), JfR σ0 σ → c.toInt = (l.length : Int) → MsR σ (aI σ 22 c.toNatClampNeg) (C.1 x.1.2.2.1) C.2.2.2) ∧ NdT C.2.2.2) ∧
  ((x.1.1 = 4 → x.1.2.1 = 34 ∨ x.1.2.1 = 35 ∨ x.1.2.1 = 39 ∨ x.1.2.1 = 40) ∧ (x.1.1 = 5 → 0 ≤ x.2.1.2.2 ∧ x.2.1.2.2 ≤ 4) ∧ (x.1.1 = 7 → 20 ≤ x.1.2.1 ∧ x.1.2.1 ≤ 38) ∧ (x.1.1 = 9 → x.1.2.1 = 8 ∨ (22 ≤ x.1.2.1 ∧ x.1.2.1 ≤ 38 ∧ (x.1.2.1 ≤ 24 ∨ 31 ≤ x.1.2.1)))) ∧
  (x.1.1 ≤ 10 → 0 ≤ x.2.1.1)
theorem okl_t {C : CxT} {N : Int → Int} {T0 : TbT} : ∀ {l : List ItZ} {T : TbT}, OkL C N T0 l T → ∀ q, xcZ l ≤ q → T.1 q = T0.1 q := by sorry
theorem ex_lit {C : CxT} {T T0 : TbT} {i : Nat} {x : XrZ} (h : x.1.1 ≤ 1) (h0 : 0 ≤ x.1.1) (e : T.1 i = T0.1 i) : exT C T i x = exT C T0 i x := by sorry
theorem sk_stp {L l : List ItZ} {x : ItZ} {S : List Int} (h : SkP L []) (hs : (x :: l) <:+ L) (g : SkP l S) : ∃ U, S = iopZ x ++ U ∧ SkP (x :: l) (ipuZ (xcZ l) x ++ U) := by sorry
theorem g69 {v k : Int32} {n m : Nat} (h : v.toInt = (n : Int)) (g : k.toInt = (m : Int)) (hm : m ≤ n) : (v - k).toNatClampNeg = n - m ∧ (v - k).toInt = ((n - m : Nat) : Int) := by sorry
theorem g69p {v k : Int32} {n m : Nat} (h : v.toInt = (n : Int)) (g : k.toInt = (m : Int)) (hb : (n : Int) + m < 2147483648) : (v + k).toNatClampNeg = n + m ∧ (v + k).toInt = ((n + m : Nat) : Int) := by sorry
theorem TeR.ix {σ : RS} {i j : Nat} {e : TvT} (h : TeR σ i e) (q : j = i) : TeR σ j e := by sorry
theorem ex_pre {b kd : Nat → Int} {σ0 σ : RS} {C : CxT} {tn : Nat} {l : List ItZ} {T T0 : TbT} {S U : List Int} {N : Int → Int} {x : XrZ} {c : Int32} (hJ : JR b kd σ0 σ C tn l T S) (hO : OkL C N T0 l T) (hS : S = opsZ x ++ U) (hc : c.toInt = (l.length : Int)) (hX : XtxR σ0 C T0 l x) : XpR σ c C T (xcZ l) x := by sorry
/-! one exp more: what comes -/
theorem opn_len {x : XrZ} (hk : 0 ≤ x.1.1 ∧ x.1.1 ≤ 10) (hl : x.1.1 = 10 → (x.2.2.2.length : Int) < 2147483648) : (opnZ x).toInt = ((opsZ x).length : Int) := by sorry
theorem JhR.t {σ τ : RS} {T V : TbT} {n : Nat} {l l' : List ItZ} (h : JhR σ T n l) (ta : TaZ (xcZ l) T V) (e88 : aI τ 88 = aI σ 88) (e59 : aI τ 59 = aI σ 59) (es : ∀ k, swZ k l' = swZ k l) (ed : ∀ k, dfZ k l' = dfZ k l) (ex : xcZ l ≤ xcZ l') : JhR τ V n l' := by sorry
theorem JvR.t {σ τ : RS} {C : CxT} {T V : TbT} (h : JvR σ C T) (e86 : aI τ 86 = aI σ 86) (e87 : aL τ 87 = aL σ 87) (e : V.2 = T.2) : JvR τ C V := fun v hv => by
  rw [e86, e87, e]
  exact h v hv
theorem JlR.t {σ τ : RS} {l l' : List ItZ} (h : JlR σ l) (e91 : gI τ 91 = gI σ 91) (e90 : aI τ 90 = aI σ 90) (e : lbZ l' = lbZ l) : JlR τ l' := by sorry
theorem ex_post {b kd : Nat → Int} {σ0 σ τ : RS} {C : CxT} {tn : Nat} {l : List ItZ} {T T0 : TbT} {S U : List Int} {N : Int → Int} {x : XrZ} {c : Int32} {e : TvT} (hJ : JR b kd σ0 σ C tn l T S) (hO : OkL C N T0 l T) (hVv : VvT C T) (hMy : MyT C) (hS : S = opsZ x ++ U) (hU : SkP (.inl x :: l) (ipuZ (xcZ l) (.inl x) ++ U)) (hc : c.toInt = (l.length : Int)) (hb : (l.length : Int) < 2147483647) (hX : XtxR σ0 C T0 l x)
    (he : exT C T (xcZ l) x = some e) (hG : GoR σ c (aI σ 22 c.toNatClampNeg) x e τ) : ∃ V, stT C T (xcZ l) x = some V ∧ VvT C V ∧ JR b kd σ0 τ C tn (.inl x :: l) V (ipuZ (xcZ l) (.inl x) ++ U) := by sorry
/-! one code of an S more, where none is told -/
theorem JR.inr {b kd : Nat → Int} {σ0 σ τ : RS} {C : CxT} {tn : Nat} {l : List ItZ} {T : TbT} {S U : List Int} {y : Int × Int × Int × Int × Int} (hJ : JR b kd σ0 σ C tn l T S) (hS : S = iopZ (.inr y) ++ U) (hU : SkP (.inr y :: l) U) (f : JfR σ0 τ) (e66 : gI τ 66 = 0) (h69 : (gI τ 69).toInt = (U.length : Int))
    (e70 : aI τ 70 = aI σ 70 ∧ aI τ 71 = aI σ 71 ∧ aL τ 72 = aL σ 72) (e74 : gI τ 74 = gI σ 74) (e75 : aI τ 75 = aI σ 75 ∧ aI τ 76 = aI σ 76 ∧ aI τ 77 = aI σ 77 ∧ aI τ 78 = aI σ 78 ∧ aL τ 79 = aL σ 79) (e81 : aI τ 81 = aI σ 81 ∧ aI τ 83 = aI σ 83) (e82 : ∀ d, d < l.length → aI τ 82 d = aI σ 82 d ∧ aI τ 84 d = aI σ 84 d ∧ aL τ 85 d = aL σ 85 d)
    (htk : tkO y → 0 ≤ y.2.2.2.2) (hke : keR τ T l.length y) (e86 : aI τ 86 = aI σ 86 ∧ aL τ 87 = aL σ 87) (hh : JhR τ T tn (.inr y :: l)) (hl : JlR τ (.inr y :: l)) (h89 : (gI τ 89).toInt = (mdZ (.inr y :: l) : Int)) (hn : JnR b kd τ T (.inr y :: l)) : JR b kd σ0 τ C tn (.inr y :: l) T U := by sorry
/-- what stands of it in the text -/
def YtxR (kd : Nat → Int) (σ0 : RS) (C : CxT) (N : Int → Int) (tn : Nat) (l : List ItZ) (y : Int × Int × Int × Int × Int) : Prop :=
  (IcR id σ0 (.inr y :: l) ∧ 19 ≤ y.1) ∧ (y.1 = 22 → (y.2.2.1 = 0 ∨ y.2.2.1 = 2) ∧ 0 ≤ (aI σ0 44 y.2.1.toNat).toInt ∧ (aI σ0 44 y.2.1.toNat).toInt ≤ 4 ∧ 0 ≤ y.2.1) ∧ ((tkO y → 0 ≤ y.2.2.2.2) ∧ (¬ tkO y → y.2.2.2.2 < 0)) ∧
  (y.1 = 37 ∨ y.1 = 38 ∨ y.1 = 39 → 0 ≤ y.2.1 ∧ y.2.1 < (tn : Int)) ∧ (y.1 = 38 → 0 ≤ swZ y.2.1 l ∧ (0 ≤ (aI σ0 51 y.2.1.toNat).toInt ∧ (aI σ0 51 y.2.1.toNat).toInt ≤ (l.length : Int)) ∧ ∀ o x, itN l o = some (.inr x) → x.1 = 38 → x.2.1 = y.2.1 → (aI σ0 51 y.2.1.toNat).toInt ≤ (o : Int)) ∧
  (y.1 = 41 → ∀ p ∈ lbZ l, 0 ≤ p.1 ∧ (sameR σ0 (aI σ0 60 p.1.toNat).toNatClampNeg y.2.2.2.1.toNat ↔ N p.2 = N y.2.2.2.1)) ∧ (y.1 = 42 → lbZ l ≠ []) ∧ (y.1 = 41 ∨ y.1 = 46 ∨ y.1 = 47 → 0 ≤ y.2.2.2.1) ∧
  (y.1 = 48 → ∀ σ : RS, JfR σ0 σ → (gI σ 89).toInt = (mdZ l : Int) → (if gI σ 89 = 10 then (5 : Int32) else if gI σ 89 = 11 then 3 else aI σ 38 (gI σ 89).toNatClampNeg).toInt = mtyT C (mdZ l)) ∧ (∀ t : Nat, kd t = (aI σ0 3 t).toInt)
theorem i32_kk {v : Int32} {X : Int} {k : Int32} {K : Int} (h : v.toInt = X) (g : k.toInt = K) : v = k ↔ X = K := by sorry
theorem bj_n {k : Nat} (h : k < 59 ∨ (60 ≤ k ∧ k < 70) ∨ k = 72 ∨ k = 74 ∨ k = 79 ∨ k = 85 ∨ k = 87 ∨ k = 89 ∨ 91 ≤ k) : bJ k = false := by sorry
/-! what a code of an S asks, by the code -/
theorem ok_0 {C : CxT} {N : Int → Int} {T : TbT} {l : List ItZ} {y : Int × Int × Int × Int × Int} (h : y.1 = 21) : okS C N T l y ↔ ¬ y.2.1 = 0 := by sorry
theorem ok_1 {C : CxT} {N : Int → Int} {T : TbT} {l : List ItZ} {y : Int × Int × Int × Int × Int} (h : (y.1 = 23 ∨ y.1 = 27 ∨ y.1 = 31 ∨ (y.1 = 33 ∧ ¬ y.2.2.1 = 0))) : okS C N T l y ↔ (opT T y.2.2.2.2).1 = 0 := by sorry
theorem ok_2 {C : CxT} {N : Int → Int} {T : TbT} {l : List ItZ} {y : Int × Int × Int × Int × Int} (h : y.1 = 37) : okS C N T l y ↔ (1 ≤ (opT T y.2.2.2.2).1 ∧ (opT T y.2.2.2.2).1 ≤ 3) := by sorry
theorem ok_3 {C : CxT} {N : Int → Int} {T : TbT} {l : List ItZ} {y : Int × Int × Int × Int × Int} (h : y.1 = 38) : okS C N T l y ↔ ((¬ (opT T y.2.2.2.2).2.1 = 0 ∧ ftT (opT T y.2.2.2.2) (opT T (swZ y.2.1 l)).1) ∧ ∀ o x, itN l o = some (.inr x) → x.1 = 38 → x.2.1 = y.2.1 → ¬ (opT T x.2.2.2.2).2.2.1 = (opT T y.2.2.2.2).2.2.1) := by sorry
theorem ok_4 {C : CxT} {N : Int → Int} {T : TbT} {l : List ItZ} {y : Int × Int × Int × Int × Int} (h : y.1 = 39) : okS C N T l y ↔ dfZ y.2.1 l < 0 := by sorry
theorem ok_5 {C : CxT} {N : Int → Int} {T : TbT} {l : List ItZ} {y : Int × Int × Int × Int × Int} (h : y.1 = 41) : okS C N T l y ↔ (∀ p ∈ lbZ l, ¬ N p.2 = N y.2.2.2.1) := by sorry
theorem ok_6 {C : CxT} {N : Int → Int} {T : TbT} {l : List ItZ} {y : Int × Int × Int × Int × Int} (h : (y.1 = 46 ∨ y.1 = 47)) : okS C N T l y ↔ 0 ≤ y.2.1 := by sorry
theorem ok_7 {C : CxT} {N : Int → Int} {T : TbT} {l : List ItZ} {y : Int × Int × Int × Int × Int} (h : y.1 = 48) : okS C N T l y ↔ ((y.2.1 = 0 → mtyT C (mdZ l) = 5) ∧ (¬ y.2.1 = 0 → ¬ mtyT C (mdZ l) = 5 ∧ ftT (opT T y.2.2.2.2) (mtyT C (mdZ l)))) := by sorry
theorem ok_8 {C : CxT} {N : Int → Int} {T : TbT} {l : List ItZ} {y : Int × Int × Int × Int × Int} (h : y.1 = 49) : okS C N T l y ↔ ftT (opT T y.2.2.2.2) 3 := by sorry
theorem ok_x {C : CxT} {N : Int → Int} {T : TbT} {l : List ItZ} {y : Int × Int × Int × Int × Int} (h : ¬ y.1 = 21 ∧ ¬ (y.1 = 23 ∨ y.1 = 27 ∨ y.1 = 31 ∨ (y.1 = 33 ∧ ¬ y.2.2.1 = 0)) ∧ ¬ y.1 = 37 ∧ ¬ y.1 = 38 ∧ ¬ y.1 = 39 ∧ ¬ y.1 = 41 ∧ ¬ (y.1 = 46 ∨ y.1 = 47) ∧ ¬ y.1 = 48 ∧ ¬ y.1 = 49) : okS C N T l y := by sorry
theorem IcR.ax {th : Int → Int} {σ : RS} : ∀ {l : List ItZ}, IcR th σ l → ∀ {o : Nat} {x : ItZ}, itN l o = some x → itR th σ o x := by sorry
theorem itN_ex : ∀ {l : List ItZ} {o : Nat}, o < l.length → ∃ x, itN l o = some x := by sorry
theorem JtR.ke {σ : RS} {T : TbT} : ∀ {l : List ItZ}, JtR σ T l → ∀ {o : Nat} {x}, itN l o = some (.inr x) → keR σ T o x := by sorry
theorem ite_le {p : Prop} [Decidable p] {a b n : Int} (h : a ≤ n) (g : b ≤ n) : (if p then a else b) ≤ n := by sorry
theorem opk_22 {x : XrZ} : opkZ x ≤ 22 := by sorry
/-- what judging a code asks of the state -/
theorem y_pre {b kd : Nat → Int} {σ0 σ : RS} {C : CxT} {tn : Nat} {l : List ItZ} {T : TbT} {S U : List Int} {N : Int → Int} {y : Int × Int × Int × Int × Int} {c : Int32} (hJ : JR b kd σ0 σ C tn l T S) (hS : S = iopZ (.inr y) ++ U) (hc : c.toInt = (l.length : Int)) (hY : YtxR kd σ0 C N tn l y) :
    gI σ 66 = 0 ∧ (((aI σ 19 c.toNatClampNeg).toInt = 21 ∨ ((aI σ 19 c.toNatClampNeg).toInt = 22 ∧ ¬ (aI σ 21 c.toNatClampNeg) = 0 ∧ ¬ (aI σ 21 c.toNatClampNeg) = 2) ∨ (aI σ 19 c.toNatClampNeg).toInt = 23 ∨ (aI σ 19 c.toNatClampNeg).toInt = 27 ∨ (aI σ 19 c.toNatClampNeg).toInt = 31 ∨ ((aI σ 19 c.toNatClampNeg).toInt = 33 ∧ ¬ (aI σ 21 c.toNatClampNeg) = 0) ∨ (aI σ 19 c.toNatClampNeg).toInt = 37 ∨ (aI σ 19 c.toNatClampNeg).toInt = 38 ∨ ((aI σ 19 c.toNatClampNeg).toInt = 48 ∧ ¬ (aI σ 20 c.toNatClampNeg) = 0) ∨ (aI σ 19 c.toNatClampNeg).toInt = 49) → TeR σ (gI σ 69 - 1).toNatClampNeg (opT T y.2.2.2.2)) ∧ ((aI σ 19 c.toNatClampNeg).toInt = 22 → ¬ (aI σ 21 c.toNatClampNeg) = 2 → (aI σ 44 (aI σ 20 c.toNatClampNeg).toNatClampNeg).toInt = ((aI σ0 44 y.2.1.toNat).toInt, (aI σ0 45 y.2.1.toNat).toInt).1 ∧ (¬ aI σ 45 (aI σ 20 c.toNatClampNeg).toNatClampNeg = 0 ↔ ¬ ((aI σ0 44 y.2.1.toNat).toInt, (aI σ0 45 y.2.1.toNat).toInt).2 = 0) ∧ (0 ≤ ((aI σ0 44 y.2.1.toNat).toInt, (aI σ0 45 y.2.1.toNat).toInt).1 ∧ ((aI σ0 44 y.2.1.toNat).toInt, (aI σ0 45 y.2.1.toNat).toInt).1 ≤ 4)) ∧ ((aI σ 19 c.toNatClampNeg).toInt = 48 → (if gI σ 89 = 10 then (5 : Int32) else if gI σ 89 = 11 then 3 else aI σ 38 (gI σ 89).toNatClampNeg).toInt = (mtyT C (mdZ l))) ∧ ((aI σ 19 c.toNatClampNeg).toInt = 38 → (aI σ 88 (aI σ 20 c.toNatClampNeg).toNatClampNeg).toInt = ((opT T (swZ y.2.1 l)).1) ∧ (1 ≤ ((opT T (swZ y.2.1 l)).1) ∧ ((opT T (swZ y.2.1 l)).1) ≤ 3) ∧ (aI σ 51 (aI σ 20 c.toNatClampNeg).toNatClampNeg).toInt ≤ c.toInt ∧ 0 ≤ (aI σ 51 (aI σ 20 c.toNatClampNeg).toNatClampNeg).toInt) := by sorry
/-! one code of an S more: by the code -/
theorem lb_len : ∀ {l : List ItZ}, (lbZ l).length ≤ l.length := by sorry
theorem md_len : ∀ {l : List ItZ}, mdZ l ≤ l.length := by sorry
set_option maxHeartbeats 4000000 in
theorem y_st {b kd : Nat → Int} {σ0 σ : RS} {C : CxT} {tn : Nat} {l : List ItZ} {T : TbT} {S U : List Int} {N : Int → Int} {y : Int × Int × Int × Int × Int} {c : Int32} {ok : Prop} {F : RS → Prop} (hJ : JR b kd σ0 σ C tn l T S) (hS : S = iopZ (.inr y) ++ U) (hU : SkP (.inr y :: l) U) (hc : c.toInt = (l.length : Int)) (hb : (l.length : Int) < 2147483647) (hY : YtxR kd σ0 C N tn l y)
    (hst : StR σ c (opT T y.2.2.2.2) ((aI σ0 44 y.2.1.toNat).toInt, (aI σ0 45 y.2.1.toNat).toInt) (mtyT C (mdZ l)) (opT T (swZ y.2.1 l)).1 ok F) : (ok ↔ okS C N T l y) ∧ ∀ τ, ok → F τ → JR b kd σ0 τ C tn (.inr y :: l) T U := by sorry
/-! the mark behind a variable's exp -/
theorem ft_ca {e : TvT} {t : Int} (h : ftT e t) (hv : VaT e) (hc : ¬ e.2.1 = 0) (ht : 0 ≤ t ∧ t ≤ 4) : nrT t e.2.2.1 = e.2.2.1 ∧ (t = 0 → e.2.2.1 = 0 ∨ e.2.2.1 = 1) ∧ caT t e.2.2.1 = e.2.2.1 := by sorry
theorem vr_y {C : CxT} {T : TbT} {x : XrZ} {v : Nat} (h : x.1.1 = 15) (e : (v : Int) = x.2.1.2.1) : vrT C T x v = (if ¬ (vtT C x.2.1.2.1).2 = 0 ∧ ¬ (opT T x.2.2.1.2.1).2.1 = 0 then 1 else 0, (opT T x.2.2.1.2.1).2.2.1) := by sorry
theorem vr_n {C : CxT} {T : TbT} {x : XrZ} {v : Nat} (e : ¬ (v : Int) = x.2.1.2.1) : vrT C T x v = T.2 v := by sorry
theorem vr_01 {C : CxT} {T : TbT} {x : XrZ} : ¬ (if ¬ (vtT C x.2.1.2.1).2 = 0 ∧ ¬ (opT T x.2.2.1.2.1).2.1 = 0 then (1 : Int) else 0) = 0 ↔ (¬ (vtT C x.2.1.2.1).2 = 0 ∧ ¬ (opT T x.2.2.1.2.1).2.1 = 0) := by sorry
/-- what stands of it in the text -/
def StxR (σ0 : RS) (C : CxT) (l : List ItZ) (x : XrZ) : Prop := ccZ σ0 l.length x ∧ x.1.1 = 15 ∧ knT C x.2.1.2.1 ∧ (aI σ0 44 x.2.1.2.1.toNat).toInt = (vtT C x.2.1.2.1).1 ∧ (¬ aI σ0 45 x.2.1.2.1.toNat = 0 ↔ ¬ (vtT C x.2.1.2.1).2 = 0) ∧ 0 ≤ (vtT C x.2.1.2.1).1 ∧ (vtT C x.2.1.2.1).1 ≤ 4
theorem s_pre {b kd : Nat → Int} {σ0 σ : RS} {C : CxT} {tn : Nat} {l : List ItZ} {T : TbT} {S U : List Int} {x : XrZ} {c : Int32} (hJ : JR b kd σ0 σ C tn l T S) (hS : S = opsZ x ++ U) (hc : c.toInt = (l.length : Int)) (hX : StxR σ0 C l x) :
    gI σ 66 = 0 ∧ (((aI σ 19 c.toNatClampNeg).toInt = 21 ∨ ((aI σ 19 c.toNatClampNeg).toInt = 22 ∧ ¬ (aI σ 21 c.toNatClampNeg) = 0 ∧ ¬ (aI σ 21 c.toNatClampNeg) = 2) ∨ (aI σ 19 c.toNatClampNeg).toInt = 23 ∨ (aI σ 19 c.toNatClampNeg).toInt = 27 ∨ (aI σ 19 c.toNatClampNeg).toInt = 31 ∨ ((aI σ 19 c.toNatClampNeg).toInt = 33 ∧ ¬ (aI σ 21 c.toNatClampNeg) = 0) ∨ (aI σ 19 c.toNatClampNeg).toInt = 37 ∨ (aI σ 19 c.toNatClampNeg).toInt = 38 ∨ ((aI σ 19 c.toNatClampNeg).toInt = 48 ∧ ¬ (aI σ 20 c.toNatClampNeg) = 0) ∨ (aI σ 19 c.toNatClampNeg).toInt = 49) → TeR σ (gI σ 69 - 1).toNatClampNeg ((opT T x.2.2.1.2.1))) ∧ ((aI σ 19 c.toNatClampNeg).toInt = 22 → ¬ (aI σ 21 c.toNatClampNeg) = 2 → (aI σ 44 (aI σ 20 c.toNatClampNeg).toNatClampNeg).toInt = (vtT C x.2.1.2.1).1 ∧ (¬ aI σ 45 (aI σ 20 c.toNatClampNeg).toNatClampNeg = 0 ↔ ¬ (vtT C x.2.1.2.1).2 = 0) ∧ (0 ≤ (vtT C x.2.1.2.1).1 ∧ (vtT C x.2.1.2.1).1 ≤ 4)) ∧ ((aI σ 19 c.toNatClampNeg).toInt = 48 → (if gI σ 89 = 10 then (5 : Int32) else if gI σ 89 = 11 then 3 else aI σ 38 (gI σ 89).toNatClampNeg).toInt = (0 : Int)) ∧ ((aI σ 19 c.toNatClampNeg).toInt = 38 → (aI σ 88 (aI σ 20 c.toNatClampNeg).toNatClampNeg).toInt = (0 : Int) ∧ (1 ≤ (0 : Int) ∧ (0 : Int) ≤ 3) ∧ (aI σ 51 (aI σ 20 c.toNatClampNeg).toNatClampNeg).toInt ≤ c.toInt ∧ 0 ≤ (aI σ 51 (aI σ 20 c.toNatClampNeg).toNatClampNeg).toInt) := by sorry
theorem s_st {b kd : Nat → Int} {σ0 σ : RS} {C : CxT} {tn : Nat} {l : List ItZ} {T : TbT} {S U : List Int} {x : XrZ} {c : Int32} {ok : Prop} {F : RS → Prop} (hJ : JR b kd σ0 σ C tn l T S) (hVv : VvT C T) (hS : S = opsZ x ++ U) (hU : SkP (.inl x :: l) (ipuZ (xcZ l) (.inl x) ++ U)) (hc : c.toInt = (l.length : Int)) (hX : StxR σ0 C l x)
    (hst : StR σ c (opT T x.2.2.1.2.1) (vtT C x.2.1.2.1) 0 0 ok F) : (ok ↔ ¬ stT C T (xcZ l) x = none) ∧ ∀ τ, ok → F τ → ∃ V, stT C T (xcZ l) x = some V ∧ VvT C V ∧ JR b kd σ0 τ C tn (.inl x :: l) V (ipuZ (xcZ l) (.inl x) ++ U) := by sorry
/-! what flow gives back -/
def Pv_beS : UP1 := fun A1 σ => match A1 with
  | [.long bits] => True
  | _ => False
def Qv_beS : UQ1 := fun A1 σ w τ => match A1 with
  | [.long bits] => w = none
  | _ => False
def Qw_beS : UQ1 := fun A1 σ w τ => Pv_beS A1 σ → Qv_beS A1 σ w τ
set_option maxRecDepth 100000 in
set_option maxHeartbeats 4000000 in
theorem v_beS : UMet 112 (Pv_beS) (Qv_beS) := by sorry
theorem w_beS : UMet 112 (fun _ _ => True) Qw_beS := fun A1 σ _ w τ h hP => v_beS A1 σ hP w τ h
def Pv_findAtS : UP1 := fun A1 σ => match A1 with
  | [.int c] => True
  | _ => False
def Qv_findAtS : UQ1 := fun A1 σ w τ => match A1 with
  | [.int c] => ∃ r : Int32, w = some (.int r)
  | _ => False
def Qw_findAtS : UQ1 := fun A1 σ w τ => Pv_findAtS A1 σ → Qv_findAtS A1 σ w τ
set_option maxRecDepth 100000 in
set_option maxHeartbeats 4000000 in
theorem v_findAtS : UMet 118 (Pv_findAtS) (Qv_findAtS) := by sorry
theorem w_findAtS : UMet 118 (fun _ _ => True) Qw_findAtS := fun A1 σ _ w τ h hP => v_findAtS A1 σ hP w τ h
def Pv_nowS : UP1 := fun A1 σ => match A1 with
  | [] => True
  | _ => False
def Qv_nowS : UQ1 := fun A1 σ w τ => match A1 with
  | [] => ∃ r : Int64, w = some (.long r)
  | _ => False
def Qw_nowS : UQ1 := fun A1 σ w τ => Pv_nowS A1 σ → Qv_nowS A1 σ w τ
set_option maxRecDepth 100000 in
set_option maxHeartbeats 4000000 in
theorem v_nowS : UMet 111 (Pv_nowS) (Qv_nowS) := by sorry
theorem w_nowS : UMet 111 (fun _ _ => True) Qw_nowS := fun A1 σ _ w τ h hP => v_nowS A1 σ hP w τ h
def Pv_sidedS : UP1 := fun A1 σ => match A1 with
  | [.int c] => True
  | _ => False
def Qv_sidedS : UQ1 := fun A1 σ w τ => match A1 with
  | [.int c] => w = none
  | _ => False
def Qw_sidedS : UQ1 := fun A1 σ w τ => Pv_sidedS A1 σ → Qv_sidedS A1 σ w τ
set_option maxRecDepth 100000 in
set_option maxHeartbeats 4000000 in
theorem v_sidedS : UMet 116 (Pv_sidedS) (Qv_sidedS) := by sorry
theorem w_sidedS : UMet 116 (fun _ _ => True) Qw_sidedS := fun A1 σ _ w τ h hP => v_sidedS A1 σ hP w τ h
def Pv_valueS : UP1 := fun A1 σ => match A1 with
  | [.int t, .int v] => True
  | _ => False
def Qv_valueS : UQ1 := fun A1 σ w τ => match A1 with
  | [.int t, .int v] => w = none
  | _ => False
def Qw_valueS : UQ1 := fun A1 σ w τ => Pv_valueS A1 σ → Qv_valueS A1 σ w τ
set_option maxRecDepth 100000 in
set_option maxHeartbeats 4000000 in
theorem v_valueS : UMet 115 (Pv_valueS) (Qv_valueS) := by sorry
theorem w_valueS : UMet 115 (fun _ _ => True) Qw_valueS := fun A1 σ _ w τ h hP => v_valueS A1 σ hP w τ h
def Pv_flowExpS : UP1 := fun A1 σ => match A1 with
  | [.int c] => True
  | _ => False
def Qv_flowExpS : UQ1 := fun A1 σ w τ => match A1 with
  | [.int c] => w = none
  | _ => False
def Qw_flowExpS : UQ1 := fun A1 σ w τ => Pv_flowExpS A1 σ → Qv_flowExpS A1 σ w τ
set_option maxRecDepth 100000 in
set_option maxHeartbeats 4000000 in
theorem v_flowExpS : UMet 117 (Pv_flowExpS) (Qv_flowExpS) := by sorry
theorem w_flowExpS : UMet 117 (fun _ _ => True) Qw_flowExpS := fun A1 σ _ w τ h hP => v_flowExpS A1 σ hP w τ h
def Pv_comeS : UP1 := fun A1 σ => match A1 with
  | [.int k, .int on] => True
  | _ => False
def Qv_comeS : UQ1 := fun A1 σ w τ => match A1 with
  | [.int k, .int on] => ∃ r : Int64, w = some (.long r)
  | _ => False
def Qw_comeS : UQ1 := fun A1 σ w τ => Pv_comeS A1 σ → Qv_comeS A1 σ w τ
set_option maxRecDepth 100000 in
set_option maxHeartbeats 4000000 in
theorem v_comeS : UMet 119 (Pv_comeS) (Qv_comeS) := by sorry
theorem w_comeS : UMet 119 (fun _ _ => True) Qw_comeS := fun A1 σ _ w τ h hP => v_comeS A1 σ hP w τ h
def Pv_deadS : UP1 := fun A1 σ => match A1 with
  | [] => True
  | _ => False
def Qv_deadS : UQ1 := fun A1 σ w τ => match A1 with
  | [] => w = none
  | _ => False
def Qw_deadS : UQ1 := fun A1 σ w τ => Pv_deadS A1 σ → Qv_deadS A1 σ w τ
set_option maxRecDepth 100000 in
set_option maxHeartbeats 4000000 in
theorem v_deadS : UMet 120 (Pv_deadS) (Qv_deadS) := by sorry
theorem w_deadS : UMet 120 (fun _ _ => True) Qw_deadS := fun A1 σ _ w τ h hP => v_deadS A1 σ hP w τ h
def Pv_endedS : UP1 := fun A1 σ => match A1 with
  | [.int k] => True
  | _ => False
def Qv_endedS : UQ1 := fun A1 σ w τ => match A1 with
  | [.int k] => w = none
  | _ => False
def Qw_endedS : UQ1 := fun A1 σ w τ => Pv_endedS A1 σ → Qv_endedS A1 σ w τ
set_option maxRecDepth 100000 in
set_option maxHeartbeats 4000000 in
theorem v_endedS : UMet 122 (Pv_endedS) (Qv_endedS) := by sorry
theorem w_endedS : UMet 122 (fun _ _ => True) Qw_endedS := fun A1 σ _ w τ h hP => v_endedS A1 σ hP w τ h
def Pv_lateErrS : UP1 := fun A1 σ => match A1 with
  | [.int what, .int token] => True
  | _ => False
def Qv_lateErrS : UQ1 := fun A1 σ w τ => match A1 with
  | [.int what, .int token] => w = none
  | _ => False
def Qw_lateErrS : UQ1 := fun A1 σ w τ => Pv_lateErrS A1 σ → Qv_lateErrS A1 σ w τ
set_option maxRecDepth 100000 in
set_option maxHeartbeats 4000000 in
theorem v_lateErrS : UMet 110 (Pv_lateErrS) (Qv_lateErrS) := by sorry
theorem w_lateErrS : UMet 110 (fun _ _ => True) Qw_lateErrS := fun A1 σ _ w τ h hP => v_lateErrS A1 σ hP w τ h
def Pv_resultOfS : UP1 := fun A1 σ => match A1 with
  | [.int m] => True
  | _ => False
def Qv_resultOfS : UQ1 := fun A1 σ w τ => match A1 with
  | [.int m] => ∃ r : Int32, w = some (.int r)
  | _ => False
def Qw_resultOfS : UQ1 := fun A1 σ w τ => Pv_resultOfS A1 σ → Qv_resultOfS A1 σ w τ
set_option maxRecDepth 100000 in
set_option maxHeartbeats 4000000 in
theorem v_resultOfS : UMet 85 (Pv_resultOfS) (Qv_resultOfS) := by sorry
theorem w_resultOfS : UMet 85 (fun _ _ => True) Qw_resultOfS := fun A1 σ _ w τ h hP => v_resultOfS A1 σ hP w τ h
def Pv_flowStepS : UP1 := fun A1 σ => match A1 with
  | [.int c] => True
  | _ => False
def Qv_flowStepS : UQ1 := fun A1 σ w τ => match A1 with
  | [.int c] => ∃ r : Int32, w = some (.int r)
  | _ => False
def Qw_flowStepS : UQ1 := fun A1 σ w τ => Pv_flowStepS A1 σ → Qv_flowStepS A1 σ w τ
set_option maxRecDepth 100000 in
set_option maxHeartbeats 4000000 in
theorem v_flowStepS : UMet 121 (Pv_flowStepS) (Qv_flowStepS) := by sorry
theorem w_flowStepS : UMet 121 (fun _ _ => True) Qw_flowStepS := fun A1 σ _ w τ h hP => v_flowStepS A1 σ hP w τ h
def Pv_startS : UP1 := fun A1 σ => match A1 with
  | [.int m] => True
  | _ => False
def Qv_startS : UQ1 := fun A1 σ w τ => match A1 with
  | [.int m] => w = none
  | _ => False
def Qw_startS : UQ1 := fun A1 σ w τ => Pv_startS A1 σ → Qv_startS A1 σ w τ
set_option maxRecDepth 100000 in
set_option maxHeartbeats 4000000 in
theorem v_startS : UMet 114 (Pv_startS) (Qv_startS) := by sorry
theorem w_startS : UMet 114 (fun _ _ => True) Qw_startS := fun A1 σ _ w τ h hP => v_startS A1 σ hP w τ h
def Pv_flowS : UP1 := fun A1 σ => match A1 with
  | [] => True
  | _ => False
def Qv_flowS : UQ1 := fun A1 σ w τ => match A1 with
  | [] => w = none
  | _ => False
def Qw_flowS : UQ1 := fun A1 σ w τ => Pv_flowS A1 σ → Qv_flowS A1 σ w τ
set_option maxRecDepth 100000 in
set_option maxHeartbeats 4000000 in
theorem v_flowS : UMet 113 (Pv_flowS) (Qv_flowS) := by sorry
theorem w_flowS : UMet 113 (fun _ _ => True) Qw_flowS := fun A1 σ _ w τ h hP => v_flowS A1 σ hP w τ h
def Qw_flowE : UQ1 := fun A1 σ w τ => Qw_flowS A1 σ w τ ∧ EvM 113 A1 σ w τ
theorem w_flowE : UMet 113 (fun _ _ => True) Qw_flowE := fun A1 σ q w τ h => ⟨w_flowS A1 σ q w τ h, h⟩
/-! the reference judges all -/
def clrR (σ : RS) (k : Nat) : Nat → Int32 := fun q => if q < k then -2 else aI σ 80 q
theorem clr_s {σ : RS} {k : Nat} : upd (clrR σ k) k (-2) = clrR σ (k + 1) := by sorry
theorem clr_0 {σ : RS} : clrR σ 0 = aI σ 80 := by sorry
/-- meanings of variables' NAMES over g -/
def vnR (σ : RS) (g : Nat → Int32) : Nat → Nat → Int32
  | 0 => g
  | k + 1 => upd (vnR σ g k) (aI σ 43 k).toNatClampNeg (Int32.ofInt k)
theorem okl_sf {C : CxT} {N : Int → Int} {T0 : TbT} {l : List ItZ} : ∀ {L : List ItZ} {T : TbT}, OkL C N T0 L T → l <:+ L → ∃ U, OkL C N T0 l U := by sorry
theorem okl_nx {C : CxT} {N : Int → Int} {T0 T : TbT} {l L : List ItZ} {x : XrZ} (h : OkL C N T0 l T) (hs : (.inl x :: l) <:+ L) (q : stT C T (xcZ l) x = none) : ∀ V, ¬ OkL C N T0 L V := by sorry
theorem okl_ny {C : CxT} {N : Int → Int} {T0 T : TbT} {l L : List ItZ} {y} (h : OkL C N T0 l T) (hs : (.inr y :: l) <:+ L) (q : ¬ okS C N T l y) : ∀ V, ¬ OkL C N T0 L V := by sorry
theorem sf_len {l L : List ItZ} (h : l <:+ L) (e : L.length ≤ l.length) : l = L := by sorry
theorem sf_nx {l L : List ItZ} (h : l <:+ L) (e : l.length < L.length) : ∃ x, (x :: l) <:+ L := by sorry
theorem st_no {C : CxT} {T : TbT} {i : Nat} {x : XrZ} (h : exT C T i x = none) : stT C T i x = none := by sorry
/-- all that is asked ahead of flow -/
def OkJ (C : CxT) (N : Int → Int) (T0 : TbT) (L : List ItZ) (nm nv : Nat) (cl : Nat → Prop) : Prop := ((∀ k, k < nm → m1T C.2.2.2 k 12) ∧ ∀ v, v < nv → ¬ cl v) ∧ ∃ T, OkL C N T0 L T
def StJ (kd : Nat → Int) (σ : RS) (C : CxT) (N : Int → Int) (T0 : TbT) (L : List ItZ) (tn nm nv : Nat) (cl : Nat → Prop) : Prop :=
  (SkP L [] ∧ (gI σ 18).toInt = (L.length : Int) ∧ (L.length : Int) < 2147483647) ∧
  (((∀ k, k < nm → m1T C.2.2.2 k 12) → ∀ x l, (.inl x :: l) <:+ L → (x.1.1 ≤ 14 → XtxR (sI σ 68 1) C T0 l x) ∧ (¬ x.1.1 ≤ 14 → StxR (sI σ 68 1) C l x)) ∧ ∀ y l, (.inr y :: l) <:+ L → YtxR kd (sI σ 68 1) C N tn l y) ∧
  (∀ Y : RS, JfR (sI σ 68 1) Y → MtR Y C.2.2.2 nm) ∧ (∀ v : Nat, v < nv → ∀ Y : RS, JfR (sI σ 68 1) Y → gI Y 89 = aI Y 46 v → ∀ r, FdR Y (aI Y 43 v) r → (0 ≤ r ↔ cl v)) ∧
  ((gI σ 42).toInt = (nv : Int) ∧ C.2.2.1 = nv) ∧ ((∀ k, k < tn → aI σ 59 k = -2) ∧ gI σ 91 = 0 ∧ 0 ≤ (gI σ 2).toInt) ∧ ((∀ v, T0.2 v = (0, 0)) ∧ VvT C T0 ∧ MyT C)
/-- between variables -/
def VlR (σ Y : RS) (g : Nat → Int32) (cl : Nat → Prop) (k : Nat) : Prop := (JfR (sI σ 68 1) Y ∧ gI Y 66 = 0 ∧ gI Y 69 = 0 ∧ gI Y 74 = 0 ∧ gI Y 91 = 0) ∧ aI Y 59 = aI σ 59 ∧ aI Y 80 = vnR σ g k ∧ (∀ u, u < k → aI Y 86 u = 0) ∧ ∀ u, u < k → ¬ cl u
theorem JR.nil {kd : Nat → Int} {σ Y : RS} {C : CxT} {N : Int → Int} {T0 : TbT} {L : List ItZ} {tn nm nv : Nat} {cl : Nat → Prop} {g : Nat → Int32} (h : StJ kd σ C N T0 L tn nm nv cl) (q : VlR σ Y g cl nv) (h89 : gI Y 89 = 0) : JR (fun q => (vnR σ g nv q).toInt) kd (sI σ 68 1) Y C tn [] T0 [] := by sorry
theorem mtf_c {σ τ : RS} (e80 : aI σ 80 = aI τ 80) (e37 : aI σ 37 = aI τ 37) : ∀ {n : Nat}, mtfR σ n = mtfR τ n := by sorry
def Pv_judgeAllB (kd : Nat → Int) (C : CxT) (Nf : Int → Int) (T0 : TbT) (L : List ItZ) (tn nm nv : Nat) (cl : Nat → Prop) : UP1 := fun A1 σ => match A1 with
  | [] => StJ kd σ C Nf T0 L tn nm nv cl
  | _ => False
def Qv_judgeAllB (kd : Nat → Int) (C : CxT) (Nf : Int → Int) (T0 : TbT) (L : List ItZ) (tn nm nv : Nat) (cl : Nat → Prop) : UQ1 := fun A1 σ w τ => match A1 with
  | [] => w = none ∧ ((¬ OkJ C Nf T0 L nm nv cl ∧ ¬ gI τ 66 = 0) ∨ (OkJ C Nf T0 L nm nv cl ∧ ∃ (σ1 : RS) (T : TbT), OkL C Nf T0 L T ∧ VvT C T ∧ JR (fun q => (vnR σ (mtfR (sA σ 80 (clrR σ (gI σ 2).toInt.toNat)) nm) nv q).toInt) kd (sI σ 68 1) σ1 C tn L T [] ∧ EvM 113 [] σ1 none τ))
  | _ => False
def Qw_judgeAllB : UQ1 := fun A1 σ w τ => ∀ (kd : Nat → Int) (C : CxT) (Nf : Int → Int) (T0 : TbT) (L : List ItZ) (tn nm nv : Nat) (cl : Nat → Prop), Pv_judgeAllB kd C Nf T0 L tn nm nv cl A1 σ → Qv_judgeAllB kd C Nf T0 L tn nm nv cl A1 σ w τ
set_option maxRecDepth 100000 in
set_option maxHeartbeats 4000000 in
theorem v_judgeAllB (kd : Nat → Int) (C : CxT) (Nf : Int → Int) (T0 : TbT) (L : List ItZ) (tn nm nv : Nat) (cl : Nat → Prop) : UMet 82 (Pv_judgeAllB kd C Nf T0 L tn nm nv cl) (Qv_judgeAllB kd C Nf T0 L tn nm nv cl) := by sorry
theorem w_judgeAllB : UMet 82 (fun _ _ => True) Qw_judgeAllB := by sorry
/-! the reference's flow: exps -/
def beS (σ : RS) (b : Int64) : RS := sL (sL σ 93 b) 94 b
def nowR (σ : RS) : Int64 := gL σ 93 &&& gL σ 94
/-- bit v -/
def bitR (b : Int64) (v : Int32) : Prop := b >>> (v.toInt64 &&& 63) &&& 1 = 1
/-- a CONSTANT of boolean: all holds on the other side -/
def sidS (σ : RS) (c : Int32) : RS := if ¬ aI σ 81 c.toNatClampNeg = 0 ∨ aI σ 84 c.toNatClampNeg = 0 then beS σ (nowR σ) else if aL σ 85 c.toNatClampNeg = 0 then sL (beS σ (nowR σ)) 93 (Int64.ofInt (-1)) else sL (beS σ (nowR σ)) 94 (Int64.ofInt (-1))
/-- whether the value of v that is taken is not told to be there -/
def unS (σ : RS) (u p : Int32) : RS := sI (sI σ 114 u) 115 p
/-- what an exp's code does to what holds -/
def fxS (σ : RS) (c : Int32) : RS :=
  if aI σ 19 c.toNatClampNeg = 3 ∨ aI σ 19 c.toNatClampNeg = 4 ∨ aI σ 19 c.toNatClampNeg = 16 then beS σ (nowR σ)
  else if aI σ 19 c.toNatClampNeg = 5 ∧ aI σ 20 c.toNatClampNeg = 33 then sL (sL σ 93 (gL σ 94)) 94 (gL σ 93)
  else if aI σ 19 c.toNatClampNeg = 15 then σ
  else if aI σ 19 c.toNatClampNeg = 8 ∨ aI σ 19 c.toNatClampNeg = 12 then beS (sI (sM σ 102 (vp_updL (aL σ 102) (gI σ 100).toNatClampNeg (gL σ 94))) 100 (gI σ 100 + 1)) (gL σ 93)
  else if aI σ 19 c.toNatClampNeg = 9 then sL (sI σ 100 (gI σ 100 - 1)) 94 (gL σ 94 &&& aL σ 102 (gI σ 100 - 1).toNatClampNeg)
  else if aI σ 19 c.toNatClampNeg = 10 then beS (sI (sM σ 101 (vp_updL (aL σ 101) (gI σ 100).toNatClampNeg (gL σ 93))) 100 (gI σ 100 + 1)) (gL σ 94)
  else if aI σ 19 c.toNatClampNeg = 11 then sL (sI σ 100 (gI σ 100 - 1)) 93 (gL σ 93 &&& aL σ 101 (gI σ 100 - 1).toNatClampNeg)
  else if aI σ 19 c.toNatClampNeg = 13 then beS (sM (sM σ 101 (vp_updL (aL σ 101) (gI σ 100 - 1).toNatClampNeg (gL σ 93))) 102 (vp_updL (aL σ 102) (gI σ 100 - 1).toNatClampNeg (gL σ 94))) (aL σ 102 (gI σ 100 - 1).toNatClampNeg)
  else if aI σ 19 c.toNatClampNeg = 14 then (fun Y => if aI σ 81 c.toNatClampNeg = 0 then Y else beS Y (nowR Y)) (sL (sL (sI σ 100 (gI σ 100 - 1)) 93 (gL σ 93 &&& aL σ 101 (gI σ 100 - 1).toNatClampNeg)) 94 (gL σ 94 &&& aL σ 102 (gI σ 100 - 1).toNatClampNeg))
  else if aI σ 19 c.toNatClampNeg = 17 then beS σ (nowR σ ||| 1 <<< ((aI σ 83 c.toNatClampNeg).toInt64 &&& 63))
  else sidS σ c
/-- whether it takes a value that is not surely there -/
def uvR (σ : RS) (c : Int32) : Prop :=
  (aI σ 19 c.toNatClampNeg = 2 ∧ ¬ (¬ aI σ 45 (aI σ 83 c.toNatClampNeg).toNatClampNeg = 0 ∧ ¬ aI σ 86 (aI σ 83 c.toNatClampNeg).toNatClampNeg = 0) ∧ ¬ bitR (nowR σ) (aI σ 83 c.toNatClampNeg)) ∨
  ((aI σ 19 c.toNatClampNeg = 3 ∨ aI σ 19 c.toNatClampNeg = 4) ∧ ¬ bitR (nowR σ) (aI σ 83 c.toNatClampNeg)) ∨
  (aI σ 19 c.toNatClampNeg = 16 ∧ ¬ bitR (nowR σ) (aI σ 80 (aI σ 22 c.toNatClampNeg).toNatClampNeg))
theorem un_id {σ : RS} : unS σ (gI σ 114) (gI σ 115) = σ := by sorry
def Pv_now : UP1 := fun A1 σ => match A1 with
  | [] => True
  | _ => False
def Qv_now : UQ1 := fun A1 σ w τ => match A1 with
  | [] => σ = τ ∧ w = some (.long (nowR σ))
  | _ => False
def Qw_now : UQ1 := fun A1 σ w τ => Pv_now A1 σ → Qv_now A1 σ w τ
set_option maxRecDepth 100000 in
set_option maxHeartbeats 4000000 in
theorem v_now : UMet 111 (Pv_now) (Qv_now) := by sorry
theorem w_now : UMet 111 (fun _ _ => True) Qw_now := fun A1 σ _ w τ h hP => v_now A1 σ hP w τ h
def Pv_be : UP1 := fun A1 σ => match A1 with
  | [.long bits] => True
  | _ => False
def Qv_be : UQ1 := fun A1 σ w τ => match A1 with
  | [.long bits] => w = none ∧ τ = beS σ bits
  | _ => False
def Qw_be : UQ1 := fun A1 σ w τ => Pv_be A1 σ → Qv_be A1 σ w τ
set_option maxRecDepth 100000 in
set_option maxHeartbeats 4000000 in
theorem v_be : UMet 112 (Pv_be) (Qv_be) := by sorry
theorem w_be : UMet 112 (fun _ _ => True) Qw_be := fun A1 σ _ w τ h hP => v_be A1 σ hP w τ h
def Pv_lateErr : UP1 := fun A1 σ => match A1 with
  | [.int what, .int token] => ¬ what = 0
  | _ => False
def Qv_lateErr : UQ1 := fun A1 σ w τ => match A1 with
  | [.int what, .int token] => w = none ∧ ∃ u p : Int32, ¬ u = 0 ∧ τ = sI (sI σ 112 u) 113 p
  | _ => False
def Qw_lateErr : UQ1 := fun A1 σ w τ => Pv_lateErr A1 σ → Qv_lateErr A1 σ w τ
set_option maxRecDepth 100000 in
set_option maxHeartbeats 4000000 in
theorem v_lateErr : UMet 110 (Pv_lateErr) (Qv_lateErr) := by sorry
theorem w_lateErr : UMet 110 (fun _ _ => True) Qw_lateErr := fun A1 σ _ w τ h hP => v_lateErr A1 σ hP w τ h
def Pv_value : UP1 := fun A1 σ => match A1 with
  | [.int t, .int v] => True
  | _ => False
def Qv_value : UQ1 := fun A1 σ w τ => match A1 with
  | [.int t, .int v] => w = none ∧ ∃ u p : Int32, (¬ u = 0 ↔ (¬ gI σ 114 = 0 ∨ ¬ bitR (nowR σ) v)) ∧ τ = unS σ u p
  | _ => False
def Qw_value : UQ1 := fun A1 σ w τ => Pv_value A1 σ → Qv_value A1 σ w τ
set_option maxRecDepth 100000 in
set_option maxHeartbeats 4000000 in
theorem v_value : UMet 115 (Pv_value) (Qv_value) := by sorry
theorem w_value : UMet 115 (fun _ _ => True) Qw_value := fun A1 σ _ w τ h hP => v_value A1 σ hP w τ h
def Pv_sided : UP1 := fun A1 σ => match A1 with
  | [.int c] => True
  | _ => False
def Qv_sided : UQ1 := fun A1 σ w τ => match A1 with
  | [.int c] => w = none ∧ τ = sidS σ c
  | _ => False
def Qw_sided : UQ1 := fun A1 σ w τ => Pv_sided A1 σ → Qv_sided A1 σ w τ
set_option maxRecDepth 100000 in
set_option maxHeartbeats 4000000 in
theorem v_sided : UMet 116 (Pv_sided) (Qv_sided) := by sorry
theorem w_sided : UMet 116 (fun _ _ => True) Qw_sided := fun A1 σ _ w τ h hP => v_sided A1 σ hP w τ h
def Pv_findAt : UP1 := fun A1 σ => match A1 with
  | [.int c] => True
  | _ => False
def Qv_findAt : UQ1 := fun A1 σ w τ => match A1 with
  | [.int c] => σ = τ ∧ ∃ r : Int32, w = some (.int r) ∧ r = aI σ 80 (aI σ 22 c.toNatClampNeg).toNatClampNeg
  | _ => False
def Qw_findAt : UQ1 := fun A1 σ w τ => Pv_findAt A1 σ → Qv_findAt A1 σ w τ
set_option maxRecDepth 100000 in
set_option maxHeartbeats 4000000 in
theorem v_findAt : UMet 118 (Pv_findAt) (Qv_findAt) := by sorry
theorem w_findAt : UMet 118 (fun _ _ => True) Qw_findAt := fun A1 σ _ w τ h hP => v_findAt A1 σ hP w τ h
def Pv_dead : UP1 := fun A1 σ => match A1 with
  | [] => True
  | _ => False
def Qv_dead : UQ1 := fun A1 σ w τ => match A1 with
  | [] => w = none ∧ τ = beS (sI σ 92 0) (Int64.ofInt (-1))
  | _ => False
def Qw_dead : UQ1 := fun A1 σ w τ => Pv_dead A1 σ → Qv_dead A1 σ w τ
set_option maxRecDepth 100000 in
set_option maxHeartbeats 4000000 in
theorem v_dead : UMet 120 (Pv_dead) (Qv_dead) := by sorry
theorem w_dead : UMet 120 (fun _ _ => True) Qw_dead := fun A1 σ _ w τ h hP => v_dead A1 σ hP w τ h
def Pv_flowExp : UP1 := fun A1 σ => match A1 with
  | [.int c] => True
  | _ => False
def Qv_flowExp : UQ1 := fun A1 σ w τ => match A1 with
  | [.int c] => w = none ∧ ∃ u p : Int32, (¬ u = 0 ↔ (¬ gI σ 114 = 0 ∨ uvR σ c)) ∧ τ = fxS (unS σ u p) c
  | _ => False
def Qw_flowExp : UQ1 := fun A1 σ w τ => Pv_flowExp A1 σ → Qv_flowExp A1 σ w τ
set_option maxRecDepth 100000 in
set_option maxHeartbeats 4000000 in
theorem v_flowExp : UMet 117 (Pv_flowExp) (Qv_flowExp) := by sorry
theorem w_flowExp : UMet 117 (fun _ _ => True) Qw_flowExp := fun A1 σ _ w τ h hP => v_flowExp A1 σ hP w τ h
/-! the reference's flow: where methods begin, what comes by jumps, a finally's end -/
theorem sI_2 {σ : RS} {k : Nat} {v w : Int32} : sI (sI σ k v) k w = sI σ k w := by sorry
theorem sM_2 {σ : RS} {k : Nat} {f g : Nat → Int64} : sM (sM σ k f) k g = sM σ k g := by sorry
theorem sM_i {σ : RS} {k : Nat} : sM σ k (aL σ k) = σ := by sorry
/-- params of method m, the first k variables -/
def stB (σ : RS) (m : Int32) : Nat → Int64
  | 0 => 0
  | k + 1 => if m < gI σ 36 ∧ aI σ 46 k = m ∧ Int32.ofInt k < aI σ 40 m.toNatClampNeg + aI σ 39 m.toNatClampNeg then stB σ m k ||| 1 <<< ((Int32.ofInt k).toInt64 &&& 63) else stB σ m k
/-- what comes to thing k by the first j jumps: bits, whether one is alive, where the jumps lead to then -/
def coF (σ : RS) (k on : Int32) : Nat → Int64 × Int32 × (Nat → Int32)
  | 0 => (Int64.ofInt (-1), 0, aI σ 104)
  | j + 1 => if (coF σ k on j).2.2 j = k ∧ aI σ 105 j = on then ((coF σ k on j).1 &&& aL σ 108 j, if ¬ (coF σ k on j).2.1 = 0 ∨ ¬ aI σ 107 j = 0 then 1 else 0, upd (coF σ k on j).2.2 j (-5)) else coF σ k on j
def coS (σ : RS) (k on : Int32) (n : Nat) : RS := sA (sI σ 116 (coF σ k on n).2.1) 104 (coF σ k on n).2.2
/-- jumps through thing k's finally: alive, bits of the first j -/
def enF (σ : RS) (k : Int32) : Nat → (Nat → Int32) × (Nat → Int64)
  | 0 => (aI σ 107, aL σ 108)
  | j + 1 => if 0 ≤ aI σ 104 j ∧ aI σ 51 k.toNatClampNeg ≤ aI σ 106 j ∧ aI σ 106 j ≤ aI σ 58 k.toNatClampNeg then (upd (enF σ k j).1 j (if ¬ (enF σ k j).1 j = 0 ∧ ¬ gI σ 92 = 0 then 1 else 0), vp_updL (enF σ k j).2 j (if gI σ 92 = 0 then Int64.ofInt (-1) else (enF σ k j).2 j ||| nowR σ)) else enF σ k j
def enS (σ : RS) (k : Int32) (n : Nat) : RS := sM (sA σ 107 (enF σ k n).1) 108 (enF σ k n).2
theorem i32_o {v : Int32} {k : Nat} (h : v.toInt = (k : Int)) : v = Int32.ofInt (k : Int) := by sorry
def Pv_start : UP1 := fun A1 σ => match A1 with
  | [.int m] => True
  | _ => False
def Qv_start : UQ1 := fun A1 σ w τ => match A1 with
  | [.int m] => w = none ∧ τ = beS (sI σ 92 1) (stB σ m (gI σ 42).toInt.toNat)
  | _ => False
def Qw_start : UQ1 := fun A1 σ w τ => Pv_start A1 σ → Qv_start A1 σ w τ
set_option maxRecDepth 100000 in
set_option maxHeartbeats 4000000 in
theorem v_start : UMet 114 (Pv_start) (Qv_start) := by sorry
theorem w_start : UMet 114 (fun _ _ => True) Qw_start := fun A1 σ _ w τ h hP => v_start A1 σ hP w τ h
def Pv_come : UP1 := fun A1 σ => match A1 with
  | [.int k, .int on] => True
  | _ => False
def Qv_come : UQ1 := fun A1 σ w τ => match A1 with
  | [.int k, .int on] => τ = coS σ k on (gI σ 103).toInt.toNat ∧ ∃ r : Int64, w = some (.long r) ∧ r = (coF σ k on (gI σ 103).toInt.toNat).1
  | _ => False
def Qw_come : UQ1 := fun A1 σ w τ => Pv_come A1 σ → Qv_come A1 σ w τ
set_option maxRecDepth 100000 in
set_option maxHeartbeats 4000000 in
theorem v_come : UMet 119 (Pv_come) (Qv_come) := by sorry
theorem w_come : UMet 119 (fun _ _ => True) Qw_come := fun A1 σ _ w τ h hP => v_come A1 σ hP w τ h
def Pv_ended : UP1 := fun A1 σ => match A1 with
  | [.int k] => True
  | _ => False
def Qv_ended : UQ1 := fun A1 σ w τ => match A1 with
  | [.int k] => w = none ∧ τ = enS σ k (gI σ 103).toInt.toNat
  | _ => False
def Qw_ended : UQ1 := fun A1 σ w τ => Pv_ended A1 σ → Qv_ended A1 σ w τ
set_option maxRecDepth 100000 in
set_option maxHeartbeats 4000000 in
theorem v_ended : UMet 122 (Pv_ended) (Qv_ended) := by sorry
theorem w_ended : UMet 122 (fun _ _ => True) Qw_ended := fun A1 σ _ w τ h hP => v_ended A1 σ hP w τ h
/-! the reference's flow: one code of an S -/
def laS (σ : RS) (u p : Int32) : RS := sI (sI σ 112 u) 113 p
theorem la_id {σ : RS} : laS σ (gI σ 112) (gI σ 113) = σ := by sorry
def alR (σ : RS) (c : Int32) : Int32 := if ¬ aI σ 84 c.toNatClampNeg = 0 ∧ ¬ aL σ 85 c.toNatClampNeg = 0 then 1 else 0
def neR (σ : RS) (c : Int32) : Int32 := if ¬ aI σ 84 c.toNatClampNeg = 0 ∧ aL σ 85 c.toNatClampNeg = 0 then 1 else 0
def fs_20 (σ : RS) (c : Int32) : RS × Int32 := (if (gI σ 92) = 0 then (if 0 ≤ (gI σ 117) then (if ((aI σ 109) (((aI σ 22) (c).toNatClampNeg)).toNatClampNeg) = 0 then ((sM (sA (sI σ 92 1) 109 (upd (aI σ 109) (((aI σ 22) (c).toNatClampNeg)).toNatClampNeg 1)) 110 (vp_updL (aL σ 110) (((aI σ 22) (c).toNatClampNeg)).toNatClampNeg (nowR (sA (sI σ 92 1) 109 (upd (aI σ 109) (((aI σ 22) (c).toNatClampNeg)).toNatClampNeg 1))))), (c + 1)) else ((sI σ 92 1), (c + 1))) else (if ((aI σ 109) (((aI σ 22) (c).toNatClampNeg)).toNatClampNeg) = 0 then ((sM (sA (sI (sI σ 117 c) 92 1) 109 (upd (aI σ 109) (((aI σ 22) (c).toNatClampNeg)).toNatClampNeg 1)) 110 (vp_updL (aL σ 110) (((aI σ 22) (c).toNatClampNeg)).toNatClampNeg (nowR (sA (sI (sI σ 117 c) 92 1) 109 (upd (aI σ 109) (((aI σ 22) (c).toNatClampNeg)).toNatClampNeg 1))))), (c + 1)) else ((sI (sI σ 117 c) 92 1), (c + 1)))) else (if ((aI σ 109) (((aI σ 22) (c).toNatClampNeg)).toNatClampNeg) = 0 then ((sM (sA (sI σ 92 1) 109 (upd (aI σ 109) (((aI σ 22) (c).toNatClampNeg)).toNatClampNeg 1)) 110 (vp_updL (aL σ 110) (((aI σ 22) (c).toNatClampNeg)).toNatClampNeg (nowR (sA (sI σ 92 1) 109 (upd (aI σ 109) (((aI σ 22) (c).toNatClampNeg)).toNatClampNeg 1))))), (c + 1)) else ((sI σ 92 1), (c + 1))))
def fs_21 (σ : RS) (c : Int32) : RS × Int32 := ((beS σ (nowR σ)), (c + 1))
def fs_22 (σ : RS) (c : Int32) : RS × Int32 := (if ((aI σ 21) (c).toNatClampNeg) = 1 then ((beS σ ((nowR σ) ||| ((1 : Int64) <<< ((((aI σ 20) (c).toNatClampNeg)).toInt64 &&& 63)))), (c + 1)) else ((beS σ ((nowR σ) &&& (((1 : Int64) <<< ((((aI σ 20) (c).toNatClampNeg)).toInt64 &&& 63)) ^^^ (Int64.ofInt (-1))))), (c + 1)))
def fs_23 (σ : RS) (c : Int32) : RS × Int32 := ((sI (beS (sM σ 98 (vp_updL (aL σ 98) (((aI σ 20) (c).toNatClampNeg)).toNatClampNeg (gL σ 94))) (gL σ 93)) 92 1), (c + 1))
def fs_24 (σ : RS) (c : Int32) : RS × Int32 := ((sI (beS (sM (sA σ 95 (upd (aI σ 95) (((aI σ 20) (c).toNatClampNeg)).toNatClampNeg (gI σ 92))) 96 (vp_updL (aL σ 96) (((aI σ 20) (c).toNatClampNeg)).toNatClampNeg (nowR (sA σ 95 (upd (aI σ 95) (((aI σ 20) (c).toNatClampNeg)).toNatClampNeg (gI σ 92)))))) ((aL σ 98) (((aI σ 20) (c).toNatClampNeg)).toNatClampNeg)) 92 1), (c + 1))
def fs_25 (σ : RS) (c : Int32) : RS × Int32 := (if ((aI σ 56) (((aI σ 20) (c).toNatClampNeg)).toNatClampNeg) < 0 then ((sI (beS σ ((nowR σ) &&& ((aL σ 98) (((aI σ 20) (c).toNatClampNeg)).toNatClampNeg))) 92 1), (c + 1)) else (if (gI (beS σ ((nowR σ) &&& ((aL σ 96) (((aI σ 20) (c).toNatClampNeg)).toNatClampNeg))) 92) = 0 then (if ((aI (beS σ ((nowR σ) &&& ((aL σ 96) (((aI σ 20) (c).toNatClampNeg)).toNatClampNeg))) 95) (((aI σ 20) (c).toNatClampNeg)).toNatClampNeg) = 0 then ((sI (beS σ ((nowR σ) &&& ((aL σ 96) (((aI σ 20) (c).toNatClampNeg)).toNatClampNeg))) 92 0), (c + 1)) else ((sI (beS σ ((nowR σ) &&& ((aL σ 96) (((aI σ 20) (c).toNatClampNeg)).toNatClampNeg))) 92 1), (c + 1))) else ((sI (beS σ ((nowR σ) &&& ((aL σ 96) (((aI σ 20) (c).toNatClampNeg)).toNatClampNeg))) 92 1), (c + 1))))
def fs_27 (σ : RS) (c : Int32) : RS × Int32 := (if (neR σ c) = 0 then ((sI (beS (sA (sM σ 98 (vp_updL (aL σ 98) (((aI σ 20) (c).toNatClampNeg)).toNatClampNeg (gL σ 94))) 97 (upd (aI σ 97) (((aI σ 20) (c).toNatClampNeg)).toNatClampNeg (alR σ c))) (gL σ 93)) 92 1), (c + 1)) else ((sI (beS (sA (sM σ 98 (vp_updL (aL σ 98) (((aI σ 20) (c).toNatClampNeg)).toNatClampNeg (gL σ 94))) 97 (upd (aI σ 97) (((aI σ 20) (c).toNatClampNeg)).toNatClampNeg (alR σ c))) (gL σ 93)) 92 0), (c + 1)))
def fs_28 (σ : RS) (c : Int32) : RS × Int32 := (if ((aI (beS (coS (coS σ ((aI σ 20) (c).toNatClampNeg) 1 (gI σ 103).toInt.toNat) ((aI σ 20) (c).toNatClampNeg) 0 (gI (coS σ ((aI σ 20) (c).toNatClampNeg) 1 (gI σ 103).toInt.toNat) 103).toInt.toNat) (((aL (coS σ ((aI σ 20) (c).toNatClampNeg) 1 (gI σ 103).toInt.toNat) 98) (((aI σ 20) (c).toNatClampNeg)).toNatClampNeg) &&& (coF (coS σ ((aI σ 20) (c).toNatClampNeg) 1 (gI σ 103).toInt.toNat) ((aI σ 20) (c).toNatClampNeg) 0 (gI (coS σ ((aI σ 20) (c).toNatClampNeg) 1 (gI σ 103).toInt.toNat) 103).toInt.toNat).1)) 97) (((aI σ 20) (c).toNatClampNeg)).toNatClampNeg) = 0 then ((sI (beS (coS (coS σ ((aI σ 20) (c).toNatClampNeg) 1 (gI σ 103).toInt.toNat) ((aI σ 20) (c).toNatClampNeg) 0 (gI (coS σ ((aI σ 20) (c).toNatClampNeg) 1 (gI σ 103).toInt.toNat) 103).toInt.toNat) (((aL (coS σ ((aI σ 20) (c).toNatClampNeg) 1 (gI σ 103).toInt.toNat) 98) (((aI σ 20) (c).toNatClampNeg)).toNatClampNeg) &&& (coF (coS σ ((aI σ 20) (c).toNatClampNeg) 1 (gI σ 103).toInt.toNat) ((aI σ 20) (c).toNatClampNeg) 0 (gI (coS σ ((aI σ 20) (c).toNatClampNeg) 1 (gI σ 103).toInt.toNat) 103).toInt.toNat).1)) 92 1), (c + 1)) else (if (gI (beS (coS (coS σ ((aI σ 20) (c).toNatClampNeg) 1 (gI σ 103).toInt.toNat) ((aI σ 20) (c).toNatClampNeg) 0 (gI (coS σ ((aI σ 20) (c).toNatClampNeg) 1 (gI σ 103).toInt.toNat) 103).toInt.toNat) (((aL (coS σ ((aI σ 20) (c).toNatClampNeg) 1 (gI σ 103).toInt.toNat) 98) (((aI σ 20) (c).toNatClampNeg)).toNatClampNeg) &&& (coF (coS σ ((aI σ 20) (c).toNatClampNeg) 1 (gI σ 103).toInt.toNat) ((aI σ 20) (c).toNatClampNeg) 0 (gI (coS σ ((aI σ 20) (c).toNatClampNeg) 1 (gI σ 103).toInt.toNat) 103).toInt.toNat).1)) 116) = 0 then ((sI (beS (coS (coS σ ((aI σ 20) (c).toNatClampNeg) 1 (gI σ 103).toInt.toNat) ((aI σ 20) (c).toNatClampNeg) 0 (gI (coS σ ((aI σ 20) (c).toNatClampNeg) 1 (gI σ 103).toInt.toNat) 103).toInt.toNat) (((aL (coS σ ((aI σ 20) (c).toNatClampNeg) 1 (gI σ 103).toInt.toNat) 98) (((aI σ 20) (c).toNatClampNeg)).toNatClampNeg) &&& (coF (coS σ ((aI σ 20) (c).toNatClampNeg) 1 (gI σ 103).toInt.toNat) ((aI σ 20) (c).toNatClampNeg) 0 (gI (coS σ ((aI σ 20) (c).toNatClampNeg) 1 (gI σ 103).toInt.toNat) 103).toInt.toNat).1)) 92 0), (c + 1)) else ((sI (beS (coS (coS σ ((aI σ 20) (c).toNatClampNeg) 1 (gI σ 103).toInt.toNat) ((aI σ 20) (c).toNatClampNeg) 0 (gI (coS σ ((aI σ 20) (c).toNatClampNeg) 1 (gI σ 103).toInt.toNat) 103).toInt.toNat) (((aL (coS σ ((aI σ 20) (c).toNatClampNeg) 1 (gI σ 103).toInt.toNat) 98) (((aI σ 20) (c).toNatClampNeg)).toNatClampNeg) &&& (coF (coS σ ((aI σ 20) (c).toNatClampNeg) 1 (gI σ 103).toInt.toNat) ((aI σ 20) (c).toNatClampNeg) 0 (gI (coS σ ((aI σ 20) (c).toNatClampNeg) 1 (gI σ 103).toInt.toNat) 103).toInt.toNat).1)) 92 1), (c + 1))))
def fs_30 (σ : RS) (c : Int32) : RS × Int32 := (if (gI (beS (coS σ ((aI σ 20) (c).toNatClampNeg) 1 (gI σ 103).toInt.toNat) ((nowR σ) &&& (coF σ ((aI σ 20) (c).toNatClampNeg) 1 (gI σ 103).toInt.toNat).1)) 92) = 0 then (if (gI (beS (coS σ ((aI σ 20) (c).toNatClampNeg) 1 (gI σ 103).toInt.toNat) ((nowR σ) &&& (coF σ ((aI σ 20) (c).toNatClampNeg) 1 (gI σ 103).toInt.toNat).1)) 116) = 0 then ((sA (beS (coS σ ((aI σ 20) (c).toNatClampNeg) 1 (gI σ 103).toInt.toNat) ((nowR σ) &&& (coF σ ((aI σ 20) (c).toNatClampNeg) 1 (gI σ 103).toInt.toNat).1)) 95 (upd (aI (beS (coS σ ((aI σ 20) (c).toNatClampNeg) 1 (gI σ 103).toInt.toNat) ((nowR σ) &&& (coF σ ((aI σ 20) (c).toNatClampNeg) 1 (gI σ 103).toInt.toNat).1)) 95) (((aI σ 20) (c).toNatClampNeg)).toNatClampNeg 0)), (c + 1)) else ((sA (beS (coS σ ((aI σ 20) (c).toNatClampNeg) 1 (gI σ 103).toInt.toNat) ((nowR σ) &&& (coF σ ((aI σ 20) (c).toNatClampNeg) 1 (gI σ 103).toInt.toNat).1)) 95 (upd (aI (beS (coS σ ((aI σ 20) (c).toNatClampNeg) 1 (gI σ 103).toInt.toNat) ((nowR σ) &&& (coF σ ((aI σ 20) (c).toNatClampNeg) 1 (gI σ 103).toInt.toNat).1)) 95) (((aI σ 20) (c).toNatClampNeg)).toNatClampNeg 1)), (c + 1))) else ((sA (beS (coS σ ((aI σ 20) (c).toNatClampNeg) 1 (gI σ 103).toInt.toNat) ((nowR σ) &&& (coF σ ((aI σ 20) (c).toNatClampNeg) 1 (gI σ 103).toInt.toNat).1)) 95 (upd (aI (beS (coS σ ((aI σ 20) (c).toNatClampNeg) 1 (gI σ 103).toInt.toNat) ((nowR σ) &&& (coF σ ((aI σ 20) (c).toNatClampNeg) 1 (gI σ 103).toInt.toNat).1)) 95) (((aI σ 20) (c).toNatClampNeg)).toNatClampNeg 1)), (c + 1)))
def fs_31 (σ : RS) (c : Int32) : RS × Int32 := (if ((aI (beS (coS σ ((aI σ 20) (c).toNatClampNeg) 0 (gI σ 103).toInt.toNat) ((gL σ 94) &&& (coF σ ((aI σ 20) (c).toNatClampNeg) 0 (gI σ 103).toInt.toNat).1)) 95) (((aI σ 20) (c).toNatClampNeg)).toNatClampNeg) = 0 then (if (gI (beS (coS σ ((aI σ 20) (c).toNatClampNeg) 0 (gI σ 103).toInt.toNat) ((gL σ 94) &&& (coF σ ((aI σ 20) (c).toNatClampNeg) 0 (gI σ 103).toInt.toNat).1)) 116) = 0 then ((sI (beS (coS σ ((aI σ 20) (c).toNatClampNeg) 0 (gI σ 103).toInt.toNat) ((gL σ 94) &&& (coF σ ((aI σ 20) (c).toNatClampNeg) 0 (gI σ 103).toInt.toNat).1)) 92 0), (c + 1)) else ((sI (beS (coS σ ((aI σ 20) (c).toNatClampNeg) 0 (gI σ 103).toInt.toNat) ((gL σ 94) &&& (coF σ ((aI σ 20) (c).toNatClampNeg) 0 (gI σ 103).toInt.toNat).1)) 92 1), (c + 1))) else (if (alR σ c) = 0 then ((sI (beS (coS σ ((aI σ 20) (c).toNatClampNeg) 0 (gI σ 103).toInt.toNat) ((gL σ 94) &&& (coF σ ((aI σ 20) (c).toNatClampNeg) 0 (gI σ 103).toInt.toNat).1)) 92 1), (c + 1)) else (if (gI (beS (coS σ ((aI σ 20) (c).toNatClampNeg) 0 (gI σ 103).toInt.toNat) ((gL σ 94) &&& (coF σ ((aI σ 20) (c).toNatClampNeg) 0 (gI σ 103).toInt.toNat).1)) 116) = 0 then ((sI (beS (coS σ ((aI σ 20) (c).toNatClampNeg) 0 (gI σ 103).toInt.toNat) ((gL σ 94) &&& (coF σ ((aI σ 20) (c).toNatClampNeg) 0 (gI σ 103).toInt.toNat).1)) 92 0), (c + 1)) else ((sI (beS (coS σ ((aI σ 20) (c).toNatClampNeg) 0 (gI σ 103).toInt.toNat) ((gL σ 94) &&& (coF σ ((aI σ 20) (c).toNatClampNeg) 0 (gI σ 103).toInt.toNat).1)) 92 1), (c + 1)))))
def fs_33 (σ : RS) (c : Int32) : RS × Int32 := (if ((aI σ 21) (c).toNatClampNeg) = 0 then (if (neR σ c) = 0 then ((sA (sI (beS (sA (sM (sL σ 94 (Int64.ofInt (-1))) 98 (vp_updL (aL σ 98) (((aI σ 20) (c).toNatClampNeg)).toNatClampNeg (Int64.ofInt (-1)))) 97 (upd (aI σ 97) (((aI σ 20) (c).toNatClampNeg)).toNatClampNeg (alR σ c))) (gL σ 93)) 92 1) 95 (upd (aI (beS (sA (sM (sL σ 94 (Int64.ofInt (-1))) 98 (vp_updL (aL σ 98) (((aI σ 20) (c).toNatClampNeg)).toNatClampNeg (Int64.ofInt (-1)))) 97 (upd (aI σ 97) (((aI σ 20) (c).toNatClampNeg)).toNatClampNeg (alR σ c))) (gL σ 93)) 95) (((aI σ 20) (c).toNatClampNeg)).toNatClampNeg 0)), ((aI (beS (sA (sM (sL σ 94 (Int64.ofInt (-1))) 98 (vp_updL (aL σ 98) (((aI σ 20) (c).toNatClampNeg)).toNatClampNeg (Int64.ofInt (-1)))) 97 (upd (aI σ 97) (((aI σ 20) (c).toNatClampNeg)).toNatClampNeg (alR σ c))) (gL σ 93)) 54) (((aI σ 20) (c).toNatClampNeg)).toNatClampNeg)) else ((sA (sI (beS (sA (sM (sL σ 94 (Int64.ofInt (-1))) 98 (vp_updL (aL σ 98) (((aI σ 20) (c).toNatClampNeg)).toNatClampNeg (Int64.ofInt (-1)))) 97 (upd (aI σ 97) (((aI σ 20) (c).toNatClampNeg)).toNatClampNeg (alR σ c))) (gL σ 93)) 92 0) 95 (upd (aI (beS (sA (sM (sL σ 94 (Int64.ofInt (-1))) 98 (vp_updL (aL σ 98) (((aI σ 20) (c).toNatClampNeg)).toNatClampNeg (Int64.ofInt (-1)))) 97 (upd (aI σ 97) (((aI σ 20) (c).toNatClampNeg)).toNatClampNeg (alR σ c))) (gL σ 93)) 95) (((aI σ 20) (c).toNatClampNeg)).toNatClampNeg 0)), ((aI (beS (sA (sM (sL σ 94 (Int64.ofInt (-1))) 98 (vp_updL (aL σ 98) (((aI σ 20) (c).toNatClampNeg)).toNatClampNeg (Int64.ofInt (-1)))) 97 (upd (aI σ 97) (((aI σ 20) (c).toNatClampNeg)).toNatClampNeg (alR σ c))) (gL σ 93)) 54) (((aI σ 20) (c).toNatClampNeg)).toNatClampNeg))) else (if (neR σ c) = 0 then ((sA (sI (beS (sA (sM σ 98 (vp_updL (aL σ 98) (((aI σ 20) (c).toNatClampNeg)).toNatClampNeg (gL σ 94))) 97 (upd (aI σ 97) (((aI σ 20) (c).toNatClampNeg)).toNatClampNeg (alR σ c))) (gL σ 93)) 92 1) 95 (upd (aI (beS (sA (sM σ 98 (vp_updL (aL σ 98) (((aI σ 20) (c).toNatClampNeg)).toNatClampNeg (gL σ 94))) 97 (upd (aI σ 97) (((aI σ 20) (c).toNatClampNeg)).toNatClampNeg (alR σ c))) (gL σ 93)) 95) (((aI σ 20) (c).toNatClampNeg)).toNatClampNeg 0)), ((aI (beS (sA (sM σ 98 (vp_updL (aL σ 98) (((aI σ 20) (c).toNatClampNeg)).toNatClampNeg (gL σ 94))) 97 (upd (aI σ 97) (((aI σ 20) (c).toNatClampNeg)).toNatClampNeg (alR σ c))) (gL σ 93)) 54) (((aI σ 20) (c).toNatClampNeg)).toNatClampNeg)) else ((sA (sI (beS (sA (sM σ 98 (vp_updL (aL σ 98) (((aI σ 20) (c).toNatClampNeg)).toNatClampNeg (gL σ 94))) 97 (upd (aI σ 97) (((aI σ 20) (c).toNatClampNeg)).toNatClampNeg (alR σ c))) (gL σ 93)) 92 0) 95 (upd (aI (beS (sA (sM σ 98 (vp_updL (aL σ 98) (((aI σ 20) (c).toNatClampNeg)).toNatClampNeg (gL σ 94))) 97 (upd (aI σ 97) (((aI σ 20) (c).toNatClampNeg)).toNatClampNeg (alR σ c))) (gL σ 93)) 95) (((aI σ 20) (c).toNatClampNeg)).toNatClampNeg 0)), ((aI (beS (sA (sM σ 98 (vp_updL (aL σ 98) (((aI σ 20) (c).toNatClampNeg)).toNatClampNeg (gL σ 94))) 97 (upd (aI σ 97) (((aI σ 20) (c).toNatClampNeg)).toNatClampNeg (alR σ c))) (gL σ 93)) 54) (((aI σ 20) (c).toNatClampNeg)).toNatClampNeg))))
def fs_35 (σ : RS) (c : Int32) : RS × Int32 := (if ((aI σ 95) (((aI σ 20) (c).toNatClampNeg)).toNatClampNeg) = 0 then (σ, (c + 1)) else (if ((aI (beS (coS σ ((aI σ 20) (c).toNatClampNeg) 0 (gI σ 103).toInt.toNat) (((aL σ 98) (((aI σ 20) (c).toNatClampNeg)).toNatClampNeg) &&& (coF σ ((aI σ 20) (c).toNatClampNeg) 0 (gI σ 103).toInt.toNat).1)) 97) (((aI σ 20) (c).toNatClampNeg)).toNatClampNeg) = 0 then ((sI (beS (coS σ ((aI σ 20) (c).toNatClampNeg) 0 (gI σ 103).toInt.toNat) (((aL σ 98) (((aI σ 20) (c).toNatClampNeg)).toNatClampNeg) &&& (coF σ ((aI σ 20) (c).toNatClampNeg) 0 (gI σ 103).toInt.toNat).1)) 92 1), (((aI (beS (coS σ ((aI σ 20) (c).toNatClampNeg) 0 (gI σ 103).toInt.toNat) (((aL σ 98) (((aI σ 20) (c).toNatClampNeg)).toNatClampNeg) &&& (coF σ ((aI σ 20) (c).toNatClampNeg) 0 (gI σ 103).toInt.toNat).1)) 55) (((aI σ 20) (c).toNatClampNeg)).toNatClampNeg) + 1)) else (if (gI (beS (coS σ ((aI σ 20) (c).toNatClampNeg) 0 (gI σ 103).toInt.toNat) (((aL σ 98) (((aI σ 20) (c).toNatClampNeg)).toNatClampNeg) &&& (coF σ ((aI σ 20) (c).toNatClampNeg) 0 (gI σ 103).toInt.toNat).1)) 116) = 0 then ((sI (beS (coS σ ((aI σ 20) (c).toNatClampNeg) 0 (gI σ 103).toInt.toNat) (((aL σ 98) (((aI σ 20) (c).toNatClampNeg)).toNatClampNeg) &&& (coF σ ((aI σ 20) (c).toNatClampNeg) 0 (gI σ 103).toInt.toNat).1)) 92 0), (((aI (beS (coS σ ((aI σ 20) (c).toNatClampNeg) 0 (gI σ 103).toInt.toNat) (((aL σ 98) (((aI σ 20) (c).toNatClampNeg)).toNatClampNeg) &&& (coF σ ((aI σ 20) (c).toNatClampNeg) 0 (gI σ 103).toInt.toNat).1)) 55) (((aI σ 20) (c).toNatClampNeg)).toNatClampNeg) + 1)) else ((sI (beS (coS σ ((aI σ 20) (c).toNatClampNeg) 0 (gI σ 103).toInt.toNat) (((aL σ 98) (((aI σ 20) (c).toNatClampNeg)).toNatClampNeg) &&& (coF σ ((aI σ 20) (c).toNatClampNeg) 0 (gI σ 103).toInt.toNat).1)) 92 1), (((aI (beS (coS σ ((aI σ 20) (c).toNatClampNeg) 0 (gI σ 103).toInt.toNat) (((aL σ 98) (((aI σ 20) (c).toNatClampNeg)).toNatClampNeg) &&& (coF σ ((aI σ 20) (c).toNatClampNeg) 0 (gI σ 103).toInt.toNat).1)) 55) (((aI σ 20) (c).toNatClampNeg)).toNatClampNeg) + 1)))))
def fs_36 (σ : RS) (c : Int32) : RS × Int32 := ((sA (beS (coS σ ((aI σ 20) (c).toNatClampNeg) 1 (gI σ 103).toInt.toNat) ((nowR σ) &&& (coF σ ((aI σ 20) (c).toNatClampNeg) 1 (gI σ 103).toInt.toNat).1)) 95 (upd (aI (beS (coS σ ((aI σ 20) (c).toNatClampNeg) 1 (gI σ 103).toInt.toNat) ((nowR σ) &&& (coF σ ((aI σ 20) (c).toNatClampNeg) 1 (gI σ 103).toInt.toNat).1)) 95) (((aI σ 20) (c).toNatClampNeg)).toNatClampNeg 1)), (((aI (beS (coS σ ((aI σ 20) (c).toNatClampNeg) 1 (gI σ 103).toInt.toNat) ((nowR σ) &&& (coF σ ((aI σ 20) (c).toNatClampNeg) 1 (gI σ 103).toInt.toNat).1)) 53) (((aI σ 20) (c).toNatClampNeg)).toNatClampNeg) + 1))
def fs_37 (σ : RS) (c : Int32) : RS × Int32 := ((sI (sM (beS σ (nowR σ)) 96 (vp_updL (aL (beS σ (nowR σ)) 96) (((aI σ 20) (c).toNatClampNeg)).toNatClampNeg (nowR (beS σ (nowR σ))))) 92 1), (c + 1))
def fs_38 (σ : RS) (c : Int32) : RS × Int32 := ((sI (beS σ ((nowR σ) &&& ((aL σ 96) (((aI σ 20) (c).toNatClampNeg)).toNatClampNeg))) 92 1), (c + 1))
def fs_39 (σ : RS) (c : Int32) : RS × Int32 := ((sI (beS σ ((nowR σ) &&& ((aL σ 96) (((aI σ 20) (c).toNatClampNeg)).toNatClampNeg))) 92 1), (c + 1))
def fs_40 (σ : RS) (c : Int32) : RS × Int32 := (if 0 ≤ ((aI (coS σ ((aI σ 20) (c).toNatClampNeg) 0 (gI σ 103).toInt.toNat) 59) (((aI σ 20) (c).toNatClampNeg)).toNatClampNeg) then (if (gI (beS (coS σ ((aI σ 20) (c).toNatClampNeg) 0 (gI σ 103).toInt.toNat) (((nowR σ) &&& (coF σ ((aI σ 20) (c).toNatClampNeg) 0 (gI σ 103).toInt.toNat).1) &&& (Int64.ofInt (-1)))) 92) = 0 then (if (gI (beS (coS σ ((aI σ 20) (c).toNatClampNeg) 0 (gI σ 103).toInt.toNat) (((nowR σ) &&& (coF σ ((aI σ 20) (c).toNatClampNeg) 0 (gI σ 103).toInt.toNat).1) &&& (Int64.ofInt (-1)))) 116) = 0 then (if 0 ≤ ((aI (beS (coS σ ((aI σ 20) (c).toNatClampNeg) 0 (gI σ 103).toInt.toNat) (((nowR σ) &&& (coF σ ((aI σ 20) (c).toNatClampNeg) 0 (gI σ 103).toInt.toNat).1) &&& (Int64.ofInt (-1)))) 59) (((aI σ 20) (c).toNatClampNeg)).toNatClampNeg) then ((sI (beS (coS σ ((aI σ 20) (c).toNatClampNeg) 0 (gI σ 103).toInt.toNat) (((nowR σ) &&& (coF σ ((aI σ 20) (c).toNatClampNeg) 0 (gI σ 103).toInt.toNat).1) &&& (Int64.ofInt (-1)))) 92 0), (c + 1)) else ((sI (beS (coS σ ((aI σ 20) (c).toNatClampNeg) 0 (gI σ 103).toInt.toNat) (((nowR σ) &&& (coF σ ((aI σ 20) (c).toNatClampNeg) 0 (gI σ 103).toInt.toNat).1) &&& (Int64.ofInt (-1)))) 92 1), (c + 1))) else ((sI (beS (coS σ ((aI σ 20) (c).toNatClampNeg) 0 (gI σ 103).toInt.toNat) (((nowR σ) &&& (coF σ ((aI σ 20) (c).toNatClampNeg) 0 (gI σ 103).toInt.toNat).1) &&& (Int64.ofInt (-1)))) 92 1), (c + 1))) else ((sI (beS (coS σ ((aI σ 20) (c).toNatClampNeg) 0 (gI σ 103).toInt.toNat) (((nowR σ) &&& (coF σ ((aI σ 20) (c).toNatClampNeg) 0 (gI σ 103).toInt.toNat).1) &&& (Int64.ofInt (-1)))) 92 1), (c + 1))) else (if (gI (beS (coS σ ((aI σ 20) (c).toNatClampNeg) 0 (gI σ 103).toInt.toNat) (((nowR σ) &&& (coF σ ((aI σ 20) (c).toNatClampNeg) 0 (gI σ 103).toInt.toNat).1) &&& ((aL (coS σ ((aI σ 20) (c).toNatClampNeg) 0 (gI σ 103).toInt.toNat) 96) (((aI σ 20) (c).toNatClampNeg)).toNatClampNeg))) 92) = 0 then (if (gI (beS (coS σ ((aI σ 20) (c).toNatClampNeg) 0 (gI σ 103).toInt.toNat) (((nowR σ) &&& (coF σ ((aI σ 20) (c).toNatClampNeg) 0 (gI σ 103).toInt.toNat).1) &&& ((aL (coS σ ((aI σ 20) (c).toNatClampNeg) 0 (gI σ 103).toInt.toNat) 96) (((aI σ 20) (c).toNatClampNeg)).toNatClampNeg))) 116) = 0 then (if 0 ≤ ((aI (beS (coS σ ((aI σ 20) (c).toNatClampNeg) 0 (gI σ 103).toInt.toNat) (((nowR σ) &&& (coF σ ((aI σ 20) (c).toNatClampNeg) 0 (gI σ 103).toInt.toNat).1) &&& ((aL (coS σ ((aI σ 20) (c).toNatClampNeg) 0 (gI σ 103).toInt.toNat) 96) (((aI σ 20) (c).toNatClampNeg)).toNatClampNeg))) 59) (((aI σ 20) (c).toNatClampNeg)).toNatClampNeg) then ((sI (beS (coS σ ((aI σ 20) (c).toNatClampNeg) 0 (gI σ 103).toInt.toNat) (((nowR σ) &&& (coF σ ((aI σ 20) (c).toNatClampNeg) 0 (gI σ 103).toInt.toNat).1) &&& ((aL (coS σ ((aI σ 20) (c).toNatClampNeg) 0 (gI σ 103).toInt.toNat) 96) (((aI σ 20) (c).toNatClampNeg)).toNatClampNeg))) 92 0), (c + 1)) else ((sI (beS (coS σ ((aI σ 20) (c).toNatClampNeg) 0 (gI σ 103).toInt.toNat) (((nowR σ) &&& (coF σ ((aI σ 20) (c).toNatClampNeg) 0 (gI σ 103).toInt.toNat).1) &&& ((aL (coS σ ((aI σ 20) (c).toNatClampNeg) 0 (gI σ 103).toInt.toNat) 96) (((aI σ 20) (c).toNatClampNeg)).toNatClampNeg))) 92 1), (c + 1))) else ((sI (beS (coS σ ((aI σ 20) (c).toNatClampNeg) 0 (gI σ 103).toInt.toNat) (((nowR σ) &&& (coF σ ((aI σ 20) (c).toNatClampNeg) 0 (gI σ 103).toInt.toNat).1) &&& ((aL (coS σ ((aI σ 20) (c).toNatClampNeg) 0 (gI σ 103).toInt.toNat) 96) (((aI σ 20) (c).toNatClampNeg)).toNatClampNeg))) 92 1), (c + 1))) else ((sI (beS (coS σ ((aI σ 20) (c).toNatClampNeg) 0 (gI σ 103).toInt.toNat) (((nowR σ) &&& (coF σ ((aI σ 20) (c).toNatClampNeg) 0 (gI σ 103).toInt.toNat).1) &&& ((aL (coS σ ((aI σ 20) (c).toNatClampNeg) 0 (gI σ 103).toInt.toNat) 96) (((aI σ 20) (c).toNatClampNeg)).toNatClampNeg))) 92 1), (c + 1))))
def fs_42 (σ : RS) (c : Int32) : RS × Int32 := (if (gI (beS (coS σ ((aI σ 20) (c).toNatClampNeg) 0 (gI σ 103).toInt.toNat) ((nowR σ) &&& (coF σ ((aI σ 20) (c).toNatClampNeg) 0 (gI σ 103).toInt.toNat).1)) 92) = 0 then (if (gI (beS (coS σ ((aI σ 20) (c).toNatClampNeg) 0 (gI σ 103).toInt.toNat) ((nowR σ) &&& (coF σ ((aI σ 20) (c).toNatClampNeg) 0 (gI σ 103).toInt.toNat).1)) 116) = 0 then ((sI (beS (coS σ ((aI σ 20) (c).toNatClampNeg) 0 (gI σ 103).toInt.toNat) ((nowR σ) &&& (coF σ ((aI σ 20) (c).toNatClampNeg) 0 (gI σ 103).toInt.toNat).1)) 92 0), (c + 1)) else ((sI (beS (coS σ ((aI σ 20) (c).toNatClampNeg) 0 (gI σ 103).toInt.toNat) ((nowR σ) &&& (coF σ ((aI σ 20) (c).toNatClampNeg) 0 (gI σ 103).toInt.toNat).1)) 92 1), (c + 1))) else ((sI (beS (coS σ ((aI σ 20) (c).toNatClampNeg) 0 (gI σ 103).toInt.toNat) ((nowR σ) &&& (coF σ ((aI σ 20) (c).toNatClampNeg) 0 (gI σ 103).toInt.toNat).1)) 92 1), (c + 1)))
def fs_45 (σ : RS) (c : Int32) : RS × Int32 := (if (gI σ 117) = ((aI σ 20) (c).toNatClampNeg) then ((sA (sI (sI σ 117 (-2)) 92 0) 111 (upd (aI σ 111) (((aI σ 22) (c).toNatClampNeg)).toNatClampNeg 0)), (c + 1)) else ((sA σ 111 (upd (aI σ 111) (((aI σ 22) (c).toNatClampNeg)).toNatClampNeg (gI σ 92))), (c + 1)))
def fs_46 (σ : RS) (c : Int32) : RS × Int32 := (if ((aI σ 19) (c).toNatClampNeg) = 47 then (if (gI σ 92) = 0 then ((beS (sI (sI (sM (sA (sA (sA (sA σ 104 (upd (aI σ 104) ((gI σ 103)).toNatClampNeg ((aI σ 20) (c).toNatClampNeg))) 105 (upd (aI σ 105) ((gI σ 103)).toNatClampNeg 1)) 106 (upd (aI σ 106) ((gI σ 103)).toNatClampNeg c)) 107 (upd (aI σ 107) ((gI σ 103)).toNatClampNeg 0)) 108 (vp_updL (aL σ 108) ((gI σ 103)).toNatClampNeg (nowR (sA (sA (sA (sA σ 104 (upd (aI σ 104) ((gI σ 103)).toNatClampNeg ((aI σ 20) (c).toNatClampNeg))) 105 (upd (aI σ 105) ((gI σ 103)).toNatClampNeg 1)) 106 (upd (aI σ 106) ((gI σ 103)).toNatClampNeg c)) 107 (upd (aI σ 107) ((gI σ 103)).toNatClampNeg 0))))) 103 ((gI σ 103) + 1)) 92 0) (Int64.ofInt (-1))), (c + 1)) else (if 0 ≤ (gI σ 117) then ((beS (sI (sI (sM (sA (sA (sA (sA σ 104 (upd (aI σ 104) ((gI σ 103)).toNatClampNeg ((aI σ 20) (c).toNatClampNeg))) 105 (upd (aI σ 105) ((gI σ 103)).toNatClampNeg 1)) 106 (upd (aI σ 106) ((gI σ 103)).toNatClampNeg c)) 107 (upd (aI σ 107) ((gI σ 103)).toNatClampNeg 0)) 108 (vp_updL (aL σ 108) ((gI σ 103)).toNatClampNeg (nowR (sA (sA (sA (sA σ 104 (upd (aI σ 104) ((gI σ 103)).toNatClampNeg ((aI σ 20) (c).toNatClampNeg))) 105 (upd (aI σ 105) ((gI σ 103)).toNatClampNeg 1)) 106 (upd (aI σ 106) ((gI σ 103)).toNatClampNeg c)) 107 (upd (aI σ 107) ((gI σ 103)).toNatClampNeg 0))))) 103 ((gI σ 103) + 1)) 92 0) (Int64.ofInt (-1))), (c + 1)) else ((beS (sI (sI (sM (sA (sA (sA (sA σ 104 (upd (aI σ 104) ((gI σ 103)).toNatClampNeg ((aI σ 20) (c).toNatClampNeg))) 105 (upd (aI σ 105) ((gI σ 103)).toNatClampNeg 1)) 106 (upd (aI σ 106) ((gI σ 103)).toNatClampNeg c)) 107 (upd (aI σ 107) ((gI σ 103)).toNatClampNeg 1)) 108 (vp_updL (aL σ 108) ((gI σ 103)).toNatClampNeg (nowR (sA (sA (sA (sA σ 104 (upd (aI σ 104) ((gI σ 103)).toNatClampNeg ((aI σ 20) (c).toNatClampNeg))) 105 (upd (aI σ 105) ((gI σ 103)).toNatClampNeg 1)) 106 (upd (aI σ 106) ((gI σ 103)).toNatClampNeg c)) 107 (upd (aI σ 107) ((gI σ 103)).toNatClampNeg 1))))) 103 ((gI σ 103) + 1)) 92 0) (Int64.ofInt (-1))), (c + 1)))) else (if (gI σ 92) = 0 then ((beS (sI (sI (sM (sA (sA (sA (sA σ 104 (upd (aI σ 104) ((gI σ 103)).toNatClampNeg ((aI σ 20) (c).toNatClampNeg))) 105 (upd (aI σ 105) ((gI σ 103)).toNatClampNeg 0)) 106 (upd (aI σ 106) ((gI σ 103)).toNatClampNeg c)) 107 (upd (aI σ 107) ((gI σ 103)).toNatClampNeg 0)) 108 (vp_updL (aL σ 108) ((gI σ 103)).toNatClampNeg (nowR (sA (sA (sA (sA σ 104 (upd (aI σ 104) ((gI σ 103)).toNatClampNeg ((aI σ 20) (c).toNatClampNeg))) 105 (upd (aI σ 105) ((gI σ 103)).toNatClampNeg 0)) 106 (upd (aI σ 106) ((gI σ 103)).toNatClampNeg c)) 107 (upd (aI σ 107) ((gI σ 103)).toNatClampNeg 0))))) 103 ((gI σ 103) + 1)) 92 0) (Int64.ofInt (-1))), (c + 1)) else (if 0 ≤ (gI σ 117) then ((beS (sI (sI (sM (sA (sA (sA (sA σ 104 (upd (aI σ 104) ((gI σ 103)).toNatClampNeg ((aI σ 20) (c).toNatClampNeg))) 105 (upd (aI σ 105) ((gI σ 103)).toNatClampNeg 0)) 106 (upd (aI σ 106) ((gI σ 103)).toNatClampNeg c)) 107 (upd (aI σ 107) ((gI σ 103)).toNatClampNeg 0)) 108 (vp_updL (aL σ 108) ((gI σ 103)).toNatClampNeg (nowR (sA (sA (sA (sA σ 104 (upd (aI σ 104) ((gI σ 103)).toNatClampNeg ((aI σ 20) (c).toNatClampNeg))) 105 (upd (aI σ 105) ((gI σ 103)).toNatClampNeg 0)) 106 (upd (aI σ 106) ((gI σ 103)).toNatClampNeg c)) 107 (upd (aI σ 107) ((gI σ 103)).toNatClampNeg 0))))) 103 ((gI σ 103) + 1)) 92 0) (Int64.ofInt (-1))), (c + 1)) else ((beS (sI (sI (sM (sA (sA (sA (sA σ 104 (upd (aI σ 104) ((gI σ 103)).toNatClampNeg ((aI σ 20) (c).toNatClampNeg))) 105 (upd (aI σ 105) ((gI σ 103)).toNatClampNeg 0)) 106 (upd (aI σ 106) ((gI σ 103)).toNatClampNeg c)) 107 (upd (aI σ 107) ((gI σ 103)).toNatClampNeg 1)) 108 (vp_updL (aL σ 108) ((gI σ 103)).toNatClampNeg (nowR (sA (sA (sA (sA σ 104 (upd (aI σ 104) ((gI σ 103)).toNatClampNeg ((aI σ 20) (c).toNatClampNeg))) 105 (upd (aI σ 105) ((gI σ 103)).toNatClampNeg 0)) 106 (upd (aI σ 106) ((gI σ 103)).toNatClampNeg c)) 107 (upd (aI σ 107) ((gI σ 103)).toNatClampNeg 1))))) 103 ((gI σ 103) + 1)) 92 0) (Int64.ofInt (-1))), (c + 1)))))
def fs_47 (σ : RS) (c : Int32) : RS × Int32 := (if ((aI σ 19) (c).toNatClampNeg) = 47 then (if (gI σ 92) = 0 then ((beS (sI (sI (sM (sA (sA (sA (sA σ 104 (upd (aI σ 104) ((gI σ 103)).toNatClampNeg ((aI σ 20) (c).toNatClampNeg))) 105 (upd (aI σ 105) ((gI σ 103)).toNatClampNeg 1)) 106 (upd (aI σ 106) ((gI σ 103)).toNatClampNeg c)) 107 (upd (aI σ 107) ((gI σ 103)).toNatClampNeg 0)) 108 (vp_updL (aL σ 108) ((gI σ 103)).toNatClampNeg (nowR (sA (sA (sA (sA σ 104 (upd (aI σ 104) ((gI σ 103)).toNatClampNeg ((aI σ 20) (c).toNatClampNeg))) 105 (upd (aI σ 105) ((gI σ 103)).toNatClampNeg 1)) 106 (upd (aI σ 106) ((gI σ 103)).toNatClampNeg c)) 107 (upd (aI σ 107) ((gI σ 103)).toNatClampNeg 0))))) 103 ((gI σ 103) + 1)) 92 0) (Int64.ofInt (-1))), (c + 1)) else (if 0 ≤ (gI σ 117) then ((beS (sI (sI (sM (sA (sA (sA (sA σ 104 (upd (aI σ 104) ((gI σ 103)).toNatClampNeg ((aI σ 20) (c).toNatClampNeg))) 105 (upd (aI σ 105) ((gI σ 103)).toNatClampNeg 1)) 106 (upd (aI σ 106) ((gI σ 103)).toNatClampNeg c)) 107 (upd (aI σ 107) ((gI σ 103)).toNatClampNeg 0)) 108 (vp_updL (aL σ 108) ((gI σ 103)).toNatClampNeg (nowR (sA (sA (sA (sA σ 104 (upd (aI σ 104) ((gI σ 103)).toNatClampNeg ((aI σ 20) (c).toNatClampNeg))) 105 (upd (aI σ 105) ((gI σ 103)).toNatClampNeg 1)) 106 (upd (aI σ 106) ((gI σ 103)).toNatClampNeg c)) 107 (upd (aI σ 107) ((gI σ 103)).toNatClampNeg 0))))) 103 ((gI σ 103) + 1)) 92 0) (Int64.ofInt (-1))), (c + 1)) else ((beS (sI (sI (sM (sA (sA (sA (sA σ 104 (upd (aI σ 104) ((gI σ 103)).toNatClampNeg ((aI σ 20) (c).toNatClampNeg))) 105 (upd (aI σ 105) ((gI σ 103)).toNatClampNeg 1)) 106 (upd (aI σ 106) ((gI σ 103)).toNatClampNeg c)) 107 (upd (aI σ 107) ((gI σ 103)).toNatClampNeg 1)) 108 (vp_updL (aL σ 108) ((gI σ 103)).toNatClampNeg (nowR (sA (sA (sA (sA σ 104 (upd (aI σ 104) ((gI σ 103)).toNatClampNeg ((aI σ 20) (c).toNatClampNeg))) 105 (upd (aI σ 105) ((gI σ 103)).toNatClampNeg 1)) 106 (upd (aI σ 106) ((gI σ 103)).toNatClampNeg c)) 107 (upd (aI σ 107) ((gI σ 103)).toNatClampNeg 1))))) 103 ((gI σ 103) + 1)) 92 0) (Int64.ofInt (-1))), (c + 1)))) else (if (gI σ 92) = 0 then ((beS (sI (sI (sM (sA (sA (sA (sA σ 104 (upd (aI σ 104) ((gI σ 103)).toNatClampNeg ((aI σ 20) (c).toNatClampNeg))) 105 (upd (aI σ 105) ((gI σ 103)).toNatClampNeg 0)) 106 (upd (aI σ 106) ((gI σ 103)).toNatClampNeg c)) 107 (upd (aI σ 107) ((gI σ 103)).toNatClampNeg 0)) 108 (vp_updL (aL σ 108) ((gI σ 103)).toNatClampNeg (nowR (sA (sA (sA (sA σ 104 (upd (aI σ 104) ((gI σ 103)).toNatClampNeg ((aI σ 20) (c).toNatClampNeg))) 105 (upd (aI σ 105) ((gI σ 103)).toNatClampNeg 0)) 106 (upd (aI σ 106) ((gI σ 103)).toNatClampNeg c)) 107 (upd (aI σ 107) ((gI σ 103)).toNatClampNeg 0))))) 103 ((gI σ 103) + 1)) 92 0) (Int64.ofInt (-1))), (c + 1)) else (if 0 ≤ (gI σ 117) then ((beS (sI (sI (sM (sA (sA (sA (sA σ 104 (upd (aI σ 104) ((gI σ 103)).toNatClampNeg ((aI σ 20) (c).toNatClampNeg))) 105 (upd (aI σ 105) ((gI σ 103)).toNatClampNeg 0)) 106 (upd (aI σ 106) ((gI σ 103)).toNatClampNeg c)) 107 (upd (aI σ 107) ((gI σ 103)).toNatClampNeg 0)) 108 (vp_updL (aL σ 108) ((gI σ 103)).toNatClampNeg (nowR (sA (sA (sA (sA σ 104 (upd (aI σ 104) ((gI σ 103)).toNatClampNeg ((aI σ 20) (c).toNatClampNeg))) 105 (upd (aI σ 105) ((gI σ 103)).toNatClampNeg 0)) 106 (upd (aI σ 106) ((gI σ 103)).toNatClampNeg c)) 107 (upd (aI σ 107) ((gI σ 103)).toNatClampNeg 0))))) 103 ((gI σ 103) + 1)) 92 0) (Int64.ofInt (-1))), (c + 1)) else ((beS (sI (sI (sM (sA (sA (sA (sA σ 104 (upd (aI σ 104) ((gI σ 103)).toNatClampNeg ((aI σ 20) (c).toNatClampNeg))) 105 (upd (aI σ 105) ((gI σ 103)).toNatClampNeg 0)) 106 (upd (aI σ 106) ((gI σ 103)).toNatClampNeg c)) 107 (upd (aI σ 107) ((gI σ 103)).toNatClampNeg 1)) 108 (vp_updL (aL σ 108) ((gI σ 103)).toNatClampNeg (nowR (sA (sA (sA (sA σ 104 (upd (aI σ 104) ((gI σ 103)).toNatClampNeg ((aI σ 20) (c).toNatClampNeg))) 105 (upd (aI σ 105) ((gI σ 103)).toNatClampNeg 0)) 106 (upd (aI σ 106) ((gI σ 103)).toNatClampNeg c)) 107 (upd (aI σ 107) ((gI σ 103)).toNatClampNeg 1))))) 103 ((gI σ 103) + 1)) 92 0) (Int64.ofInt (-1))), (c + 1)))))
def fs_48 (σ : RS) (c : Int32) : RS × Int32 := ((beS (sI σ 92 0) (Int64.ofInt (-1))), (c + 1))
def fs_49 (σ : RS) (c : Int32) : RS × Int32 := ((beS (sI σ 92 0) (Int64.ofInt (-1))), (c + 1))
def fs_50 (σ : RS) (c : Int32) : RS × Int32 := ((sM σ 99 (vp_updL (aL σ 99) (((aI σ 20) (c).toNatClampNeg)).toNatClampNeg (nowR σ))), (c + 1))
def fs_51 (σ : RS) (c : Int32) : RS × Int32 := ((sI (beS (sM (sA σ 95 (upd (aI σ 95) (((aI σ 20) (c).toNatClampNeg)).toNatClampNeg (gI σ 92))) 96 (vp_updL (aL σ 96) (((aI σ 20) (c).toNatClampNeg)).toNatClampNeg (nowR (sA σ 95 (upd (aI σ 95) (((aI σ 20) (c).toNatClampNeg)).toNatClampNeg (gI σ 92)))))) (((aL σ 99) (((aI σ 20) (c).toNatClampNeg)).toNatClampNeg) ||| ((1 : Int64) <<< ((((aI σ 61) (((aI σ 20) (c).toNatClampNeg)).toNatClampNeg)).toInt64 &&& 63)))) 92 1), (c + 1))
def fs_52 (σ : RS) (c : Int32) : RS × Int32 := (if 0 ≤ ((aI σ 57) (((aI σ 20) (c).toNatClampNeg)).toNatClampNeg) then (if (gI σ 92) = 0 then (if ((aI σ 95) (((aI σ 20) (c).toNatClampNeg)).toNatClampNeg) = 0 then (if 0 ≤ ((aI σ 57) (((aI σ 20) (c).toNatClampNeg)).toNatClampNeg) then ((sI (beS (sM (sA σ 95 (upd (aI σ 95) (((aI σ 20) (c).toNatClampNeg)).toNatClampNeg 0)) 96 (vp_updL (aL σ 96) (((aI σ 20) (c).toNatClampNeg)).toNatClampNeg ((nowR (sA σ 95 (upd (aI σ 95) (((aI σ 20) (c).toNatClampNeg)).toNatClampNeg 0))) &&& ((aL σ 96) (((aI σ 20) (c).toNatClampNeg)).toNatClampNeg)))) ((aL σ 99) (((aI σ 20) (c).toNatClampNeg)).toNatClampNeg)) 92 1), (c + 1)) else ((sI (beS (sM (sA σ 95 (upd (aI σ 95) (((aI σ 20) (c).toNatClampNeg)).toNatClampNeg 0)) 96 (vp_updL (aL σ 96) (((aI σ 20) (c).toNatClampNeg)).toNatClampNeg (nowR (sA σ 95 (upd (aI σ 95) (((aI σ 20) (c).toNatClampNeg)).toNatClampNeg 0))))) ((aL σ 99) (((aI σ 20) (c).toNatClampNeg)).toNatClampNeg)) 92 1), (c + 1))) else (if 0 ≤ ((aI σ 57) (((aI σ 20) (c).toNatClampNeg)).toNatClampNeg) then ((sI (beS (sM (sA σ 95 (upd (aI σ 95) (((aI σ 20) (c).toNatClampNeg)).toNatClampNeg 1)) 96 (vp_updL (aL σ 96) (((aI σ 20) (c).toNatClampNeg)).toNatClampNeg ((nowR (sA σ 95 (upd (aI σ 95) (((aI σ 20) (c).toNatClampNeg)).toNatClampNeg 1))) &&& ((aL σ 96) (((aI σ 20) (c).toNatClampNeg)).toNatClampNeg)))) ((aL σ 99) (((aI σ 20) (c).toNatClampNeg)).toNatClampNeg)) 92 1), (c + 1)) else ((sI (beS (sM (sA σ 95 (upd (aI σ 95) (((aI σ 20) (c).toNatClampNeg)).toNatClampNeg 1)) 96 (vp_updL (aL σ 96) (((aI σ 20) (c).toNatClampNeg)).toNatClampNeg (nowR (sA σ 95 (upd (aI σ 95) (((aI σ 20) (c).toNatClampNeg)).toNatClampNeg 1))))) ((aL σ 99) (((aI σ 20) (c).toNatClampNeg)).toNatClampNeg)) 92 1), (c + 1)))) else (if 0 ≤ ((aI σ 57) (((aI σ 20) (c).toNatClampNeg)).toNatClampNeg) then ((sI (beS (sM (sA σ 95 (upd (aI σ 95) (((aI σ 20) (c).toNatClampNeg)).toNatClampNeg 1)) 96 (vp_updL (aL σ 96) (((aI σ 20) (c).toNatClampNeg)).toNatClampNeg ((nowR (sA σ 95 (upd (aI σ 95) (((aI σ 20) (c).toNatClampNeg)).toNatClampNeg 1))) &&& ((aL σ 96) (((aI σ 20) (c).toNatClampNeg)).toNatClampNeg)))) ((aL σ 99) (((aI σ 20) (c).toNatClampNeg)).toNatClampNeg)) 92 1), (c + 1)) else ((sI (beS (sM (sA σ 95 (upd (aI σ 95) (((aI σ 20) (c).toNatClampNeg)).toNatClampNeg 1)) 96 (vp_updL (aL σ 96) (((aI σ 20) (c).toNatClampNeg)).toNatClampNeg (nowR (sA σ 95 (upd (aI σ 95) (((aI σ 20) (c).toNatClampNeg)).toNatClampNeg 1))))) ((aL σ 99) (((aI σ 20) (c).toNatClampNeg)).toNatClampNeg)) 92 1), (c + 1)))) else (if 0 ≤ ((aI σ 57) (((aI σ 20) (c).toNatClampNeg)).toNatClampNeg) then ((sI (beS (sM (sA σ 95 (upd (aI σ 95) (((aI σ 20) (c).toNatClampNeg)).toNatClampNeg (gI σ 92))) 96 (vp_updL (aL σ 96) (((aI σ 20) (c).toNatClampNeg)).toNatClampNeg ((nowR (sA σ 95 (upd (aI σ 95) (((aI σ 20) (c).toNatClampNeg)).toNatClampNeg (gI σ 92)))) &&& ((aL σ 96) (((aI σ 20) (c).toNatClampNeg)).toNatClampNeg)))) ((aL σ 99) (((aI σ 20) (c).toNatClampNeg)).toNatClampNeg)) 92 1), (c + 1)) else ((sI (beS (sM (sA σ 95 (upd (aI σ 95) (((aI σ 20) (c).toNatClampNeg)).toNatClampNeg (gI σ 92))) 96 (vp_updL (aL σ 96) (((aI σ 20) (c).toNatClampNeg)).toNatClampNeg (nowR (sA σ 95 (upd (aI σ 95) (((aI σ 20) (c).toNatClampNeg)).toNatClampNeg (gI σ 92)))))) ((aL σ 99) (((aI σ 20) (c).toNatClampNeg)).toNatClampNeg)) 92 1), (c + 1))))
def fs_53 (σ : RS) (c : Int32) : RS × Int32 := (if ((aI σ 58) (((aI σ 20) (c).toNatClampNeg)).toNatClampNeg) < 0 then (if (gI σ 92) = 0 then (if ((aI σ 95) (((aI σ 20) (c).toNatClampNeg)).toNatClampNeg) = 0 then ((beS (sI σ 92 0) ((nowR (sI σ 92 0)) &&& ((aL σ 96) (((aI σ 20) (c).toNatClampNeg)).toNatClampNeg))), (c + 1)) else ((beS (sI σ 92 1) ((nowR (sI σ 92 1)) &&& ((aL σ 96) (((aI σ 20) (c).toNatClampNeg)).toNatClampNeg))), (c + 1))) else ((beS (sI σ 92 1) ((nowR (sI σ 92 1)) &&& ((aL σ 96) (((aI σ 20) (c).toNatClampNeg)).toNatClampNeg))), (c + 1))) else (if (gI (enS σ ((aI σ 20) (c).toNatClampNeg) (gI σ 103).toInt.toNat) 92) = 0 then ((beS (sI (enS σ ((aI σ 20) (c).toNatClampNeg) (gI σ 103).toInt.toNat) 92 0) ((nowR (sI (enS σ ((aI σ 20) (c).toNatClampNeg) (gI σ 103).toInt.toNat) 92 0)) ||| ((aL (enS σ ((aI σ 20) (c).toNatClampNeg) (gI σ 103).toInt.toNat) 96) (((aI σ 20) (c).toNatClampNeg)).toNatClampNeg))), (c + 1)) else (if ((aI (enS σ ((aI σ 20) (c).toNatClampNeg) (gI σ 103).toInt.toNat) 95) (((aI σ 20) (c).toNatClampNeg)).toNatClampNeg) = 0 then ((beS (sI (enS σ ((aI σ 20) (c).toNatClampNeg) (gI σ 103).toInt.toNat) 92 0) ((nowR (sI (enS σ ((aI σ 20) (c).toNatClampNeg) (gI σ 103).toInt.toNat) 92 0)) ||| ((aL (enS σ ((aI σ 20) (c).toNatClampNeg) (gI σ 103).toInt.toNat) 96) (((aI σ 20) (c).toNatClampNeg)).toNatClampNeg))), (c + 1)) else ((beS (sI (enS σ ((aI σ 20) (c).toNatClampNeg) (gI σ 103).toInt.toNat) 92 1) ((nowR (sI (enS σ ((aI σ 20) (c).toNatClampNeg) (gI σ 103).toInt.toNat) 92 1)) ||| ((aL (enS σ ((aI σ 20) (c).toNatClampNeg) (gI σ 103).toInt.toNat) 96) (((aI σ 20) (c).toNatClampNeg)).toNatClampNeg))), (c + 1)))))
def fsS (σ : RS) (c : Int32) : RS × Int32 := match (aI σ 19 c.toNatClampNeg).toInt.toNat with
  | 20 => fs_20 σ c
  | 21 => fs_21 σ c
  | 22 => fs_22 σ c
  | 23 => fs_23 σ c
  | 24 => fs_24 σ c
  | 25 => fs_25 σ c
  | 27 => fs_27 σ c
  | 28 => fs_28 σ c
  | 30 => fs_30 σ c
  | 31 => fs_31 σ c
  | 33 => fs_33 σ c
  | 35 => fs_35 σ c
  | 36 => fs_36 σ c
  | 37 => fs_37 σ c
  | 38 => fs_38 σ c
  | 39 => fs_39 σ c
  | 40 => fs_40 σ c
  | 42 => fs_42 σ c
  | 45 => fs_45 σ c
  | 46 => fs_46 σ c
  | 47 => fs_47 σ c
  | 48 => fs_48 σ c
  | 49 => fs_49 σ c
  | 50 => fs_50 σ c
  | 51 => fs_51 σ c
  | 52 => fs_52 σ c
  | 53 => fs_53 σ c
  | _ => (σ, c + 1)
theorem fs_e20 {σ : RS} {c : Int32} (h : (aI σ 19 c.toNatClampNeg).toInt = 20) : fsS σ c = fs_20 σ c := by sorry
theorem fs_e21 {σ : RS} {c : Int32} (h : (aI σ 19 c.toNatClampNeg).toInt = 21) : fsS σ c = fs_21 σ c := by sorry
theorem fs_e22 {σ : RS} {c : Int32} (h : (aI σ 19 c.toNatClampNeg).toInt = 22) : fsS σ c = fs_22 σ c := by sorry
theorem fs_e23 {σ : RS} {c : Int32} (h : (aI σ 19 c.toNatClampNeg).toInt = 23) : fsS σ c = fs_23 σ c := by sorry
theorem fs_e24 {σ : RS} {c : Int32} (h : (aI σ 19 c.toNatClampNeg).toInt = 24) : fsS σ c = fs_24 σ c := by sorry
theorem fs_e25 {σ : RS} {c : Int32} (h : (aI σ 19 c.toNatClampNeg).toInt = 25) : fsS σ c = fs_25 σ c := by sorry
theorem fs_e27 {σ : RS} {c : Int32} (h : (aI σ 19 c.toNatClampNeg).toInt = 27) : fsS σ c = fs_27 σ c := by sorry
theorem fs_e28 {σ : RS} {c : Int32} (h : (aI σ 19 c.toNatClampNeg).toInt = 28) : fsS σ c = fs_28 σ c := by sorry
theorem fs_e30 {σ : RS} {c : Int32} (h : (aI σ 19 c.toNatClampNeg).toInt = 30) : fsS σ c = fs_30 σ c := by sorry
theorem fs_e31 {σ : RS} {c : Int32} (h : (aI σ 19 c.toNatClampNeg).toInt = 31) : fsS σ c = fs_31 σ c := by sorry
theorem fs_e33 {σ : RS} {c : Int32} (h : (aI σ 19 c.toNatClampNeg).toInt = 33) : fsS σ c = fs_33 σ c := by sorry
theorem fs_e35 {σ : RS} {c : Int32} (h : (aI σ 19 c.toNatClampNeg).toInt = 35) : fsS σ c = fs_35 σ c := by sorry
theorem fs_e36 {σ : RS} {c : Int32} (h : (aI σ 19 c.toNatClampNeg).toInt = 36) : fsS σ c = fs_36 σ c := by sorry
theorem fs_e37 {σ : RS} {c : Int32} (h : (aI σ 19 c.toNatClampNeg).toInt = 37) : fsS σ c = fs_37 σ c := by sorry
theorem fs_e38 {σ : RS} {c : Int32} (h : (aI σ 19 c.toNatClampNeg).toInt = 38) : fsS σ c = fs_38 σ c := by sorry
theorem fs_e39 {σ : RS} {c : Int32} (h : (aI σ 19 c.toNatClampNeg).toInt = 39) : fsS σ c = fs_39 σ c := by sorry
theorem fs_e40 {σ : RS} {c : Int32} (h : (aI σ 19 c.toNatClampNeg).toInt = 40) : fsS σ c = fs_40 σ c := by sorry
theorem fs_e42 {σ : RS} {c : Int32} (h : (aI σ 19 c.toNatClampNeg).toInt = 42) : fsS σ c = fs_42 σ c := by sorry
theorem fs_e45 {σ : RS} {c : Int32} (h : (aI σ 19 c.toNatClampNeg).toInt = 45) : fsS σ c = fs_45 σ c := by sorry
theorem fs_e46 {σ : RS} {c : Int32} (h : (aI σ 19 c.toNatClampNeg).toInt = 46) : fsS σ c = fs_46 σ c := by sorry
theorem fs_e47 {σ : RS} {c : Int32} (h : (aI σ 19 c.toNatClampNeg).toInt = 47) : fsS σ c = fs_47 σ c := by sorry
theorem fs_e48 {σ : RS} {c : Int32} (h : (aI σ 19 c.toNatClampNeg).toInt = 48) : fsS σ c = fs_48 σ c := by sorry
theorem fs_e49 {σ : RS} {c : Int32} (h : (aI σ 19 c.toNatClampNeg).toInt = 49) : fsS σ c = fs_49 σ c := by sorry
theorem fs_e50 {σ : RS} {c : Int32} (h : (aI σ 19 c.toNatClampNeg).toInt = 50) : fsS σ c = fs_50 σ c := by sorry
theorem fs_e51 {σ : RS} {c : Int32} (h : (aI σ 19 c.toNatClampNeg).toInt = 51) : fsS σ c = fs_51 σ c := by sorry
theorem fs_e52 {σ : RS} {c : Int32} (h : (aI σ 19 c.toNatClampNeg).toInt = 52) : fsS σ c = fs_52 σ c := by sorry
theorem fs_e53 {σ : RS} {c : Int32} (h : (aI σ 19 c.toNatClampNeg).toInt = 53) : fsS σ c = fs_53 σ c := by sorry
/-- whether 13, 14 are told -/
def ltR (σ : RS) (c : Int32) : Prop := ((aI σ 19 c.toNatClampNeg).toInt = 20 ∧ gI σ 92 = 0) ∨ ((aI σ 19 c.toNatClampNeg).toInt = 54 ∧ ¬ gI σ 92 = 0 ∧ ¬ (if aI σ 20 c.toNatClampNeg = 10 then (5 : Int32) else if aI σ 20 c.toNatClampNeg = 11 then 3 else aI σ 38 (aI σ 20 c.toNatClampNeg).toNatClampNeg) = 5)
theorem fs_d {σ : RS} {c : Int32} (h : ¬ ((20 ≤ (aI σ 19 c.toNatClampNeg).toInt ∧ (aI σ 19 c.toNatClampNeg).toInt ≤ 25) ∨ (aI σ 19 c.toNatClampNeg).toInt = 27 ∨ (aI σ 19 c.toNatClampNeg).toInt = 28 ∨ (aI σ 19 c.toNatClampNeg).toInt = 30 ∨ (aI σ 19 c.toNatClampNeg).toInt = 31 ∨ (aI σ 19 c.toNatClampNeg).toInt = 33 ∨ (aI σ 19 c.toNatClampNeg).toInt = 35 ∨ (aI σ 19 c.toNatClampNeg).toInt = 36 ∨ (aI σ 19 c.toNatClampNeg).toInt = 37 ∨ (aI σ 19 c.toNatClampNeg).toInt = 38 ∨ (aI σ 19 c.toNatClampNeg).toInt = 39 ∨ (aI σ 19 c.toNatClampNeg).toInt = 40 ∨ (aI σ 19 c.toNatClampNeg).toInt = 42 ∨ (aI σ 19 c.toNatClampNeg).toInt = 45 ∨ (aI σ 19 c.toNatClampNeg).toInt = 46 ∨ (aI σ 19 c.toNatClampNeg).toInt = 47 ∨ (aI σ 19 c.toNatClampNeg).toInt = 48 ∨ (aI σ 19 c.toNatClampNeg).toInt = 49 ∨ (aI σ 19 c.toNatClampNeg).toInt = 50 ∨ (aI σ 19 c.toNatClampNeg).toInt = 51 ∨ (aI σ 19 c.toNatClampNeg).toInt = 52 ∨ (aI σ 19 c.toNatClampNeg).toInt = 53)) : fsS σ c = (σ, c + 1) := by sorry
def Pv_flowStep : UP1 := fun A1 σ => match A1 with
  | [.int c] => True
  | _ => False
def Qv_flowStep : UQ1 := fun A1 σ w τ => match A1 with
  | [.int c] => ∃ u p : Int32, (¬ u = 0 ↔ (¬ gI σ 112 = 0 ∨ ltR σ c)) ∧ τ = (fsS (laS σ u p) c).1 ∧ w = some (.int (fsS (laS σ u p) c).2)
  | _ => False
def Qw_flowStep : UQ1 := fun A1 σ w τ => Pv_flowStep A1 σ → Qv_flowStep A1 σ w τ
set_option maxRecDepth 100000 in
set_option maxHeartbeats 4000000 in
theorem v_flowStep : UMet 121 (Pv_flowStep) (Qv_flowStep) := by sorry
theorem w_flowStep : UMet 121 (fun _ _ => True) Qw_flowStep := fun A1 σ _ w τ h hP => v_flowStep A1 σ hP w τ h
/-! the reference's flow as steps -/
def clfR (σ : RS) (k : Nat) : Nat → Int32 := fun q => if q < k then 0 else aI σ 109 q
theorem clf_s {σ : RS} {k : Nat} : upd (clfR σ k) k 0 = clfR σ (k + 1) := by sorry
theorem clf_0 {σ : RS} : clfR σ 0 = aI σ 109 := by sorry
/-- where a method's codes begin -/
def sttS (σ : RS) (m : Int32) : RS := beS (sI σ 92 1) (stB σ m (gI σ 42).toInt.toNat)
/-- at first -/
def fl0 (σ : RS) : RS := sttS (sI (sI (sI (sA (sI (sI σ 112 0) 114 0) 109 (clfR σ (gI σ 2).toInt.toNat)) 103 0) 100 0) 117 (-2)) 0
/-- one code: state, code, method -/
def FlwR (σ : RS) (c m : Int32) (τ : RS) (d k : Int32) : Prop :=
  (aI σ 19 c.toNatClampNeg ≤ 18 ∧ ∃ u p : Int32, (¬ u = 0 ↔ (¬ gI σ 114 = 0 ∨ uvR σ c)) ∧ τ = fxS (unS σ u p) c ∧ d = c + 1 ∧ k = m) ∨
  (¬ aI σ 19 c.toNatClampNeg ≤ 18 ∧ ∃ u p : Int32, (¬ u = 0 ↔ (¬ gI σ 112 = 0 ∨ ltR σ c)) ∧ d = (fsS (laS σ u p) c).2 ∧
    ((¬ (¬ d ≤ 0 ∧ aI (fsS (laS σ u p) c).1 19 (d - 1).toNatClampNeg = 54) ∧ k = m ∧ τ = (fsS (laS σ u p) c).1) ∨ ((¬ d ≤ 0 ∧ aI (fsS (laS σ u p) c).1 19 (d - 1).toNatClampNeg = 54) ∧ k = m + 1 ∧ τ = sttS (fsS (laS σ u p) c).1 (m + 1))))
/-- n codes -/
def FlT (σ0 : RS) : Nat → RS → Int32 → Int32 → Prop
  | 0, σ, c, m => σ = σ0 ∧ c = 0 ∧ m = 0
  | n + 1, σ, c, m => ∃ (Y : RS) (d k : Int32), FlT σ0 n Y d k ∧ d < gI Y 18 ∧ FlwR Y d k σ c m
/-- what is told in the end -/
def flE (σ : RS) : RS := if gI σ 112 = 0 then (if gI σ 114 = 0 then σ else sI (sI σ 66 15) 67 (gI σ 115)) else sI (sI σ 66 (gI σ 112)) 67 (gI σ 113)
def Pv_flow : UP1 := fun A1 σ => match A1 with
  | [] => True
  | _ => False
def Qv_flow : UQ1 := fun A1 σ w τ => match A1 with
  | [] => w = none ∧ ∃ (n : Nat) (Y : RS) (c m : Int32), FlT (fl0 σ) n Y c m ∧ ¬ c < gI Y 18 ∧ τ = flE Y
  | _ => False
def Qw_flow : UQ1 := fun A1 σ w τ => Pv_flow A1 σ → Qv_flow A1 σ w τ
set_option maxRecDepth 100000 in
set_option maxHeartbeats 4000000 in
theorem v_flow : UMet 113 (Pv_flow) (Qv_flow) := by sorry
theorem w_flow : UMet 113 (fun _ _ => True) Qw_flow := fun A1 σ _ w τ h hP => v_flow A1 σ hP w τ h
/-! the reference's answers -/
/-- the program is judged, if it was not -/
def JdR (σ τ : RS) : Prop := (¬ gI σ 68 = 0 ∧ τ = σ) ∨ (gI σ 68 = 0 ∧ EvM 82 [] σ none τ)
/-- the latest exp from token i to token k -/
def XaR (σ : RS) (i k r : Int32) : Prop := (r = -2 ∧ ∀ x : Nat, (x : Int) < (gI σ 74).toInt → ¬ (aI σ 75 x = i ∧ aI σ 76 x = k)) ∨ (0 ≤ r.toInt ∧ r.toInt < (gI σ 74).toInt ∧ (aI σ 75 r.toNatClampNeg = i ∧ aI σ 76 r.toNatClampNeg = k) ∧ ∀ x : Nat, r.toInt < (x : Int) → (x : Int) < (gI σ 74).toInt → ¬ (aI σ 75 x = i ∧ aI σ 76 x = k))
def Pv_errS : UP1 := fun A1 σ => match A1 with
  | [.int a0, .int a1] => True
  | _ => False
def Qv_errS : UQ1 := fun A1 σ w τ => match A1 with
  | [.int a0, .int a1] => w = none
  | _ => False
def Qw_errS : UQ1 := fun A1 σ w τ => Pv_errS A1 σ → Qv_errS A1 σ w τ
set_option maxRecDepth 100000 in
set_option maxHeartbeats 4000000 in
theorem v_errS : UMet 70 (Pv_errS) (Qv_errS) := by sorry
theorem w_errS : UMet 70 (fun _ _ => True) Qw_errS := fun A1 σ _ w τ h hP => v_errS A1 σ hP w τ h
def Pv_sameNameS : UP1 := fun A1 σ => match A1 with
  | [.int a0, .int a1] => True
  | _ => False
def Qv_sameNameS : UQ1 := fun A1 σ w τ => match A1 with
  | [.int a0, .int a1] => ∃ r : Int32, w = some (.int r)
  | _ => False
def Qw_sameNameS : UQ1 := fun A1 σ w τ => Pv_sameNameS A1 σ → Qv_sameNameS A1 σ w τ
set_option maxRecDepth 100000 in
set_option maxHeartbeats 4000000 in
theorem v_sameNameS : UMet 63 (Pv_sameNameS) (Qv_sameNameS) := by sorry
theorem w_sameNameS : UMet 63 (fun _ _ => True) Qw_sameNameS := fun A1 σ _ w τ h hP => v_sameNameS A1 σ hP w τ h
def Pv_findS : UP1 := fun A1 σ => match A1 with
  | [.int a0] => True
  | _ => False
def Qv_findS : UQ1 := fun A1 σ w τ => match A1 with
  | [.int a0] => ∃ r : Int32, w = some (.int r)
  | _ => False
def Qw_findS : UQ1 := fun A1 σ w τ => Pv_findS A1 σ → Qv_findS A1 σ w τ
set_option maxRecDepth 100000 in
set_option maxHeartbeats 4000000 in
theorem v_findS : UMet 71 (Pv_findS) (Qv_findS) := by sorry
theorem w_findS : UMet 71 (fun _ _ => True) Qw_findS := fun A1 σ _ w τ h hP => v_findS A1 σ hP w τ h
def Pv_holdsValueS : UP1 := fun A1 σ => match A1 with
  | [.int a0, .long a1] => True
  | _ => False
def Qv_holdsValueS : UQ1 := fun A1 σ w τ => match A1 with
  | [.int a0, .long a1] => ∃ r : Int32, w = some (.int r)
  | _ => False
def Qw_holdsValueS : UQ1 := fun A1 σ w τ => Pv_holdsValueS A1 σ → Qv_holdsValueS A1 σ w τ
set_option maxRecDepth 100000 in
set_option maxHeartbeats 4000000 in
theorem v_holdsValueS : UMet 74 (Pv_holdsValueS) (Qv_holdsValueS) := by sorry
theorem w_holdsValueS : UMet 74 (fun _ _ => True) Qw_holdsValueS := fun A1 σ _ w τ h hP => v_holdsValueS A1 σ hP w τ h
def Pv_widensS : UP1 := fun A1 σ => match A1 with
  | [.int a0, .int a1] => True
  | _ => False
def Qv_widensS : UQ1 := fun A1 σ w τ => match A1 with
  | [.int a0, .int a1] => ∃ r : Int32, w = some (.int r)
  | _ => False
def Qw_widensS : UQ1 := fun A1 σ w τ => Pv_widensS A1 σ → Qv_widensS A1 σ w τ
set_option maxRecDepth 100000 in
set_option maxHeartbeats 4000000 in
theorem v_widensS : UMet 73 (Pv_widensS) (Qv_widensS) := by sorry
theorem w_widensS : UMet 73 (fun _ _ => True) Qw_widensS := fun A1 σ _ w τ h hP => v_widensS A1 σ hP w τ h
def Pv_fitsS : UP1 := fun A1 σ => match A1 with
  | [.int a0, .int a1] => True
  | _ => False
def Qv_fitsS : UQ1 := fun A1 σ w τ => match A1 with
  | [.int a0, .int a1] => ∃ r : Int32, w = some (.int r)
  | _ => False
def Qw_fitsS : UQ1 := fun A1 σ w τ => Pv_fitsS A1 σ → Qv_fitsS A1 σ w τ
set_option maxRecDepth 100000 in
set_option maxHeartbeats 4000000 in
theorem v_fitsS : UMet 75 (Pv_fitsS) (Qv_fitsS) := by sorry
theorem w_fitsS : UMet 75 (fun _ _ => True) Qw_fitsS := fun A1 σ _ w τ h hP => v_fitsS A1 σ hP w τ h
def Pv_isBadS : UP1 := fun A1 σ => match A1 with
  | [.int a0] => True
  | _ => False
def Qv_isBadS : UQ1 := fun A1 σ w τ => match A1 with
  | [.int a0] => ∃ r : Int32, w = some (.int r)
  | _ => False
def Qw_isBadS : UQ1 := fun A1 σ w τ => Pv_isBadS A1 σ → Qv_isBadS A1 σ w τ
set_option maxRecDepth 100000 in
set_option maxHeartbeats 4000000 in
theorem v_isBadS : UMet 79 (Pv_isBadS) (Qv_isBadS) := by sorry
theorem w_isBadS : UMet 79 (fun _ _ => True) Qw_isBadS := fun A1 σ _ w τ h hP => v_isBadS A1 σ hP w τ h
def Pv_isBitsS : UP1 := fun A1 σ => match A1 with
  | [.int a0] => True
  | _ => False
def Qv_isBitsS : UQ1 := fun A1 σ w τ => match A1 with
  | [.int a0] => ∃ r : Int32, w = some (.int r)
  | _ => False
def Qw_isBitsS : UQ1 := fun A1 σ w τ => Pv_isBitsS A1 σ → Qv_isBitsS A1 σ w τ
set_option maxRecDepth 100000 in
set_option maxHeartbeats 4000000 in
theorem v_isBitsS : UMet 94 (Pv_isBitsS) (Qv_isBitsS) := by sorry
theorem w_isBitsS : UMet 94 (fun _ _ => True) Qw_isBitsS := fun A1 σ _ w τ h hP => v_isBitsS A1 σ hP w τ h
def Pv_isShiftS : UP1 := fun A1 σ => match A1 with
  | [.int a0] => True
  | _ => False
def Qv_isShiftS : UQ1 := fun A1 σ w τ => match A1 with
  | [.int a0] => ∃ r : Int32, w = some (.int r)
  | _ => False
def Qw_isShiftS : UQ1 := fun A1 σ w τ => Pv_isShiftS A1 σ → Qv_isShiftS A1 σ w τ
set_option maxRecDepth 100000 in
set_option maxHeartbeats 4000000 in
theorem v_isShiftS : UMet 93 (Pv_isShiftS) (Qv_isShiftS) := by sorry
theorem w_isShiftS : UMet 93 (fun _ _ => True) Qw_isShiftS := fun A1 σ _ w τ h hP => v_isShiftS A1 σ hP w τ h
def Pv_lieS : UP1 := fun A1 σ => match A1 with
  | [.int a0, .int a1, .int a2, .long a3] => True
  | _ => False
def Qv_lieS : UQ1 := fun A1 σ w τ => match A1 with
  | [.int a0, .int a1, .int a2, .long a3] => w = none
  | _ => False
def Qw_lieS : UQ1 := fun A1 σ w τ => Pv_lieS A1 σ → Qv_lieS A1 σ w τ
set_option maxRecDepth 100000 in
set_option maxHeartbeats 4000000 in
theorem v_lieS : UMet 77 (Pv_lieS) (Qv_lieS) := by sorry
theorem w_lieS : UMet 77 (fun _ _ => True) Qw_lieS := fun A1 σ _ w τ h hP => v_lieS A1 σ hP w τ h
def Pv_isNumberS : UP1 := fun A1 σ => match A1 with
  | [.int a0] => True
  | _ => False
def Qv_isNumberS : UQ1 := fun A1 σ w τ => match A1 with
  | [.int a0] => ∃ r : Int32, w = some (.int r)
  | _ => False
def Qw_isNumberS : UQ1 := fun A1 σ w τ => Pv_isNumberS A1 σ → Qv_isNumberS A1 σ w τ
set_option maxRecDepth 100000 in
set_option maxHeartbeats 4000000 in
theorem v_isNumberS : UMet 72 (Pv_isNumberS) (Qv_isNumberS) := by sorry
theorem w_isNumberS : UMet 72 (fun _ _ => True) Qw_isNumberS := fun A1 σ _ w τ h hP => v_isNumberS A1 σ hP w τ h
def Pv_needS : UP1 := fun A1 σ => match A1 with
  | [.int a0, .int a1] => True
  | _ => False
def Qv_needS : UQ1 := fun A1 σ w τ => match A1 with
  | [.int a0, .int a1] => ∃ r : Int32, w = some (.int r)
  | _ => False
def Qw_needS : UQ1 := fun A1 σ w τ => Pv_needS A1 σ → Qv_needS A1 σ w τ
set_option maxRecDepth 100000 in
set_option maxHeartbeats 4000000 in
theorem v_needS : UMet 80 (Pv_needS) (Qv_needS) := by sorry
theorem w_needS : UMet 80 (fun _ _ => True) Qw_needS := fun A1 σ _ w τ h hP => v_needS A1 σ hP w τ h
def Pv_noneS : UP1 := fun A1 σ => match A1 with
  | [.int a0] => True
  | _ => False
def Qv_noneS : UQ1 := fun A1 σ w τ => match A1 with
  | [.int a0] => w = none
  | _ => False
def Qw_noneS : UQ1 := fun A1 σ w τ => Pv_noneS A1 σ → Qv_noneS A1 σ w τ
set_option maxRecDepth 100000 in
set_option maxHeartbeats 4000000 in
theorem v_noneS : UMet 78 (Pv_noneS) (Qv_noneS) := by sorry
theorem w_noneS : UMet 78 (fun _ _ => True) Qw_noneS := fun A1 σ _ w τ h hP => v_noneS A1 σ hP w τ h
def Pv_pairS : UP1 := fun A1 σ => match A1 with
  | [.int a0, .int a1] => True
  | _ => False
def Qv_pairS : UQ1 := fun A1 σ w τ => match A1 with
  | [.int a0, .int a1] => ∃ r : Int32, w = some (.int r)
  | _ => False
def Qw_pairS : UQ1 := fun A1 σ w τ => Pv_pairS A1 σ → Qv_pairS A1 σ w τ
set_option maxRecDepth 100000 in
set_option maxHeartbeats 4000000 in
theorem v_pairS : UMet 96 (Pv_pairS) (Qv_pairS) := by sorry
theorem w_pairS : UMet 96 (fun _ _ => True) Qw_pairS := fun A1 σ _ w τ h hP => v_pairS A1 σ hP w τ h
def Pv_wideS : UP1 := fun A1 σ => match A1 with
  | [.int a0] => True
  | _ => False
def Qv_wideS : UQ1 := fun A1 σ w τ => match A1 with
  | [.int a0] => ∃ r : Int32, w = some (.int r)
  | _ => False
def Qw_wideS : UQ1 := fun A1 σ w τ => Pv_wideS A1 σ → Qv_wideS A1 σ w τ
set_option maxRecDepth 100000 in
set_option maxHeartbeats 4000000 in
theorem v_wideS : UMet 81 (Pv_wideS) (Qv_wideS) := by sorry
theorem w_wideS : UMet 81 (fun _ _ => True) Qw_wideS := fun A1 σ _ w τ h hP => v_wideS A1 σ hP w τ h
def Pv_assignS : UP1 := fun A1 σ => match A1 with
  | [.int a0, .int a1] => True
  | _ => False
def Qv_assignS : UQ1 := fun A1 σ w τ => match A1 with
  | [.int a0, .int a1] => w = none
  | _ => False
def Qw_assignS : UQ1 := fun A1 σ w τ => Pv_assignS A1 σ → Qv_assignS A1 σ w τ
set_option maxRecDepth 100000 in
set_option maxHeartbeats 4000000 in
theorem v_assignS : UMet 100 (Pv_assignS) (Qv_assignS) := by sorry
theorem w_assignS : UMet 100 (fun _ _ => True) Qw_assignS := fun A1 σ _ w τ h hP => v_assignS A1 σ hP w τ h
def Pv_castS : UP1 := fun A1 σ => match A1 with
  | [.int a0, .long a1] => True
  | _ => False
def Qv_castS : UQ1 := fun A1 σ w τ => match A1 with
  | [.int a0, .long a1] => ∃ r : Int64, w = some (.long r)
  | _ => False
def Qw_castS : UQ1 := fun A1 σ w τ => Pv_castS A1 σ → Qv_castS A1 σ w τ
set_option maxRecDepth 100000 in
set_option maxHeartbeats 4000000 in
theorem v_castS : UMet 76 (Pv_castS) (Qv_castS) := by sorry
theorem w_castS : UMet 76 (fun _ _ => True) Qw_castS := fun A1 σ _ w τ h hP => v_castS A1 σ hP w τ h
def Pv_reckonS : UP1 := fun A1 σ => match A1 with
  | [.int a0, .int a1, .long a2, .long a3] => True
  | _ => False
def Qv_reckonS : UQ1 := fun A1 σ w τ => match A1 with
  | [.int a0, .int a1, .long a2, .long a3] => ∃ r : Int64, w = some (.long r)
  | _ => False
def Qw_reckonS : UQ1 := fun A1 σ w τ => Pv_reckonS A1 σ → Qv_reckonS A1 σ w τ
set_option maxRecDepth 100000 in
set_option maxHeartbeats 4000000 in
theorem v_reckonS : UMet 97 (Pv_reckonS) (Qv_reckonS) := by sorry
theorem w_reckonS : UMet 97 (fun _ _ => True) Qw_reckonS := fun A1 σ _ w τ h hP => v_reckonS A1 σ hP w τ h
def Pv_binaryS : UP1 := fun A1 σ => match A1 with
  | [.int a0] => True
  | _ => False
def Qv_binaryS : UQ1 := fun A1 σ w τ => match A1 with
  | [.int a0] => w = none
  | _ => False
def Qw_binaryS : UQ1 := fun A1 σ w τ => Pv_binaryS A1 σ → Qv_binaryS A1 σ w τ
set_option maxRecDepth 100000 in
set_option maxHeartbeats 4000000 in
theorem v_binaryS : UMet 95 (Pv_binaryS) (Qv_binaryS) := by sorry
theorem w_binaryS : UMet 95 (fun _ _ => True) Qw_binaryS := fun A1 σ _ w τ h hP => v_binaryS A1 σ hP w τ h
def Pv_paramsOfS : UP1 := fun A1 σ => match A1 with
  | [.int a0] => True
  | _ => False
def Qv_paramsOfS : UQ1 := fun A1 σ w τ => match A1 with
  | [.int a0] => ∃ r : Int32, w = some (.int r)
  | _ => False
def Qw_paramsOfS : UQ1 := fun A1 σ w τ => Pv_paramsOfS A1 σ → Qv_paramsOfS A1 σ w τ
set_option maxRecDepth 100000 in
set_option maxHeartbeats 4000000 in
theorem v_paramsOfS : UMet 84 (Pv_paramsOfS) (Qv_paramsOfS) := by sorry
theorem w_paramsOfS : UMet 84 (fun _ _ => True) Qw_paramsOfS := fun A1 σ _ w τ h hP => v_paramsOfS A1 σ hP w τ h
def Pv_typeOfParamS : UP1 := fun A1 σ => match A1 with
  | [.int a0, .int a1] => True
  | _ => False
def Qv_typeOfParamS : UQ1 := fun A1 σ w τ => match A1 with
  | [.int a0, .int a1] => ∃ r : Int32, w = some (.int r)
  | _ => False
def Qw_typeOfParamS : UQ1 := fun A1 σ w τ => Pv_typeOfParamS A1 σ → Qv_typeOfParamS A1 σ w τ
set_option maxRecDepth 100000 in
set_option maxHeartbeats 4000000 in
theorem v_typeOfParamS : UMet 83 (Pv_typeOfParamS) (Qv_typeOfParamS) := by sorry
theorem w_typeOfParamS : UMet 83 (fun _ _ => True) Qw_typeOfParamS := fun A1 σ _ w τ h hP => v_typeOfParamS A1 σ hP w τ h
def Pv_isCloserS : UP1 := fun A1 σ => match A1 with
  | [.int a0, .int a1] => True
  | _ => False
def Qv_isCloserS : UQ1 := fun A1 σ w τ => match A1 with
  | [.int a0, .int a1] => ∃ r : Int32, w = some (.int r)
  | _ => False
def Qw_isCloserS : UQ1 := fun A1 σ w τ => Pv_isCloserS A1 σ → Qv_isCloserS A1 σ w τ
set_option maxRecDepth 100000 in
set_option maxHeartbeats 4000000 in
theorem v_isCloserS : UMet 102 (Pv_isCloserS) (Qv_isCloserS) := by sorry
theorem w_isCloserS : UMet 102 (fun _ _ => True) Qw_isCloserS := fun A1 σ _ w τ h hP => v_isCloserS A1 σ hP w τ h
def Pv_isMethodS : UP1 := fun A1 σ => match A1 with
  | [.int a0] => True
  | _ => False
def Qv_isMethodS : UQ1 := fun A1 σ w τ => match A1 with
  | [.int a0] => ∃ r : Int32, w = some (.int r)
  | _ => False
def Qw_isMethodS : UQ1 := fun A1 σ w τ => Pv_isMethodS A1 σ → Qv_isMethodS A1 σ w τ
set_option maxRecDepth 100000 in
set_option maxHeartbeats 4000000 in
theorem v_isMethodS : UMet 103 (Pv_isMethodS) (Qv_isMethodS) := by sorry
theorem w_isMethodS : UMet 103 (fun _ _ => True) Qw_isMethodS := fun A1 σ _ w τ h hP => v_isMethodS A1 σ hP w τ h
def Pv_isNamedS : UP1 := fun A1 σ => match A1 with
  | [.int a0, .int a1] => True
  | _ => False
def Qv_isNamedS : UQ1 := fun A1 σ w τ => match A1 with
  | [.int a0, .int a1] => ∃ r : Int32, w = some (.int r)
  | _ => False
def Qw_isNamedS : UQ1 := fun A1 σ w τ => Pv_isNamedS A1 σ → Qv_isNamedS A1 σ w τ
set_option maxRecDepth 100000 in
set_option maxHeartbeats 4000000 in
theorem v_isNamedS : UMet 86 (Pv_isNamedS) (Qv_isNamedS) := by sorry
theorem w_isNamedS : UMet 86 (fun _ _ => True) Qw_isNamedS := fun A1 σ _ w τ h hP => v_isNamedS A1 σ hP w τ h
def Pv_takesS : UP1 := fun A1 σ => match A1 with
  | [.int a0, .int a1, .int a2] => True
  | _ => False
def Qv_takesS : UQ1 := fun A1 σ w τ => match A1 with
  | [.int a0, .int a1, .int a2] => ∃ r : Int32, w = some (.int r)
  | _ => False
def Qw_takesS : UQ1 := fun A1 σ w τ => Pv_takesS A1 σ → Qv_takesS A1 σ w τ
set_option maxRecDepth 100000 in
set_option maxHeartbeats 4000000 in
theorem v_takesS : UMet 101 (Pv_takesS) (Qv_takesS) := by sorry
theorem w_takesS : UMet 101 (fun _ _ => True) Qw_takesS := fun A1 σ _ w τ h hP => v_takesS A1 σ hP w τ h
def Pv_callS : UP1 := fun A1 σ => match A1 with
  | [.int a0, .int a1] => True
  | _ => False
def Qv_callS : UQ1 := fun A1 σ w τ => match A1 with
  | [.int a0, .int a1] => w = none
  | _ => False
def Qw_callS : UQ1 := fun A1 σ w τ => Pv_callS A1 σ → Qv_callS A1 σ w τ
set_option maxRecDepth 100000 in
set_option maxHeartbeats 4000000 in
theorem v_callS : UMet 104 (Pv_callS) (Qv_callS) := by sorry
theorem w_callS : UMet 104 (fun _ _ => True) Qw_callS := fun A1 σ _ w τ h hP => v_callS A1 σ hP w τ h
def Pv_castsS : UP1 := fun A1 σ => match A1 with
  | [.int a0] => True
  | _ => False
def Qv_castsS : UQ1 := fun A1 σ w τ => match A1 with
  | [.int a0] => w = none
  | _ => False
def Qw_castsS : UQ1 := fun A1 σ w τ => Pv_castsS A1 σ → Qv_castsS A1 σ w τ
set_option maxRecDepth 100000 in
set_option maxHeartbeats 4000000 in
theorem v_castsS : UMet 92 (Pv_castsS) (Qv_castsS) := by sorry
theorem w_castsS : UMet 92 (fun _ _ => True) Qw_castsS := fun A1 σ _ w τ h hP => v_castsS A1 σ hP w τ h
def Pv_isHeldS : UP1 := fun A1 σ => match A1 with
  | [.int a0, .int a1] => True
  | _ => False
def Qv_isHeldS : UQ1 := fun A1 σ w τ => match A1 with
  | [.int a0, .int a1] => ∃ r : Int32, w = some (.int r)
  | _ => False
def Qw_isHeldS : UQ1 := fun A1 σ w τ => Pv_isHeldS A1 σ → Qv_isHeldS A1 σ w τ
set_option maxRecDepth 100000 in
set_option maxHeartbeats 4000000 in
theorem v_isHeldS : UMet 99 (Pv_isHeldS) (Qv_isHeldS) := by sorry
theorem w_isHeldS : UMet 99 (fun _ _ => True) Qw_isHeldS := fun A1 σ _ w τ h hP => v_isHeldS A1 σ hP w τ h
def Pv_choiceS : UP1 := fun A1 σ => match A1 with
  | [.int a0] => True
  | _ => False
def Qv_choiceS : UQ1 := fun A1 σ w τ => match A1 with
  | [.int a0] => w = none
  | _ => False
def Qw_choiceS : UQ1 := fun A1 σ w τ => Pv_choiceS A1 σ → Qv_choiceS A1 σ w τ
set_option maxRecDepth 100000 in
set_option maxHeartbeats 4000000 in
theorem v_choiceS : UMet 98 (Pv_choiceS) (Qv_choiceS) := by sorry
theorem w_choiceS : UMet 98 (fun _ _ => True) Qw_choiceS := fun A1 σ _ w τ h hP => v_choiceS A1 σ hP w τ h
def Pv_literalS : UP1 := fun A1 σ => match A1 with
  | [.int a0, .int a1] => True
  | _ => False
def Qv_literalS : UQ1 := fun A1 σ w τ => match A1 with
  | [.int a0, .int a1] => w = none
  | _ => False
def Qw_literalS : UQ1 := fun A1 σ w τ => Pv_literalS A1 σ → Qv_literalS A1 σ w τ
set_option maxRecDepth 100000 in
set_option maxHeartbeats 4000000 in
theorem v_literalS : UMet 89 (Pv_literalS) (Qv_literalS) := by sorry
theorem w_literalS : UMet 89 (fun _ _ => True) Qw_literalS := fun A1 σ _ w τ h hP => v_literalS A1 σ hP w τ h
def Pv_stepS : UP1 := fun A1 σ => match A1 with
  | [.int a0, .int a1] => True
  | _ => False
def Qv_stepS : UQ1 := fun A1 σ w τ => match A1 with
  | [.int a0, .int a1] => w = none
  | _ => False
def Qw_stepS : UQ1 := fun A1 σ w τ => Pv_stepS A1 σ → Qv_stepS A1 σ w τ
set_option maxRecDepth 100000 in
set_option maxHeartbeats 4000000 in
theorem v_stepS : UMet 90 (Pv_stepS) (Qv_stepS) := by sorry
theorem w_stepS : UMet 90 (fun _ _ => True) Qw_stepS := fun A1 σ _ w τ h hP => v_stepS A1 σ hP w τ h
def Pv_unaryS : UP1 := fun A1 σ => match A1 with
  | [.int a0] => True
  | _ => False
def Qv_unaryS : UQ1 := fun A1 σ w τ => match A1 with
  | [.int a0] => w = none
  | _ => False
def Qw_unaryS : UQ1 := fun A1 σ w τ => Pv_unaryS A1 σ → Qv_unaryS A1 σ w τ
set_option maxRecDepth 100000 in
set_option maxHeartbeats 4000000 in
theorem v_unaryS : UMet 91 (Pv_unaryS) (Qv_unaryS) := by sorry
theorem w_unaryS : UMet 91 (fun _ _ => True) Qw_unaryS := fun A1 σ _ w τ h hP => v_unaryS A1 σ hP w τ h
def Pv_judgeExpS : UP1 := fun A1 σ => match A1 with
  | [.int a0] => True
  | _ => False
def Qv_judgeExpS : UQ1 := fun A1 σ w τ => match A1 with
  | [.int a0] => w = none
  | _ => False
def Qw_judgeExpS : UQ1 := fun A1 σ w τ => Pv_judgeExpS A1 σ → Qv_judgeExpS A1 σ w τ
set_option maxRecDepth 100000 in
set_option maxHeartbeats 4000000 in
theorem v_judgeExpS : UMet 88 (Pv_judgeExpS) (Qv_judgeExpS) := by sorry
theorem w_judgeExpS : UMet 88 (fun _ _ => True) Qw_judgeExpS := fun A1 σ _ w τ h hP => v_judgeExpS A1 σ hP w τ h
def Pv_casedS : UP1 := fun A1 σ => match A1 with
  | [.int a0, .int a1] => True
  | _ => False
def Qv_casedS : UQ1 := fun A1 σ w τ => match A1 with
  | [.int a0, .int a1] => w = none
  | _ => False
def Qw_casedS : UQ1 := fun A1 σ w τ => Pv_casedS A1 σ → Qv_casedS A1 σ w τ
set_option maxRecDepth 100000 in
set_option maxHeartbeats 4000000 in
theorem v_casedS : UMet 108 (Pv_casedS) (Qv_casedS) := by sorry
theorem w_casedS : UMet 108 (fun _ _ => True) Qw_casedS := fun A1 σ _ w τ h hP => v_casedS A1 σ hP w τ h
def Pv_declaredS : UP1 := fun A1 σ => match A1 with
  | [.int a0, .int a1] => True
  | _ => False
def Qv_declaredS : UQ1 := fun A1 σ w τ => match A1 with
  | [.int a0, .int a1] => w = none
  | _ => False
def Qw_declaredS : UQ1 := fun A1 σ w τ => Pv_declaredS A1 σ → Qv_declaredS A1 σ w τ
set_option maxRecDepth 100000 in
set_option maxHeartbeats 4000000 in
theorem v_declaredS : UMet 107 (Pv_declaredS) (Qv_declaredS) := by sorry
theorem w_declaredS : UMet 107 (fun _ _ => True) Qw_declaredS := fun A1 σ _ w τ h hP => v_declaredS A1 σ hP w τ h
def Pv_keepS : UP1 := fun A1 σ => match A1 with
  | [.int a0] => True
  | _ => False
def Qv_keepS : UQ1 := fun A1 σ w τ => match A1 with
  | [.int a0] => w = none
  | _ => False
def Qw_keepS : UQ1 := fun A1 σ w τ => Pv_keepS A1 σ → Qv_keepS A1 σ w τ
set_option maxRecDepth 100000 in
set_option maxHeartbeats 4000000 in
theorem v_keepS : UMet 106 (Pv_keepS) (Qv_keepS) := by sorry
theorem w_keepS : UMet 106 (fun _ _ => True) Qw_keepS := fun A1 σ _ w τ h hP => v_keepS A1 σ hP w τ h
def Pv_returnsS : UP1 := fun A1 σ => match A1 with
  | [.int a0, .int a1] => True
  | _ => False
def Qv_returnsS : UQ1 := fun A1 σ w τ => match A1 with
  | [.int a0, .int a1] => w = none
  | _ => False
def Qw_returnsS : UQ1 := fun A1 σ w τ => Pv_returnsS A1 σ → Qv_returnsS A1 σ w τ
set_option maxRecDepth 100000 in
set_option maxHeartbeats 4000000 in
theorem v_returnsS : UMet 109 (Pv_returnsS) (Qv_returnsS) := by sorry
theorem w_returnsS : UMet 109 (fun _ _ => True) Qw_returnsS := fun A1 σ _ w τ h hP => v_returnsS A1 σ hP w τ h
def Pv_judgeStepS : UP1 := fun A1 σ => match A1 with
  | [.int a0] => True
  | _ => False
def Qv_judgeStepS : UQ1 := fun A1 σ w τ => match A1 with
  | [.int a0] => w = none
  | _ => False
def Qw_judgeStepS : UQ1 := fun A1 σ w τ => Pv_judgeStepS A1 σ → Qv_judgeStepS A1 σ w τ
set_option maxRecDepth 100000 in
set_option maxHeartbeats 4000000 in
theorem v_judgeStepS : UMet 105 (Pv_judgeStepS) (Qv_judgeStepS) := by sorry
theorem w_judgeStepS : UMet 105 (fun _ _ => True) Qw_judgeStepS := fun A1 σ _ w τ h hP => v_judgeStepS A1 σ hP w τ h
def Pv_methodsToldS : UP1 := fun A1 σ => match A1 with
  | [] => True
  | _ => False
def Qv_methodsToldS : UQ1 := fun A1 σ w τ => match A1 with
  | [] => w = none
  | _ => False
def Qw_methodsToldS : UQ1 := fun A1 σ w τ => Pv_methodsToldS A1 σ → Qv_methodsToldS A1 σ w τ
set_option maxRecDepth 100000 in
set_option maxHeartbeats 4000000 in
theorem v_methodsToldS : UMet 87 (Pv_methodsToldS) (Qv_methodsToldS) := by sorry
theorem w_methodsToldS : UMet 87 (fun _ _ => True) Qw_methodsToldS := fun A1 σ _ w τ h hP => v_methodsToldS A1 σ hP w τ h
def Pv_judgeAllS : UP1 := fun A1 σ => match A1 with
  | [] => True
  | _ => False
def Qv_judgeAllS : UQ1 := fun A1 σ w τ => match A1 with
  | [] => w = none
  | _ => False
def Qw_judgeAllS : UQ1 := fun A1 σ w τ => Pv_judgeAllS A1 σ → Qv_judgeAllS A1 σ w τ
set_option maxRecDepth 100000 in
set_option maxHeartbeats 4000000 in
theorem v_judgeAllS : UMet 82 (Pv_judgeAllS) (Qv_judgeAllS) := by sorry
theorem w_judgeAllS : UMet 82 (fun _ _ => True) Qw_judgeAllS := fun A1 σ _ w τ h hP => v_judgeAllS A1 σ hP w τ h
def Qw_judgeAllE : UQ1 := fun A1 σ w τ => Qw_judgeAllS A1 σ w τ ∧ EvM 82 A1 σ w τ
theorem w_judgeAllE : UMet 82 (fun _ _ => True) Qw_judgeAllE := fun A1 σ q w τ h => ⟨w_judgeAllS A1 σ q w τ h, h⟩
def Pv_isGood : UP1 := fun A1 σ => match A1 with
  | [] => True
  | _ => False
def Qv_isGood : UQ1 := fun A1 σ w τ => match A1 with
  | [] => JdR σ τ ∧ ∃ b : Int32, w = some (.int b) ∧ (¬ b = 0 ↔ gI τ 66 = 0)
  | _ => False
def Qw_isGood : UQ1 := fun A1 σ w τ => Pv_isGood A1 σ → Qv_isGood A1 σ w τ
set_option maxRecDepth 100000 in
set_option maxHeartbeats 4000000 in
theorem v_isGood : UMet 125 (Pv_isGood) (Qv_isGood) := by sorry
theorem w_isGood : UMet 125 (fun _ _ => True) Qw_isGood := fun A1 σ _ w τ h hP => v_isGood A1 σ hP w τ h
/-! the reference's answers: what type, constant, ends, assigned, means tell -/
def XbR (σ : RS) (i k r : Int32) (n : Int) : Prop := (r = -2 ∧ ∀ x : Nat, (x : Int) < n → ¬ (aI σ 75 x = i ∧ aI σ 76 x = k)) ∨ (0 ≤ r.toInt ∧ r.toInt < n ∧ (aI σ 75 r.toNatClampNeg = i ∧ aI σ 76 r.toNatClampNeg = k) ∧ ∀ x : Nat, r.toInt < (x : Int) → (x : Int) < n → ¬ (aI σ 75 x = i ∧ aI σ 76 x = k))
theorem XbR.n {σ : RS} {i k r : Int32} {n : Nat} (h : XbR σ i k r (n : Int)) (q : ¬ (aI σ 75 n = i ∧ aI σ 76 n = k)) : XbR σ i k r ((n + 1 : Nat) : Int) := by sorry
def tkcR (σ : RS) : Int32 := if 0 < gI σ 2 then gI σ 2 - 1 else 0
def tokR (σ : RS) (i : Int32) : Prop := 0 ≤ i ∧ i < tkcR σ
def Pv_expAt : UP1 := fun A1 σ => match A1 with
  | [.int i, .int k] => True
  | _ => False
def Qv_expAt : UQ1 := fun A1 σ w τ => match A1 with
  | [.int i, .int k] => σ = τ ∧ ∃ r : Int32, w = some (.int r) ∧ XaR σ i k r
  | _ => False
def Qw_expAt : UQ1 := fun A1 σ w τ => Pv_expAt A1 σ → Qv_expAt A1 σ w τ
set_option maxRecDepth 100000 in
set_option maxHeartbeats 4000000 in
theorem v_expAt : UMet 134 (Pv_expAt) (Qv_expAt) := by sorry
theorem w_expAt : UMet 134 (fun _ _ => True) Qw_expAt := fun A1 σ _ w τ h hP => v_expAt A1 σ hP w τ h
def Pv_tokens : UP1 := fun A1 σ => match A1 with
  | [] => True
  | _ => False
def Qv_tokens : UQ1 := fun A1 σ w τ => match A1 with
  | [] => σ = τ ∧ ∃ r : Int32, w = some (.int r) ∧ r = tkcR σ
  | _ => False
def Qw_tokens : UQ1 := fun A1 σ w τ => Pv_tokens A1 σ → Qv_tokens A1 σ w τ
set_option maxRecDepth 100000 in
set_option maxHeartbeats 4000000 in
theorem v_tokens : UMet 127 (Pv_tokens) (Qv_tokens) := by sorry
theorem w_tokens : UMet 127 (fun _ _ => True) Qw_tokens := fun A1 σ _ w τ h hP => v_tokens A1 σ hP w τ h
def Pv_isToken : UP1 := fun A1 σ => match A1 with
  | [.int i] => True
  | _ => False
def Qv_isToken : UQ1 := fun A1 σ w τ => match A1 with
  | [.int i] => σ = τ ∧ ∃ b : Int32, w = some (.int b) ∧ (¬ b = 0 ↔ tokR σ i)
  | _ => False
def Qw_isToken : UQ1 := fun A1 σ w τ => Pv_isToken A1 σ → Qv_isToken A1 σ w τ
set_option maxRecDepth 100000 in
set_option maxHeartbeats 4000000 in
theorem v_isToken : UMet 129 (Pv_isToken) (Qv_isToken) := by sorry
theorem w_isToken : UMet 129 (fun _ _ => True) Qw_isToken := fun A1 σ _ w τ h hP => v_isToken A1 σ hP w τ h
def Pv_type : UP1 := fun A1 σ => match A1 with
  | [.int i, .int k] => True
  | _ => False
def Qv_type : UQ1 := fun A1 σ w τ => match A1 with
  | [.int i, .int k] => JdR σ τ ∧ ∃ r : Int32, w = some (.int r) ∧ ((¬ gI τ 66 = 0 ∧ r = -2) ∨ (gI τ 66 = 0 ∧ ∃ x, XaR τ i k x ∧ ((x < 0 ∧ r = -1) ∨ (¬ x < 0 ∧ r = aI τ 77 x.toNatClampNeg))))
  | _ => False
def Qw_type : UQ1 := fun A1 σ w τ => Pv_type A1 σ → Qv_type A1 σ w τ
set_option maxRecDepth 100000 in
set_option maxHeartbeats 4000000 in
theorem v_type : UMet 135 (Pv_type) (Qv_type) := by sorry
theorem w_type : UMet 135 (fun _ _ => True) Qw_type := fun A1 σ _ w τ h hP => v_type A1 σ hP w τ h
def Pv_constant : UP1 := fun A1 σ => match A1 with
  | [.int i, .int k] => True
  | _ => False
def Qv_constant : UQ1 := fun A1 σ w τ => match A1 with
  | [.int i, .int k] => JdR σ τ ∧ ∃ r : Int64, w = some (.long r) ∧ ((¬ gI τ 66 = 0 ∧ r = (Int64.ofInt (-1234567890123))) ∨ (gI τ 66 = 0 ∧ ∃ x, XaR τ i k x ∧ (((x < 0 ∨ aI τ 78 x.toNatClampNeg = 0) ∧ r = (Int64.ofInt (-1234567890123))) ∨ (¬ (x < 0 ∨ aI τ 78 x.toNatClampNeg = 0) ∧ r = aL τ 79 x.toNatClampNeg))))
  | _ => False
def Qw_constant : UQ1 := fun A1 σ w τ => Pv_constant A1 σ → Qv_constant A1 σ w τ
set_option maxRecDepth 100000 in
set_option maxHeartbeats 4000000 in
theorem v_constant : UMet 136 (Pv_constant) (Qv_constant) := by sorry
theorem w_constant : UMet 136 (fun _ _ => True) Qw_constant := fun A1 σ _ w τ h hP => v_constant A1 σ hP w τ h
def Pv_ends : UP1 := fun A1 σ => match A1 with
  | [.int i] => True
  | _ => False
def Qv_ends : UQ1 := fun A1 σ w τ => match A1 with
  | [.int i] => JdR σ τ ∧ ∃ r : Int32, w = some (.int r) ∧ ((¬ gI τ 66 = 0 ∧ r = -2) ∨ (gI τ 66 = 0 ∧ ((¬ (tokR τ i ∧ ¬ aI τ 109 i.toNatClampNeg = 0) ∧ r = -1) ∨ ((tokR τ i ∧ ¬ aI τ 109 i.toNatClampNeg = 0) ∧ r = if aI τ 111 i.toNatClampNeg = 0 then 0 else 1))))
  | _ => False
def Qw_ends : UQ1 := fun A1 σ w τ => Pv_ends A1 σ → Qv_ends A1 σ w τ
set_option maxRecDepth 100000 in
set_option maxHeartbeats 4000000 in
theorem v_ends : UMet 137 (Pv_ends) (Qv_ends) := by sorry
theorem w_ends : UMet 137 (fun _ _ => True) Qw_ends := fun A1 σ _ w τ h hP => v_ends A1 σ hP w τ h
def Pv_assigned : UP1 := fun A1 σ => match A1 with
  | [.int i, .int k] => True
  | _ => False
def Qv_assigned : UQ1 := fun A1 σ w τ => match A1 with
  | [.int i, .int k] => JdR σ τ ∧ ∃ r : Int32, w = some (.int r) ∧ ((¬ gI τ 66 = 0 ∧ r = -2) ∨ (gI τ 66 = 0 ∧ ((¬ (tokR τ i ∧ ¬ aI τ 109 i.toNatClampNeg = 0 ∧ 0 ≤ k ∧ k < gI τ 42 ∧ aI τ 43 k.toNatClampNeg < i ∧ i ≤ aI τ 48 k.toNatClampNeg) ∧ r = -1) ∨ ((tokR τ i ∧ ¬ aI τ 109 i.toNatClampNeg = 0 ∧ 0 ≤ k ∧ k < gI τ 42 ∧ aI τ 43 k.toNatClampNeg < i ∧ i ≤ aI τ 48 k.toNatClampNeg) ∧ ((bitR (aL τ 110 i.toNatClampNeg) k ∧ r = 1) ∨ (¬ bitR (aL τ 110 i.toNatClampNeg) k ∧ r = 0))))))
  | _ => False
def Qw_assigned : UQ1 := fun A1 σ w τ => Pv_assigned A1 σ → Qv_assigned A1 σ w τ
set_option maxRecDepth 100000 in
set_option maxHeartbeats 4000000 in
theorem v_assigned : UMet 138 (Pv_assigned) (Qv_assigned) := by sorry
theorem w_assigned : UMet 138 (fun _ _ => True) Qw_assigned := fun A1 σ _ w τ h hP => v_assigned A1 σ hP w τ h
def Pv_means : UP1 := fun A1 σ => match A1 with
  | [.int i] => True
  | _ => False
def Qv_means : UQ1 := fun A1 σ w τ => match A1 with
  | [.int i] => ∃ r : Int32, w = some (.int r) ∧ ((¬ (tokR σ i ∧ aI σ 3 i.toNatClampNeg = 1) ∧ r = -1 ∧ τ = σ) ∨ ((tokR σ i ∧ aI σ 3 i.toNatClampNeg = 1) ∧ JdR σ τ ∧ ((gI τ 66 = 0 ∧ r = aI τ 80 i.toNatClampNeg) ∨ (¬ gI τ 66 = 0 ∧ r = -2))))
  | _ => False
def Qw_means : UQ1 := fun A1 σ w τ => Pv_means A1 σ → Qv_means A1 σ w τ
set_option maxRecDepth 100000 in
set_option maxHeartbeats 4000000 in
theorem v_means : UMet 133 (Pv_means) (Qv_means) := by sorry
theorem w_means : UMet 133 (fun _ _ => True) Qw_means := fun A1 σ _ w τ h hP => v_means A1 σ hP w τ h
/-! along the codes: the tables are tbT's, the checks are those of the last tables -/
theorem xc_sf {l L : List ItZ} (h : l <:+ L) : xcZ l ≤ xcZ L := by sorry
theorem xg_sf {l L : List ItZ} (h : l <:+ L) : ∀ i, i < xcZ l → xgZ L i = xgZ l i := by sorry
theorem xg_at {x : XrZ} {l L : List ItZ} (h : (.inl x :: l) <:+ L) : xgZ L (xcZ l) = x := by sorry
theorem okl_tb {C : CxT} {N : Int → Int} {L : List ItZ} : ∀ {l : List ItZ} {T : TbT}, l <:+ L → OkL C N (t0T C.1 (xgZ L)) l T → tbT C (xgZ L) (xcZ l) = some T := by sorry
/-- numbers of exps that codes of S's name -/
def RgI (L : List ItZ) : Prop := ∀ y l, (.inr y :: l) <:+ L → (tkO y → 0 ≤ y.2.2.2.2 ∧ y.2.2.2.2 < (xcZ l : Int)) ∧ (y.1 = 38 → 0 ≤ swZ y.2.1 l)
theorem sw_rg {L : List ItZ} (h : RgI L) {k : Int} : ∀ {l : List ItZ}, l <:+ L → 0 ≤ swZ k l → swZ k l < (xcZ l : Int) := by sorry
theorem itN_sf : ∀ {l : List ItZ} {o : Nat} {x : ItZ}, itN l o = some x → ∃ l', (x :: l') <:+ l := by sorry
/-- a check asks the same of later tables -/
theorem okS_ta {C : CxT} {N : Int → Int} {T V : TbT} {L l : List ItZ} {y : Int × Int × Int × Int × Int} (hR : RgI L) (hs : (.inr y :: l) <:+ L) (ta : TaZ (xcZ l) T V) : okS C N V l y ↔ okS C N T l y := by sorry
theorem tb_ta {C : CxT} {xs : Nat → XrZ} {i j : Nat} {T V : TbT} (h : tbT C xs i = some T) (g : tbT C xs j = some V) (hij : i ≤ j) : TaZ i T V := fun q hq => tb_o h j V hij g q hq
/-- none is told along the codes: the tables stand, and every code is fine by them -/
theorem okl_iff {C : CxT} {N : Int → Int} {L : List ItZ} (hR : RgI L) {T : TbT} : OkL C N (t0T C.1 (xgZ L)) L T ↔ (tbT C (xgZ L) (xcZ L) = some T ∧ ∀ y l, (.inr y :: l) <:+ L → okS C N T l y) := by sorry

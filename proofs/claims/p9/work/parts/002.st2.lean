/-! reading: what it takes -/
/-- how far a list's row may still grow -/
def gpC (σ : CsC) (a : Nat) : Nat := match Nat.beq (tgC σ a) 0 with
  | true => (match fRC σ a 1 with
    | some r => (match Nat.blt r 1000000 with
      | true => 6500 - alC σ r
      | false => 6500)
    | none => 6500)
  | false => 0
def gsC (σ : CsC) : Nat → Nat
  | 0 => 0
  | n + 1 => gsC σ n + gpC σ n
theorem gsC_eq {σ τ : CsC} (n : Nat) (h : ∀ a, a < n → gpC τ a = gpC σ a) : gsC τ n = gsC σ n := by sorry
theorem gsC_one {σ τ : CsC} {x d : Nat} (n : Nat) (hx : x < n) (h : ∀ a, a < n → a ≠ x → gpC τ a = gpC σ a) (hd : gpC τ x + d ≤ gpC σ x) : gsC τ n + d ≤ gsC σ n := by sorry
theorem gsC_nil {σ : CsC} {n m : Nat} (hn : n ≤ m) (h : ∀ a, n ≤ a → a < m → gpC σ a = 0) : gsC σ m = gsC σ n := by sorry
theorem gpC_no {σ : CsC} {a : Nat} (h : tgC σ a ≠ 0) : gpC σ a = 0 := by sorry
theorem gpC_x {σ τ : CsC} {a : Nat} (h : HI0 σ) (ha : a < cnC σ) (ht : tgC τ a = tgC σ a) (hr : tgC σ a = 0 → fRC τ a 1 = fRC σ a 1) (hl : ∀ r, r < cnC σ → tgC σ r = 103 → alC τ r = alC σ r) : gpC τ a = gpC σ a := by sorry
/-- an exp that waits for its right operand -/
def WtC (σ : CsC) (a : Nat) : Prop := fIC σ a 60 = 7 ∧ fRC σ a 73 = none
/-- what a piece of reading takes, x apart -/
def GwC (x : Option Nat) (σ τ : CsC) : Prop := cnC σ ≤ cnC τ ∧ slC τ + 4 * gsC τ (cnC τ) ≤ slC σ + 4 * gsC σ (cnC σ) + 22 * (cnC τ - cnC σ) ∧ ∀ a, a < cnC σ → (tgC σ a < 50 ∨ 100 ≤ tgC σ a → tgC τ a = tgC σ a ∧ ghC τ a = ghC σ a) ∧ (tgC σ a = 100 → ghC σ a = 2 → eIC τ a = eIC σ a) ∧ (x ≠ some a → tgC σ a = 2 → WtC σ a → WtC τ a ∧ fRC τ a 75 = fRC σ a 75)
theorem GwC.rf {x : Option Nat} {σ : CsC} : GwC x σ σ := by sorry
theorem GwC.tr {x : Option Nat} {σ τ υ : CsC} (h1 : GwC x σ τ) (h2 : GwC x τ υ) : GwC x σ υ := by sorry
theorem GwC.nt {x : Nat} {y : Option Nat} {σ τ υ : CsC} (h1 : GwC y σ τ) (h2 : GwC (some x) τ υ) (hx : cnC σ ≤ x) : GwC y σ υ := by sorry
theorem GwC.ap {x : Option Nat} {σ τ : CsC} (h : GwC none σ τ) : GwC x σ τ := by sorry
/-- a step that makes nothing and leaves lists, codes of tokens and what waits alone -/
theorem ExC.gw {M : List Nat} {x : Option Nat} {σ τ : CsC} (h : HI0 σ) (e : ExC M σ τ) (hm : M.elem 1 = false ∧ M.elem 2 = false ∧ M.elem 73 = false ∧ M.elem 75 = false ∧ M.elem 999 = false ∧ M.elem 998 = false) : GwC x σ τ := by sorry
theorem ExC.sg {M : List Nat} {σ τ : CsC} (h : HI0 σ) (e : ExC M σ τ) (hm : M.elem 1 = false ∧ M.elem 999 = false) : slC τ + 4 * gsC τ (cnC τ) = slC σ + 4 * gsC σ (cnC σ) ∧ cnC τ = cnC σ := by sorry
/-- how far: the token, the fault; the cells: e where no fault is told, f where one comes, g where one was -/
def CtC (σ : CsC) (r : Nat) : Int := match fRC σ r 241 with
  | some t => (fIC σ t 305).toInt
  | none => 0
def CqC0 (r : Nat) (e f g : Int) (σ τ : CsC) (m n : Int) : Prop :=
  (¬ (fIC σ r 243).toInt = 0 → n ≤ m + g) ∧ ((fIC σ r 243).toInt = 0 → (fIC τ r 243).toInt = 0 → n + 8 * (fIC σ r 242).toInt ≤ m + 8 * (fIC τ r 242).toInt + e) ∧ ((fIC σ r 243).toInt = 0 → ¬ (fIC τ r 243).toInt = 0 → n + 8 * (fIC σ r 242).toInt ≤ m + 8 * (fIC τ r 242).toInt + f)
def CoC (r : Nat) (e f g : Int) (σ τ : CsC) : Prop := (fIC σ r 242).toInt ≤ (fIC τ r 242).toInt ∧ CtC τ r = CtC σ r ∧ ((fIC σ r 242).toInt ≤ CtC σ r → (fIC τ r 242).toInt ≤ CtC τ r) ∧
  (¬ (fIC σ r 243).toInt = 0 → ¬ (fIC τ r 243).toInt = 0 ∧ (fIC τ r 242).toInt = (fIC σ r 242).toInt) ∧ CqC0 r e f g σ τ (cnC σ) (cnC τ) ∧
  ∀ a, a < cnC σ → tgC σ a = 0 → (a < cnC τ ∧ tgC τ a = 0) ∧ CqC0 r e f g σ τ (fIC σ a 2).toInt (fIC τ a 2).toInt
theorem CqC0.tr {r : Nat} {e f g E F G e' f' g' m n o : Int} {σ τ υ : CsC} (p1 : ¬ (fIC σ r 243).toInt = 0 → ¬ (fIC τ r 243).toInt = 0 ∧ (fIC τ r 242).toInt = (fIC σ r 242).toInt) (p2 : ¬ (fIC τ r 243).toInt = 0 → ¬ (fIC υ r 243).toInt = 0 ∧ (fIC υ r 242).toInt = (fIC τ r 242).toInt) (h1 : CqC0 r e f g σ τ m n) (h2 : CqC0 r E F G τ υ n o) (he : e + E ≤ e') (hf1 : f + G ≤ f') (hf2 : e + F ≤ f') (hg : g + G ≤ g') : CqC0 r e' f' g' σ υ m o := by sorry
theorem CqC0.mo {r : Nat} {e f g e' f' g' m n : Int} {σ τ : CsC} (h : CqC0 r e f g σ τ m n) (he : e ≤ e') (hf : f ≤ f') (hg : g ≤ g') : CqC0 r e' f' g' σ τ m n := by sorry
theorem CoC.tr {r : Nat} {e f g E F G e' f' g' : Int} {σ τ υ : CsC} (h1 : CoC r e f g σ τ) (h2 : CoC r E F G τ υ) (he : e + E ≤ e') (hf1 : f + G ≤ f') (hf2 : e + F ≤ f') (hg : g + G ≤ g') : CoC r e' f' g' σ υ := by sorry
theorem CoC.mo {r : Nat} {e f g e' f' g' : Int} {σ τ : CsC} (h : CoC r e f g σ τ) (he : e ≤ e') (hf : f ≤ f') (hg : g ≤ g') : CoC r e' f' g' σ τ := by sorry
theorem CqC0.nf {r : Nat} {e f g f' g' m n : Int} {σ τ : CsC} (h : CqC0 r e f g σ τ m n) (p : ¬ (fIC σ r 243).toInt = 0 → ¬ (fIC τ r 243).toInt = 0 ∧ (fIC τ r 242).toInt = (fIC σ r 242).toInt) (hz : (fIC τ r 243).toInt = 0) : CqC0 r e f' g' σ τ m n := ⟨fun z => absurd hz (p z).1, h.2.1, fun _ w => absurd hz w⟩
/-- no fault has come -/
theorem CoC.nf {r : Nat} {e f g f' g' : Int} {σ τ : CsC} (h : CoC r e f g σ τ) (hz : (fIC τ r 243).toInt = 0) : CoC r e f' g' σ τ := by sorry
theorem CqC0.wf {r : Nat} {e f g e' f' m n : Int} {σ τ : CsC} (h : CqC0 r e f g σ τ m n) (hz : ¬ (fIC σ r 243).toInt = 0) : CqC0 r e' f' g σ τ m n := ⟨h.1, fun w => absurd w hz, fun w => absurd w hz⟩
/-- a fault was there -/
theorem CoC.wf {r : Nat} {e f g e' f' : Int} {σ τ : CsC} (h : CoC r e f g σ τ) (hz : ¬ (fIC σ r 243).toInt = 0) : CoC r e' f' g σ τ := by sorry
theorem CqC0.rf {r : Nat} {σ : CsC} {m : Int} : CqC0 r 0 0 0 σ σ m m := by sorry
theorem CoC.rf {r : Nat} {σ : CsC} : CoC r 0 0 0 σ σ := by sorry
theorem CtC.x {M : List Nat} {σ τ : CsC} {r : Nat} (h : HI0 σ) (t : TyC σ r 8) (e : ExC M σ τ) (hm : M.elem 241 = false ∧ M.elem 305 = false) : CtC τ r = CtC σ r := by sorry
theorem CqC0.u {r : Nat} {u m n : Int} {σ τ : CsC} (e1 : fIC τ r 242 = fIC σ r 242) (e2 : fIC τ r 243 = fIC σ r 243) (h : n ≤ m + u) : CqC0 r u u u σ τ m n := by sorry
/-- a step that leaves the reader's place alone: what it takes is at most u -/
theorem ExC.cou2 {M : List Nat} {σ τ : CsC} {r : Nat} {u : Int} (h : HI0 σ) (t : TyC σ r 8) (e : ExC M σ τ) (hm : M.elem 241 = false ∧ M.elem 305 = false ∧ M.elem 242 = false ∧ M.elem 243 = false) (hu : (cnC τ : Int) ≤ cnC σ + u) (hs : ∀ a, a < cnC σ → tgC σ a = 0 → (fIC τ a 2).toInt ≤ (fIC σ a 2).toInt + u) : CoC r u u u σ τ := by sorry
theorem ExC.cou {M : List Nat} {σ τ : CsC} {r : Nat} {u : Int} (h : HI0 σ) (t : TyC σ r 8) (e : ExC M σ τ) (hm : M.elem 241 = false ∧ M.elem 305 = false ∧ M.elem 242 = false ∧ M.elem 243 = false ∧ M.elem 2 = false) (hu : (cnC τ : Int) ≤ cnC σ + u) : CoC r u u u σ τ := by sorry
theorem RawC.n0 {σ : CsC} {a c : Nat} (r : RawC σ a c) : tgC σ a ≠ 0 := by sorry
theorem ExT.cn {a : Nat} {M : List Nat} {σ τ : CsC} (h : ExT a M σ τ) (hm : M.elem 999 = false) : cnC τ = cnC σ := by sorry
theorem rfo273 {σ : CsC} {a : Nat} {o : Option Nat} (t : OtC σ o 9) (h : ∀ b, o = some b → b < a) : RfC σ a 273 o := by sorry
/-- an object under construction: its fields, its end -/
theorem ExT.co {a c : Nat} {M : List Nat} {σ τ : CsC} {r : Nat} {u : Int} (h : HI0 σ) (t : TyC σ r 8) (w : RawC σ a c) (e : ExT a M σ τ) (hm : M.elem 241 = false ∧ M.elem 305 = false ∧ M.elem 242 = false ∧ M.elem 243 = false ∧ M.elem 2 = false) (hu : (cnC τ : Int) ≤ cnC σ + u) : CoC r u u u σ τ := by sorry
theorem ExT.gw {a c : Nat} {x : Option Nat} {σ τ : CsC} (h : HI0 σ) (w : RawC σ a c) (e : ExT a [] σ τ) (ht : tgC τ a ≠ 0) : GwC x σ τ := by sorry
/-- one more object or row -/
theorem ExC.gwn {x : Option Nat} {σ τ : CsC} {n : Nat} (h : HI0 σ) (e : ExC [999] σ τ) (hc : cnC τ = cnC σ + 1) (hs : slC τ = slC σ + n) (hn : n ≤ 22) (ht : tgC τ (cnC σ) ≠ 0) : GwC x σ τ := by sorry
def RdC (r : Nat) (x : Option Nat) (e f g : Int) (σ τ : CsC) : Prop := GwC x σ τ ∧ CoC r e f g σ τ
theorem RdC.rf {r : Nat} {x : Option Nat} {σ : CsC} : RdC r x 0 0 0 σ σ := ⟨GwC.rf, CoC.rf⟩
theorem RdC.tr {r : Nat} {x : Option Nat} {e f g E F G e' f' g' : Int} {σ τ υ : CsC} (h1 : RdC r x e f g σ τ) (h2 : RdC r x E F G τ υ) (he : e + E ≤ e') (hf1 : f + G ≤ f') (hf2 : e + F ≤ f') (hg : g + G ≤ g') : RdC r x e' f' g' σ υ := ⟨h1.1.tr h2.1, h1.2.tr h2.2 he hf1 hf2 hg⟩
theorem RdC.trx {r y : Nat} {x : Option Nat} {e f g E F G e' f' g' : Int} {σ τ υ : CsC} (h1 : RdC r x e f g σ τ) (h2 : RdC r (some y) E F G τ υ) (hy : cnC σ ≤ y) (he : e + E ≤ e') (hf1 : f + G ≤ f') (hf2 : e + F ≤ f') (hg : g + G ≤ g') : RdC r x e' f' g' σ υ := ⟨h1.1.nt h2.1 hy, h1.2.tr h2.2 he hf1 hf2 hg⟩
theorem RdC.mo {r : Nat} {x : Option Nat} {e f g e' f' g' : Int} {σ τ : CsC} (h : RdC r x e f g σ τ) (he : e ≤ e') (hf : f ≤ f') (hg : g ≤ g') : RdC r x e' f' g' σ τ := ⟨h.1, h.2.mo he hf hg⟩
theorem RdC.nf {r : Nat} {x : Option Nat} {e f g : Int} (f' g' : Int) {σ τ : CsC} (h : RdC r x e f g σ τ) (hz : (fIC τ r 243).toInt = 0) : RdC r x e f' g' σ τ := ⟨h.1, h.2.nf hz⟩
theorem RdC.wf {r : Nat} {x : Option Nat} {e f g : Int} (e' f' : Int) {σ τ : CsC} (h : RdC r x e f g σ τ) (hz : ¬ (fIC σ r 243).toInt = 0) : RdC r x e' f' g σ τ := ⟨h.1, h.2.wf hz⟩
theorem RdC.ap {r : Nat} {x : Option Nat} {e f g : Int} {σ τ : CsC} (h : RdC r none e f g σ τ) : RdC r x e f g σ τ := ⟨h.1.ap, h.2⟩
/-- the room that is left -/
def RmC (σ : CsC) (r : Nat) (X : Int) : Prop := (cnC σ : Int) + X ≤ cpC σ ∧ (slC σ : Int) + 4 * gsC σ (cnC σ) + 22 * X + 20000 ≤ spC σ ∧ ∀ q, fRC σ r 240 = some q → ∀ k, [211, 212, 213, 214].elem k = true → ∀ a, fRC σ q k = some a → (fIC σ a 2).toInt + X ≤ 4300
def BgC (σ : CsC) (r : Nat) (F G : Int) : Prop := ((fIC σ r 243).toInt = 0 → RmC σ r (8 * (501 - (fIC σ r 242).toInt) + F)) ∧ (¬ (fIC σ r 243).toInt = 0 → RmC σ r (8 * (501 - (fIC σ r 242).toInt) + G))
theorem RmC.mo {σ : CsC} {r : Nat} {X Y : Int} (h : RmC σ r X) (hx : Y ≤ X) : RmC σ r Y := by sorry
theorem RmC.st {M : List Nat} {x : Option Nat} {σ τ : CsC} {r : Nat} {X Y : Int} (h : RmC σ r X) (hI : HI0 σ) (t : TyC σ r 8) (e : ExC M σ τ) (w : GwC x σ τ) (hm : M.elem 240 = false) (hc : (cnC τ : Int) + Y ≤ cnC σ + X) (hs : ∀ a, a < cnC σ → tgC σ a = 0 → (fIC τ a 2).toInt + Y ≤ (fIC σ a 2).toInt + X) : RmC τ r Y := by sorry
theorem BgC.st {M : List Nat} {x : Option Nat} {σ τ : CsC} {r : Nat} {F G e f g F' G' : Int} (h : BgC σ r F G) (hI : HIC σ) (t : TyC σ r 8) (E : ExC M σ τ) (w : RdC r x e f g σ τ) (hm : M.elem 240 = false) (h1 : e + F' ≤ F) (h2 : f + G' ≤ F) (h3 : g + G' ≤ G) : BgC τ r F' G' := by sorry
theorem BgC.stn {M : List Nat} {x : Option Nat} {σ τ : CsC} {r : Nat} {F G e f g F' G' : Int} (h : BgC σ r F G) (hI : HIC σ) (t : TyC σ r 8) (E : ExC M σ τ) (w : RdC r x e f g σ τ) (hm : M.elem 240 = false) (hz : (fIC τ r 243).toInt = 0) (h1 : e + F' ≤ F) : BgC τ r F' G' := by sorry
/-- room for u cells -/
theorem BgC.new {σ : CsC} {r : Nat} {F G : Int} (h : BgC σ r F G) (hI : HI0 σ) (t : TyC σ r 8) {u : Nat} (hF : (u : Int) ≤ F) (hG : (u : Int) ≤ G) : cnC σ + u ≤ cpC σ ∧ slC σ + 22 * u + 20000 ≤ spC σ := by sorry
theorem BgC.sz {σ : CsC} {r q k a : Nat} {F G : Int} (h : BgC σ r F G) (hI : HI0 σ) (t : TyC σ r 8) (hF : 1 ≤ F) (hG : 1 ≤ G) (hq : fRC σ r 240 = some q) (hk : [211, 212, 213, 214].elem k = true) (ha : fRC σ q k = some a) : (fIC σ a 2).toInt < 4300 := by sorry
/-- the token behind the last is END or WRONG -/
def CdC (σ : CsC) (r : Nat) : Prop := ∀ t, fRC σ r 241 = some t → ∀ c, fRC σ t 302 = some c → (eIC σ c (fIC σ t 305).toNatClampNeg).toInt = 84 ∨ (eIC σ c (fIC σ t 305).toNatClampNeg).toInt = 85
/-- the code that is read -/
def CkC2 (σ : CsC) (r : Nat) : Int := match fRC σ r 241 with
  | some t => (match fRC σ t 302 with
    | some c => if (fIC σ r 243).toInt = 0 then (eIC σ c (fIC σ r 242).toNatClampNeg).toInt else -1
    | none => 0)
  | none => 0
theorem CkC2.y {σ : CsC} {r t c : Nat} {x v : Int32} (e1 : fRC σ r 241 = some t) (e2 : fRC σ t 302 = some c) (e3 : fIC σ r 242 = x) (hz : (fIC σ r 243).toInt = 0) (e4 : eIC σ c x.toNatClampNeg = v) : v.toInt = CkC2 σ r := by sorry
theorem CkC2.n {σ : CsC} {r : Nat} {v : Int32} (h : HI0 σ) (t : TyC σ r 8) (hz : ¬ (fIC σ r 243).toInt = 0) (e4 : v.toInt = -1) : v.toInt = CkC2 σ r := by sorry
theorem CdC.code {σ : CsC} {r t c : Nat} {x : Int32} (h : CdC σ r) (e1 : fRC σ r 241 = some t) (e2 : fRC σ t 302 = some c) (hx : x.toInt = CtC σ r) : (eIC σ c x.toNatClampNeg).toInt = 84 ∨ (eIC σ c x.toNatClampNeg).toInt = 85 := by sorry
theorem CqC0.lv {r : Nat} {e f g m n : Int} (g' : Int) {σ τ : CsC} (h : CqC0 r e f g σ τ m n) (hz : (fIC σ r 243).toInt = 0) : CqC0 r e f g' σ τ m n := ⟨fun z => absurd hz z, h.2⟩
theorem CoC.lv {r : Nat} {e f g : Int} (g' : Int) {σ τ : CsC} (h : CoC r e f g σ τ) (hz : (fIC σ r 243).toInt = 0) : CoC r e f g' σ τ := by sorry
theorem RdC.lv {r : Nat} {x : Option Nat} {e f g : Int} (g' : Int) {σ τ : CsC} (h : RdC r x e f g σ τ) (hz : (fIC σ r 243).toInt = 0) : RdC r x e f g' σ τ := ⟨h.1, h.2.lv g' hz⟩
theorem CdC.st {M : List Nat} {x : Option Nat} {σ τ : CsC} {r : Nat} (h : CdC σ r) (hI : HIC σ) (t : TyC σ r 8) (e : ExC M σ τ) (w : GwC x σ τ) (hm : M.elem 241 = false ∧ M.elem 305 = false) : CdC τ r := by sorry
/-- what waits below -/
def WcC (σ : CsC) (lo : Nat) : Nat → Nat → Option Nat → Prop
  | 0, _, o => o = none
  | n + 1, B, o => ∃ a, o = some a ∧ lo ≤ a ∧ a < B ∧ (a < cnC σ ∧ tgC σ a = 2) ∧ WtC σ a ∧ WcC σ lo n a (fRC σ a 75)
theorem WtC.mk {σ : CsC} {a : Nat} {x : Int32} (e1 : fIC σ a 60 = x) (hx : x.toInt = 7) (e2 : fRC σ a 73 = none) : WtC σ a := ⟨e1.trans (Int32.toInt_inj.mp (by rw [hx]; rfl)), e2⟩
theorem WcC.x {σ τ : CsC} {lo : Nat} (w : GwC none σ τ) : ∀ (n B : Nat) (o : Option Nat), WcC σ lo n B o → WcC τ lo n B o := by sorry
theorem WcC.xs {σ τ : CsC} {lo y : Nat} (w : GwC (some y) σ τ) : ∀ (n B : Nat) (o : Option Nat), B ≤ y → WcC σ lo n B o → WcC τ lo n B o := by sorry
theorem WcC.t2 {σ : CsC} {lo : Nat} (n B : Nat) (o : Option Nat) (h : WcC σ lo n B o) (c : Nat) (hc : o = some c) : c < cnC σ ∧ tgC σ c = 2 := by sorry
theorem WcC.up {σ : CsC} {lo : Nat} : ∀ (n B B' : Nat) (o : Option Nat), B ≤ B' → WcC σ lo n B o → WcC σ lo n B' o := by sorry
/-! rules of reading -/
theorem HIC.pRy {σ : CsC} {a k : Nat} {v : Option Nat} (h : HIC σ) (hf : finC k = false) (hw : k ≠ 73 ∨ v ≠ none) (hv : RfC σ a k v) (hx : XaC (pRC σ a k v) a) : HIC (pRC σ a k v) := by sorry
theorem gpC_pR {σ : CsC} {a k b : Nat} {v : Option Nat} (hk : k ≠ 1) : gpC (pRC σ a k v) b = gpC σ b := by sorry
theorem GwC.pR {x : Option Nat} {σ : CsC} {a k : Nat} {v : Option Nat} (hk : k ≠ 1) (hx : (k ≠ 73 ∧ k ≠ 75) ∨ ¬ WtC σ a ∨ x = some a) : GwC x σ (pRC σ a k v) := by sorry
theorem pRC_comm {σ : CsC} {a k j : Nat} {v w : Option Nat} (h : j ≠ k) : pRC (pRC σ a k v) a j w = pRC (pRC σ a j w) a k v := by sorry
theorem X2C.pR {σ : CsC} {a k : Nat} {v : Option Nat} (h : HIC σ) (ha : a < cnC σ) (ht : tgC σ a = 2) (hk : k ≠ 73 ∧ k ≠ 75) (hf : finC k = false) : X2C (pRC σ a k v) a := by sorry
section KR11
variable {ct : CcC} {K : CkC} {Z : Option AvC → CsC → Prop} {is : List RI} {pc d b : Nat} {q : Int} {cs : List (Int × Nat)} {ls : ClC} {st : List AvC} {σ : CsC}
theorem k_putRg {j k a : Nat} {w : Option Nat} (o : ObC σ a (k / 30)) (hk : fkC k = 3) (h : cwpC ct K Z is (pc + 3) ls st (pRC σ a k w)) : cwpC ct K Z ((.putfield j, d, q, k, cs) :: is) pc ls (.inr (.inr w) :: .inr (.inr (some a)) :: st) σ := ⟨a, rfl, o, hk, h⟩
theorem k_p73 {j a c : Nat} (hI : HIC σ) (t : TyC σ a 2) (tc : TyC σ c 2) (h : ∀ τ, HIC τ → ExC [73] σ τ → GwC none σ τ → fRC τ a 73 = some c → cwpC ct K Z is (pc + 3) ls st τ) : cwpC ct K Z ((.putfield j, d, q, 73, cs) :: is) pc ls (.inr (.inr (some c)) :: .inr (.inr (some a)) :: st) σ := by sorry
theorem k_p75 {j a c : Nat} (hI : HIC σ) (t : TyC σ a 2) (tc : TyC σ c 2) (hac : a < c) (h : ∀ τ, HIC τ → ExC [75] σ τ → GwC none σ τ → fRC τ a 75 = some c → cwpC ct K Z is (pc + 3) ls st τ) : cwpC ct K Z ((.putfield j, d, q, 75, cs) :: is) pc ls (.inr (.inr (some c)) :: .inr (.inr (some a)) :: st) σ := by sorry
theorem k_p186 {j a c : Nat} (hI : HIC σ) (t : TyC σ a 6) (tc : TyC σ c 9) (hk : (fIC σ c 270).toInt = 92) (h : ∀ τ, HIC τ → ExC [186] σ τ → GwC none σ τ → fRC τ a 186 = some c → cwpC ct K Z is (pc + 3) ls st τ) : cwpC ct K Z ((.putfield j, d, q, 186, cs) :: is) pc ls (.inr (.inr (some c)) :: .inr (.inr (some a)) :: st) σ := by sorry
theorem k_p275 {j a : Nat} {w : Option Nat} (hI : HIC σ) (t : TyC σ a 9) (ho : OtC σ w 9) (hx : ∀ c, w = some c → a < c ∧ NxC σ a c) (h : ∀ τ, HIC τ → ExC [275] σ τ → fRC τ a 275 = w → cwpC ct K Z is (pc + 3) ls st τ) : cwpC ct K Z ((.putfield j, d, q, 275, cs) :: is) pc ls (.inr (.inr w) :: .inr (.inr (some a)) :: st) σ := by sorry
theorem k_p276 {j a : Nat} {w : Option Nat} (hI : HIC σ) (t : TyC σ a 9) (ho : OtC σ w 9) (hx : ∀ c, w = some c → a < c ∧ LvC σ a c) (h : ∀ τ, HIC τ → ExC [276] σ τ → fRC τ a 276 = w → cwpC ct K Z is (pc + 3) ls st τ) : cwpC ct K Z ((.putfield j, d, q, 276, cs) :: is) pc ls (.inr (.inr w) :: .inr (.inr (some a)) :: st) σ := by sorry
theorem k_p277 {j a : Nat} {w : Option Nat} (hI : HIC σ) (t : TyC σ a 9) (ho : OtC σ w 9) (hx : ∀ c, w = some c → a < c ∧ LvC σ a c) (h : ∀ τ, HIC τ → ExC [277] σ τ → fRC τ a 277 = w → cwpC ct K Z is (pc + 3) ls st τ) : cwpC ct K Z ((.putfield j, d, q, 277, cs) :: is) pc ls (.inr (.inr w) :: .inr (.inr (some a)) :: st) σ := by sorry
theorem k_p278 {j a : Nat} {w : Option Nat} (hI : HIC σ) (t : TyC σ a 9) (ho : OtC σ w 9) (hx : ∀ c, w = some c → a < c ∧ LvC σ a c) (h : ∀ τ, HIC τ → ExC [278] σ τ → fRC τ a 278 = w → cwpC ct K Z is (pc + 3) ls st τ) : cwpC ct K Z ((.putfield j, d, q, 278, cs) :: is) pc ls (.inr (.inr w) :: .inr (.inr (some a)) :: st) σ := by sorry
/-- what waits is laid -/
theorem k_u72 {j a c : Nat} (hI : HIC σ) (ha : a < cnC σ) (ht : tgC σ a = 2) (tc : TyC σ c 2) (h : ∀ τ, HIC τ → ExC [72] σ τ → cwpC ct K Z is (pc + 3) ls st τ) : cwpC ct K Z ((.putfield j, d, q, 72, cs) :: is) pc ls (.inr (.inr (some c)) :: .inr (.inr (some a)) :: st) σ := by sorry
theorem k_u76 {j a c : Nat} (hI : HIC σ) (ha : a < cnC σ) (ht : tgC σ a = 2) (tc : TyC σ c 2) (h : ∀ τ, HIC τ → ExC [76] σ τ → cwpC ct K Z is (pc + 3) ls st τ) : cwpC ct K Z ((.putfield j, d, q, 76, cs) :: is) pc ls (.inr (.inr (some c)) :: .inr (.inr (some a)) :: st) σ := by sorry
theorem k_u75 {j a : Nat} {w : Option Nat} (hI : HIC σ) (ha : a < cnC σ) (ht : tgC σ a = 2) (hw : WtC σ a) (ho : ∀ c, w = some c → c < cnC σ ∧ tgC σ c = 2) (h : ∀ τ, HIC τ → ExC [75] σ τ → GwC (some a) σ τ → fRC τ a 75 = w → cwpC ct K Z is (pc + 3) ls st τ) : cwpC ct K Z ((.putfield j, d, q, 75, cs) :: is) pc ls (.inr (.inr w) :: .inr (.inr (some a)) :: st) σ := by sorry
theorem k_cl {j1 j2 d1 d2 d3 b2 a c : Nat} {q1 q2 q3 : Int} {s1 s2 s3 : List (Int × Nat)} (l1 : lkC ls 1 = some (.inr (.inr (some a)))) (hI : HIC σ) (ha : a < cnC σ) (ht : tgC σ a = 2) (tc : TyC σ c 2) (h : ∀ τ, HIC τ → ExC [73, 75] σ τ → GwC (some a) σ τ → TyC τ a 2 → cwpC ct K Z is (pc + 3 + 1 + 1 + 3) ls st τ) :
    cwpC ct K Z ((.putfield j1, d, q, 73, cs) :: (.aload_n 1, d1, q1, 1, s1) :: (.aconst_null, d2, q2, b2, s2) :: (.putfield j2, d3, q3, 75, s3) :: is) pc ls (.inr (.inr (some c)) :: .inr (.inr (some a)) :: st) σ := by sorry
end KR11
theorem ExC.c243 {σ τ : CsC} {r : Nat} (h : HI0 σ) (t : TyC σ r 8) (e : ExC [243] σ τ) (hz : (fIC σ r 243).toInt = 0) (hn : ¬ (fIC τ r 243).toInt = 0) : CoC r 0 0 0 σ τ := by sorry
theorem ExC.c242 {σ τ : CsC} {r : Nat} (h : HI0 σ) (t : TyC σ r 8) (e : ExC [242] σ τ) (hz : (fIC σ r 243).toInt = 0) (ha : (fIC τ r 242).toInt = (fIC σ r 242).toInt + 1) (hc : (fIC σ r 242).toInt + 1 ≤ CtC σ r) : CoC r (-8) 0 0 σ τ := by sorry
theorem CqC0.ft {r : Nat} {e f g m n : Int} (e' : Int) {σ τ : CsC} (h : CqC0 r e f g σ τ m n) (hz : ¬ (fIC τ r 243).toInt = 0) : CqC0 r e' f g σ τ m n := ⟨h.1, fun _ w => absurd w hz, h.2.2⟩
theorem CoC.ft {r : Nat} {e f g : Int} (e' : Int) {σ τ : CsC} (h : CoC r e f g σ τ) (hz : ¬ (fIC τ r 243).toInt = 0) : CoC r e' f g σ τ := by sorry
theorem RdC.ft {r : Nat} {x : Option Nat} {e f g : Int} (e' : Int) {σ τ : CsC} (h : RdC r x e f g σ τ) (hz : ¬ (fIC τ r 243).toInt = 0) : RdC r x e' f g σ τ := ⟨h.1, h.2.ft e' hz⟩
theorem gsC_le {σ : CsC} (n : Nat) : gsC σ n ≤ 6500 * n := by sorry
abbrev P_Jx4a65c_add_9ea2d : CpC := fun As σ => ∃ (p0 : Nat) (p1 : Nat), As = [.inr (.inr (some p0)), .inr (.inr (some p1))] ∧ HIC σ ∧ TyC σ p0 0 ∧ ElC σ (ghC σ p0) p1 ∧ (fIC σ p0 2).toInt < 4300 ∧ cnC σ + 1 ≤ cpC σ ∧ slC σ + 10000 ≤ spC σ ∧ (ghC σ p0 = 6 → (fIC σ p0 2).toInt < 100)
abbrev Q_Jx4a65c_add_9ea2d : CqC := fun As σ w τ => match As with
  | [.inr (.inr (some p0)), .inr (.inr (some p1))] => ∃ r : Int32, w = some (.inl r) ∧ HIC τ ∧ ExC [0, 1, 2, 999] σ τ ∧ 0 ≤ r.toInt ∧ r.toInt ≤ 1 ∧ GwC none σ τ ∧ (cnC τ ≤ cnC σ + 1) ∧ ((∀ b, b < cnC σ → tgC σ b = 0 → (fIC τ b 2).toInt ≤ (fIC σ b 2).toInt + 1)) ∧ ((fIC τ p0 2).toInt = (fIC σ p0 2).toInt + 1) ∧ ((∀ b, b ≠ p0 → fIC τ b 2 = fIC σ b 2)) ∧ (AeC p0 p1 σ τ)
  | _ => False
abbrev P_add6 : CpC := fun As σ => ∃ (p0 : Nat) (p1 : Nat), As = [.inr (.inr (some p0)), .inr (.inr (some p1))] ∧ (HI0 σ ∧ LbC σ (some p1)) ∧ TyC σ p0 0 ∧ ElC σ (ghC σ p0) p1 ∧ (fIC σ p0 2).toInt < 4300 ∧ cnC σ + 1 ≤ cpC σ ∧ slC σ + 10000 ≤ spC σ ∧ (ghC σ p0 = 6 → (fIC σ p0 2).toInt < 100)
abbrev Q_add6 : CqC := fun As σ w τ => match As with
  | [.inr (.inr (some p0)), .inr (.inr (some p1))] => ∃ r : Int32, w = some (.inl r) ∧ (HI0 τ ∧ LbC τ (some p1)) ∧ ExC [0, 1, 2, 999] σ τ ∧ 0 ≤ r.toInt ∧ r.toInt ≤ 1 ∧ GwC none σ τ ∧ (cnC τ ≤ cnC σ + 1) ∧ ((∀ b, b < cnC σ → tgC σ b = 0 → (fIC τ b 2).toInt ≤ (fIC σ b 2).toInt + 1)) ∧ ((fIC τ p0 2).toInt = (fIC σ p0 2).toInt + 1) ∧ ((∀ b, b ≠ p0 → fIC τ b 2 = fIC σ b 2)) ∧ (AeC p0 p1 σ τ)
  | _ => False
abbrev P_Jx4a65c_init_da8c8 : CpC := fun As σ => ∃ (p0 : Nat), As = [.inr (.inr (some p0))] ∧ HIC σ ∧ RawC σ p0 0 ∧ ZrC σ p0 ∧ cnC σ + 0 ≤ cpC σ ∧ slC σ + 0 ≤ spC σ
abbrev Q_Jx4a65c_init_da8c8 : CqC := fun As σ w τ => match As with
  | [.inr (.inr (some p0))] => w = none ∧ HIC τ ∧ ExT p0 [] σ τ ∧ TyC τ p0 0 ∧ ghC τ p0 = ghC σ p0 ∧ cnC τ = cnC σ + 0 ∧ slC τ = slC σ + 0
  | _ => False
def mBC (own nL : Nat) (ret : Option FieldType) (ini : Bool) : List RI → Nat → Bool
  | [], _ => true
  | x :: is, pc => cok2C own nL ret ini x pc && mBC own nL ret ini is (pc + x.2.1)
theorem cokBC_of {cc : ByteArray} {own nL : Nat} {ret : Option FieldType} {ini : Bool} (is : List RI) : ∀ pc : Nat, dP cc is pc → mBC own nL ret ini is pc = true → cokBC cc own nL ret ini is pc = true := by sorry
theorem cokMC_of {r : CmC} {B : RB} (sw : RX) (hsw : ∀ q ∈ sw, decode r.2.1 q.1 = .ok (q.2.1, q.2.2)) (h1 : wkM sw B 0 (codeL r.2.1) = true) (h2 : B.all (fun b => mBC r.2.2.2.2.2.1 r.2.2.1 r.2.2.2.1 (decide (r.1.name = "<init>")) b.2 b.1) = true) : cokMC r B = true := by sorry
def KX0_init_0 : List RI := [(.aload_n 0, 1, 0, 0, []), (.invokespecial 3, 3, 0, 9999, []), (.aload_n 0, 1, 0, 0, []), (.sipush 1000, 3, 0, 0, []), (.newarray .int, 2, 0, 100, []), (.putfield 11, 3, 0, 30, []), (.aload_n 0, 1, 0, 0, []), (.sipush 1000, 3, 0, 0, []), (.newarray .int, 2, 0, 100, []), (.putfield 15, 3, 0, 31, []), (.aload_n 0, 1, 0, 0, []), (.sipush 1000, 3, 0, 0, []), (.anewarray 18, 3, 0, 104, []), (.putfield 20, 3, 0, 32, []), (.aload_n 0, 1, 0, 0, []), (.sipush 1000, 3, 0, 0, []), (.anewarray 24, 3, 0, 105, []), (.putfield 26, 3, 0, 33, []), (.aload_n 0, 1, 0, 0, []), (.new 24, 3, 0, 9, []), (.dup, 1, 0, 0, []), (.bipush 92, 2, 0, 0, []), (.iconst 0, 1, 0, 0, []), (.iconst 0, 1, 0, 0, []), (.aconst_null, 1, 0, 0, []), (.lconst 0, 1, 0, 0, []), (.invokespecial 30, 3, 5, 178, []), (.putfield 33, 3, 0, 36, []), (.aload_n 0, 1, 0, 0, []), (.aload_n 1, 1, 0, 1, []), (.putfield 37, 3, 0, 35, []), (.return_, 1, 0, 0, [])]
def KX0_init : RB := [(0, KX0_init_0)]
def rX0_init : CmC := (yX0_init, cX0_init, 2, none, 1, 1, false)
theorem hX0_init : mtC[0]? = some rX0_init := rfl
set_option maxRecDepth 100000 in
theorem swX0_init_8 : decode cX0_init 8 = .ok (.newarray .int, 2) := by sorry
set_option maxRecDepth 100000 in
theorem swX0_init_17 : decode cX0_init 17 = .ok (.newarray .int, 2) := by sorry
set_option maxRecDepth 100000 in
theorem okX0_init : cokMC rX0_init KX0_init = true := by sorry
def KX0_lay_0 : List RI := [(.aload_n 0, 1, 0, 0, []), (.aload_n 1, 1, 0, 1, []), (.putfield 37, 3, 0, 35, []), (.aload_n 0, 1, 0, 0, []), (.iconst 0, 1, 0, 0, []), (.putfield 41, 3, 0, 34, []), (.iconst 0, 1, 0, 0, []), (.istore_n 2, 1, 0, 2, [])]
def KX0_lay_12 : List RI := [(.iload_n 2, 1, 0, 2, []), (.aload_n 0, 1, 0, 0, []), (.getfield 37, 3, 0, 35, []), (.getfield 45, 3, 0, 211, []), (.invokevirtual 51, 3, 0, 234, []), (.if_icmp .ge 48, 3, 0, 71, [])]
def KX0_lay_26 : List RI := [(.aload_n 0, 1, 0, 0, []), (.getfield 37, 3, 0, 35, []), (.getfield 45, 3, 0, 211, []), (.iload_n 2, 1, 0, 2, []), (.invokevirtual 56, 3, 1, 235, []), (.checkcast 60, 3, 0, 6, []), (.astore_n 3, 1, 0, 3, []), (.aload_n 0, 1, 0, 0, []), (.aload_n 3, 1, 0, 3, []), (.getfield 62, 3, 0, 186, []), (.invokevirtual 65, 3, 1, 4, [(0, 0)]), (.aload_n 0, 1, 0, 0, []), (.aload_n 3, 1, 0, 3, []), (.getfield 62, 3, 0, 186, []), (.putfield 33, 3, 0, 36, []), (.aload_n 0, 1, 0, 0, []), (.bipush 23, 2, 0, 0, []), (.aconst_null, 1, 0, 0, []), (.invokevirtual 69, 3, 2, 2, [(0, 0)]), (.pop, 1, 0, 0, []), (.iinc 2 1, 3, 0, 0, []), (.goto (-56), 3, 0, 12, [])]
def KX0_lay_71 : List RI := [(.return_, 1, 0, 0, [])]
def KX0_lay : RB := [(0, KX0_lay_0), (12, KX0_lay_12), (26, KX0_lay_26), (71, KX0_lay_71)]
def rX0_lay : CmC := (yX0_lay, cX0_lay, 4, none, 1, 1, false)
theorem hX0_lay : mtC[1]? = some rX0_lay := rfl
set_option maxRecDepth 100000 in
theorem okX0_lay : cokMC rX0_lay KX0_lay = true := by sorry
def KX0_put_0 : List RI := [(.aload_n 0, 1, 0, 0, []), (.getfield 41, 3, 0, 34, []), (.sipush 1000, 3, 0, 0, []), (.if_icmp .lt 7, 3, 0, 14, [])]
def KX0_put_10 : List RI := [(.sipush 999, 3, 0, 0, []), (.ireturn, 1, 1, 0, [])]
def KX0_put_14 : List RI := [(.aload_n 0, 1, 0, 0, []), (.getfield 11, 3, 0, 30, []), (.aload_n 0, 1, 0, 0, []), (.getfield 41, 3, 0, 34, []), (.iload_n 1, 1, 0, 1, []), (.iastore, 1, 0, 0, []), (.aload_n 0, 1, 0, 0, []), (.getfield 20, 3, 0, 32, []), (.aload_n 0, 1, 0, 0, []), (.getfield 41, 3, 0, 34, []), (.aload_n 2, 1, 0, 2, []), (.aastore, 1, 0, 0, []), (.aload_n 0, 1, 0, 0, []), (.getfield 26, 3, 0, 33, []), (.aload_n 0, 1, 0, 0, []), (.getfield 41, 3, 0, 34, []), (.aload_n 0, 1, 0, 0, []), (.getfield 33, 3, 0, 36, []), (.aastore, 1, 0, 0, []), (.aload_n 0, 1, 0, 0, []), (.getfield 15, 3, 0, 31, []), (.aload_n 0, 1, 0, 0, []), (.getfield 41, 3, 0, 34, []), (.iconst 0, 1, 0, 0, []), (.iastore, 1, 0, 0, []), (.aload_n 0, 1, 0, 0, []), (.dup, 1, 0, 0, []), (.getfield 41, 3, 0, 34, []), (.iconst 1, 1, 0, 0, []), (.iadd, 1, 0, 0, []), (.putfield 41, 3, 0, 34, []), (.aload_n 0, 1, 0, 0, []), (.getfield 41, 3, 0, 34, []), (.iconst 1, 1, 0, 0, []), (.isub, 1, 0, 0, []), (.ireturn, 1, 1, 0, [])]
def KX0_put : RB := [(0, KX0_put_0), (10, KX0_put_10), (14, KX0_put_14)]
def rX0_put : CmC := (yX0_put, cX0_put, 3, (some .int), 2, 1, false)
theorem hX0_put : mtC[2]? = some rX0_put := rfl
set_option maxRecDepth 100000 in
theorem okX0_put : cokMC rX0_put KX0_put = true := by sorry
def KX0_jumpTo_0 : List RI := [(.aload_n 0, 1, 0, 0, []), (.getfield 15, 3, 0, 31, []), (.aload_n 0, 1, 0, 0, []), (.iload_n 1, 1, 0, 1, []), (.aconst_null, 1, 0, 0, []), (.invokevirtual 69, 3, 2, 2, [(0, 0)]), (.iload_n 2, 1, 0, 2, []), (.iastore, 1, 0, 0, []), (.return_, 1, 0, 0, [])]
def KX0_jumpTo : RB := [(0, KX0_jumpTo_0)]
def rX0_jumpTo : CmC := (yX0_jumpTo, cX0_jumpTo, 3, none, 2, 1, false)
theorem hX0_jumpTo : mtC[3]? = some rX0_jumpTo := rfl
set_option maxRecDepth 100000 in
theorem okX0_jumpTo : cokMC rX0_jumpTo KX0_jumpTo = true := by sorry
def KX0_layBody_0 : List RI := [(.aload_n 1, 1, 0, 1, []), (.aload_n 0, 1, 0, 0, []), (.getfield 41, 3, 0, 34, []), (.putfield 73, 3, 0, 289, []), (.aload_n 0, 1, 0, 0, []), (.aload_n 1, 1, 0, 1, []), (.getfield 76, 3, 0, 276, []), (.invokevirtual 77, 3, 1, 5, [(0, 0)]), (.aload_n 1, 1, 0, 1, []), (.aload_n 0, 1, 0, 0, []), (.getfield 41, 3, 0, 34, []), (.putfield 80, 3, 0, 290, []), (.return_, 1, 0, 0, [])]
def KX0_layBody : RB := [(0, KX0_layBody_0)]
def rX0_layBody : CmC := (yX0_layBody, cX0_layBody, 2, none, 1, 1, false)
theorem hX0_layBody : mtC[4]? = some rX0_layBody := rfl
set_option maxRecDepth 100000 in
theorem okX0_layBody : cokMC rX0_layBody KX0_layBody = true := by sorry
def KX0_layRow_0 : List RI := [(.aload_n 1, 1, 0, 1, []), (.astore_n 2, 1, 0, 2, [])]
def KX0_layRow_2 : List RI := [(.aload_n 2, 1, 0, 2, []), (.ifnull 16, 3, 0, 19, [])]
def KX0_layRow_6 : List RI := [(.aload_n 0, 1, 0, 0, []), (.aload_n 2, 1, 0, 2, []), (.invokevirtual 83, 3, 1, 6, [(0, 0)]), (.aload_n 2, 1, 0, 2, []), (.getfield 86, 3, 0, 275, []), (.astore_n 2, 1, 0, 2, []), (.goto (-14), 3, 0, 2, [])]
def KX0_layRow_19 : List RI := [(.return_, 1, 0, 0, [])]
def KX0_layRow : RB := [(0, KX0_layRow_0), (2, KX0_layRow_2), (6, KX0_layRow_6), (19, KX0_layRow_19)]
def rX0_layRow : CmC := (yX0_layRow, cX0_layRow, 3, none, 1, 1, false)
theorem hX0_layRow : mtC[5]? = some rX0_layRow := rfl
set_option maxRecDepth 100000 in
theorem okX0_layRow : cokMC rX0_layRow KX0_layRow = true := by sorry
def KX0_layStatement_0 : List RI := [(.aload_n 1, 1, 0, 1, []), (.getfield 89, 3, 0, 272, []), (.bipush 20, 2, 0, 0, []), (.if_icmp .le 4, 3, 0, 10, [])]
def KX0_layStatement_9 : List RI := [(.return_, 1, 0, 0, [])]
def KX0_layStatement_10 : List RI := [(.aload_n 0, 1, 0, 0, []), (.getfield 33, 3, 0, 36, []), (.astore_n 2, 1, 0, 2, []), (.aload_n 0, 1, 0, 0, []), (.aload_n 1, 1, 0, 1, []), (.putfield 33, 3, 0, 36, []), (.aload_n 1, 1, 0, 1, []), (.invokevirtual 92, 3, 0, 180, [(0, 0), (0, 0), (0, 0), (0, 0), (0, 0), (0, 0), (0, 0), (0, 0), (0, 0)]), (.ifCond .ne 11, 3, 0, 35, [])]
def KX0_layStatement_27 : List RI := [(.aload_n 0, 1, 0, 0, []), (.bipush 15, 2, 0, 0, []), (.aconst_null, 1, 0, 0, []), (.invokevirtual 69, 3, 2, 2, [(0, 0)]), (.pop, 1, 0, 0, [])]
def KX0_layStatement_35 : List RI := [(.aload_n 1, 1, 0, 1, []), (.aload_n 0, 1, 0, 0, []), (.getfield 41, 3, 0, 34, []), (.putfield 73, 3, 0, 289, []), (.aload_n 0, 1, 0, 0, []), (.aload_n 1, 1, 0, 1, []), (.invokevirtual 96, 3, 1, 8, [(0, 0)]), (.aload_n 1, 1, 0, 1, []), (.aload_n 0, 1, 0, 0, []), (.getfield 41, 3, 0, 34, []), (.putfield 80, 3, 0, 290, []), (.aload_n 0, 1, 0, 0, []), (.aload_n 2, 1, 0, 2, []), (.putfield 33, 3, 0, 36, []), (.return_, 1, 0, 0, [])]
def KX0_layStatement : RB := [(0, KX0_layStatement_0), (9, KX0_layStatement_9), (10, KX0_layStatement_10), (27, KX0_layStatement_27), (35, KX0_layStatement_35)]
def rX0_layStatement : CmC := (yX0_layStatement, cX0_layStatement, 3, none, 1, 1, false)
theorem hX0_layStatement : mtC[6]? = some rX0_layStatement := rfl
set_option maxRecDepth 100000 in
theorem okX0_layStatement : cokMC rX0_layStatement KX0_layStatement = true := by sorry
def KX0_layInner_0 : List RI := [(.aload_n 1, 1, 0, 1, []), (.ifnull 8, 3, 0, 9, [])]
def KX0_layInner_4 : List RI := [(.aload_n 0, 1, 0, 0, []), (.aload_n 1, 1, 0, 1, []), (.invokevirtual 83, 3, 1, 6, [(0, 0)])]
def KX0_layInner_9 : List RI := [(.return_, 1, 0, 0, [])]
def KX0_layInner : RB := [(0, KX0_layInner_0), (4, KX0_layInner_4), (9, KX0_layInner_9)]
def rX0_layInner : CmC := (yX0_layInner, cX0_layInner, 2, none, 1, 1, false)
theorem hX0_layInner : mtC[7]? = some rX0_layInner := rfl
set_option maxRecDepth 100000 in
theorem okX0_layInner : cokMC rX0_layInner KX0_layInner = true := by sorry
def KX0_layInside_0 : List RI := [(.aload_n 1, 1, 0, 1, []), (.getfield 99, 3, 0, 270, []), (.lookupswitch 305 #[(2, 140), (6, 151), (56, 189), (58, 197), (59, 205), (60, 213), (61, 221), (64, 256), (65, 256), (66, 267), (67, 286), (68, 248), (90, 170), (91, 162), (93, 162), (94, 170)], 140, 0, 309, [(2, 144), (6, 155), (56, 193), (58, 201), (59, 209), (60, 217), (61, 225), (64, 260), (65, 260), (66, 271), (67, 290), (68, 252), (90, 174), (91, 166), (93, 166), (94, 174)])]
def KX0_layInside_144 : List RI := [(.aload_n 0, 1, 0, 0, []), (.aload_n 1, 1, 0, 1, []), (.getfield 76, 3, 0, 276, []), (.invokevirtual 77, 3, 1, 5, [(0, 0)]), (.goto 157, 3, 0, 309, [])]
def KX0_layInside_155 : List RI := [(.aload_n 0, 1, 0, 0, []), (.aload_n 1, 1, 0, 1, []), (.getfield 76, 3, 0, 276, []), (.invokevirtual 102, 3, 1, 7, [(0, 0)]), (.goto 146, 3, 0, 309, [])]
def KX0_layInside_166 : List RI := [(.aload_n 0, 1, 0, 0, []), (.aload_n 1, 1, 0, 1, []), (.invokevirtual 105, 3, 1, 9, [(0, 0)]), (.goto 138, 3, 0, 309, [])]
def KX0_layInside_174 : List RI := [(.aload_n 0, 1, 0, 0, []), (.aload_n 1, 1, 0, 1, []), (.getfield 108, 3, 0, 279, []), (.invokevirtual 111, 3, 1, 15, [(0, 0)]), (.aload_n 0, 1, 0, 0, []), (.bipush 9, 2, 0, 0, []), (.aconst_null, 1, 0, 0, []), (.invokevirtual 69, 3, 2, 2, [(0, 0)]), (.pop, 1, 0, 0, []), (.goto 119, 3, 0, 309, [])]
def KX0_layInside_193 : List RI := [(.aload_n 0, 1, 0, 0, []), (.aload_n 1, 1, 0, 1, []), (.invokevirtual 115, 3, 1, 10, [(0, 0)]), (.goto 111, 3, 0, 309, [])]
def KX0_layInside_201 : List RI := [(.aload_n 0, 1, 0, 0, []), (.aload_n 1, 1, 0, 1, []), (.invokevirtual 118, 3, 1, 11, [(0, 0)]), (.goto 103, 3, 0, 309, [])]
def KX0_layInside_209 : List RI := [(.aload_n 0, 1, 0, 0, []), (.aload_n 1, 1, 0, 1, []), (.invokevirtual 121, 3, 1, 12, [(0, 0)]), (.goto 95, 3, 0, 309, [])]
def KX0_layInside_217 : List RI := [(.aload_n 0, 1, 0, 0, []), (.aload_n 1, 1, 0, 1, []), (.invokevirtual 124, 3, 1, 13, [(0, 0)]), (.goto 87, 3, 0, 309, [])]
def KX0_layInside_225 : List RI := [(.aload_n 0, 1, 0, 0, []), (.aload_n 1, 1, 0, 1, []), (.getfield 108, 3, 0, 279, []), (.invokevirtual 111, 3, 1, 15, [(0, 0)]), (.aload_n 0, 1, 0, 0, []), (.bipush 17, 2, 0, 0, []), (.aconst_null, 1, 0, 0, []), (.invokevirtual 69, 3, 2, 2, [(0, 0)]), (.pop, 1, 0, 0, []), (.aload_n 0, 1, 0, 0, []), (.aload_n 1, 1, 0, 1, []), (.getfield 76, 3, 0, 276, []), (.invokevirtual 77, 3, 1, 5, [(0, 0)]), (.goto 60, 3, 0, 309, [])]
def KX0_layInside_252 : List RI := [(.aload_n 0, 1, 0, 0, []), (.aload_n 1, 1, 0, 1, []), (.invokevirtual 127, 3, 1, 14, [(0, 0)]), (.goto 52, 3, 0, 309, [])]
def KX0_layInside_260 : List RI := [(.aload_n 0, 1, 0, 0, []), (.bipush 18, 2, 0, 0, []), (.aconst_null, 1, 0, 0, []), (.invokevirtual 69, 3, 2, 2, [(0, 0)]), (.pop, 1, 0, 0, []), (.goto 41, 3, 0, 309, [])]
def KX0_layInside_271 : List RI := [(.aload_n 0, 1, 0, 0, []), (.aload_n 1, 1, 0, 1, []), (.getfield 108, 3, 0, 279, []), (.invokevirtual 111, 3, 1, 15, [(0, 0)]), (.aload_n 0, 1, 0, 0, []), (.bipush 19, 2, 0, 0, []), (.aconst_null, 1, 0, 0, []), (.invokevirtual 69, 3, 2, 2, [(0, 0)]), (.pop, 1, 0, 0, []), (.goto 22, 3, 0, 309, [])]
def KX0_layInside_290 : List RI := [(.aload_n 0, 1, 0, 0, []), (.aload_n 1, 1, 0, 1, []), (.getfield 108, 3, 0, 279, []), (.invokevirtual 111, 3, 1, 15, [(0, 0)]), (.aload_n 0, 1, 0, 0, []), (.bipush 20, 2, 0, 0, []), (.aconst_null, 1, 0, 0, []), (.invokevirtual 69, 3, 2, 2, [(0, 0)]), (.pop, 1, 0, 0, []), (.goto 3, 3, 0, 309, [])]
def KX0_layInside_309 : List RI := [(.return_, 1, 0, 0, [])]
def KX0_layInside : RB := [(0, KX0_layInside_0), (144, KX0_layInside_144), (155, KX0_layInside_155), (166, KX0_layInside_166), (174, KX0_layInside_174), (193, KX0_layInside_193), (201, KX0_layInside_201), (209, KX0_layInside_209), (217, KX0_layInside_217), (225, KX0_layInside_225), (252, KX0_layInside_252), (260, KX0_layInside_260), (271, KX0_layInside_271), (290, KX0_layInside_290), (309, KX0_layInside_309)]
def rX0_layInside : CmC := (yX0_layInside, cX0_layInside, 2, none, 1, 1, false)
theorem hX0_layInside : mtC[8]? = some rX0_layInside := rfl
set_option maxRecDepth 100000 in
theorem swX0_layInside_4 : decode cX0_layInside 4 = .ok (.lookupswitch 305 #[(2, 140), (6, 151), (56, 189), (58, 197), (59, 205), (60, 213), (61, 221), (64, 256), (65, 256), (66, 267), (67, 286), (68, 248), (90, 170), (91, 162), (93, 162), (94, 170)], 140) := by sorry
set_option maxRecDepth 100000 in
theorem okX0_layInside : cokMC rX0_layInside KX0_layInside = true := by sorry
def KX0_layTold_0 : List RI := [(.aload_n 1, 1, 0, 1, []), (.getfield 108, 3, 0, 279, []), (.ifnull 26, 3, 0, 30, [])]
def KX0_layTold_7 : List RI := [(.aload_n 0, 1, 0, 0, []), (.aload_n 1, 1, 0, 1, []), (.getfield 108, 3, 0, 279, []), (.invokevirtual 111, 3, 1, 15, [(0, 0)]), (.aload_n 0, 1, 0, 0, []), (.getfield 15, 3, 0, 31, []), (.aload_n 0, 1, 0, 0, []), (.iconst 2, 1, 0, 0, []), (.aconst_null, 1, 0, 0, []), (.invokevirtual 69, 3, 2, 2, [(0, 0)]), (.aload_n 1, 1, 0, 1, []), (.getfield 130, 3, 0, 280, []), (.iastore, 1, 0, 0, [])]
def KX0_layTold_30 : List RI := [(.return_, 1, 0, 0, [])]
def KX0_layTold : RB := [(0, KX0_layTold_0), (7, KX0_layTold_7), (30, KX0_layTold_30)]
def rX0_layTold : CmC := (yX0_layTold, cX0_layTold, 2, none, 1, 1, false)
theorem hX0_layTold : mtC[9]? = some rX0_layTold := rfl
set_option maxRecDepth 100000 in
theorem okX0_layTold : cokMC rX0_layTold KX0_layTold = true := by sorry
def KX0_layIf_0 : List RI := [(.aload_n 0, 1, 0, 0, []), (.aload_n 1, 1, 0, 1, []), (.getfield 108, 3, 0, 279, []), (.invokevirtual 111, 3, 1, 15, [(0, 0)]), (.aload_n 0, 1, 0, 0, []), (.bipush 11, 2, 0, 0, []), (.aconst_null, 1, 0, 0, []), (.invokevirtual 69, 3, 2, 2, [(0, 0)]), (.istore_n 2, 1, 0, 2, []), (.aload_n 0, 1, 0, 0, []), (.aload_n 1, 1, 0, 1, []), (.getfield 76, 3, 0, 276, []), (.invokevirtual 102, 3, 1, 7, [(0, 0)]), (.aload_n 1, 1, 0, 1, []), (.getfield 133, 3, 0, 277, []), (.ifnull 42, 3, 0, 70, [])]
def KX0_layIf_31 : List RI := [(.aload_n 0, 1, 0, 0, []), (.bipush 10, 2, 0, 0, []), (.aconst_null, 1, 0, 0, []), (.invokevirtual 69, 3, 2, 2, [(0, 0)]), (.istore_n 3, 1, 0, 3, []), (.aload_n 0, 1, 0, 0, []), (.getfield 15, 3, 0, 31, []), (.iload_n 2, 1, 0, 2, []), (.aload_n 0, 1, 0, 0, []), (.getfield 41, 3, 0, 34, []), (.iastore, 1, 0, 0, []), (.aload_n 0, 1, 0, 0, []), (.aload_n 1, 1, 0, 1, []), (.getfield 133, 3, 0, 277, []), (.invokevirtual 83, 3, 1, 6, [(0, 0)]), (.aload_n 0, 1, 0, 0, []), (.getfield 15, 3, 0, 31, []), (.iload_n 3, 1, 0, 3, []), (.aload_n 0, 1, 0, 0, []), (.getfield 41, 3, 0, 34, []), (.iastore, 1, 0, 0, []), (.goto 13, 3, 0, 80, [])]
def KX0_layIf_70 : List RI := [(.aload_n 0, 1, 0, 0, []), (.getfield 15, 3, 0, 31, []), (.iload_n 2, 1, 0, 2, []), (.aload_n 0, 1, 0, 0, []), (.getfield 41, 3, 0, 34, []), (.iastore, 1, 0, 0, [])]
def KX0_layIf_80 : List RI := [(.return_, 1, 0, 0, [])]
def KX0_layIf : RB := [(0, KX0_layIf_0), (31, KX0_layIf_31), (70, KX0_layIf_70), (80, KX0_layIf_80)]
def rX0_layIf : CmC := (yX0_layIf, cX0_layIf, 4, none, 1, 1, false)
theorem hX0_layIf : mtC[10]? = some rX0_layIf := rfl
set_option maxRecDepth 100000 in
theorem okX0_layIf : cokMC rX0_layIf KX0_layIf = true := by sorry
def KX0_layWhile_0 : List RI := [(.aload_n 0, 1, 0, 0, []), (.getfield 41, 3, 0, 34, []), (.istore_n 2, 1, 0, 2, []), (.aload_n 0, 1, 0, 0, []), (.bipush 16, 2, 0, 0, []), (.aconst_null, 1, 0, 0, []), (.invokevirtual 69, 3, 2, 2, [(0, 0)]), (.pop, 1, 0, 0, []), (.aload_n 0, 1, 0, 0, []), (.aload_n 1, 1, 0, 1, []), (.getfield 108, 3, 0, 279, []), (.invokevirtual 111, 3, 1, 15, [(0, 0)]), (.aload_n 0, 1, 0, 0, []), (.bipush 11, 2, 0, 0, []), (.aconst_null, 1, 0, 0, []), (.invokevirtual 69, 3, 2, 2, [(0, 0)]), (.istore_n 3, 1, 0, 3, []), (.aload_n 0, 1, 0, 0, []), (.aload_n 1, 1, 0, 1, []), (.getfield 76, 3, 0, 276, []), (.invokevirtual 102, 3, 1, 7, [(0, 0)]), (.aload_n 0, 1, 0, 0, []), (.bipush 10, 2, 0, 0, []), (.iload_n 2, 1, 0, 2, []), (.invokevirtual 136, 3, 2, 3, [(0, 0)]), (.aload_n 0, 1, 0, 0, []), (.getfield 15, 3, 0, 31, []), (.iload_n 3, 1, 0, 3, []), (.aload_n 0, 1, 0, 0, []), (.getfield 41, 3, 0, 34, []), (.iastore, 1, 0, 0, []), (.return_, 1, 0, 0, [])]
def KX0_layWhile : RB := [(0, KX0_layWhile_0)]
def rX0_layWhile : CmC := (yX0_layWhile, cX0_layWhile, 4, none, 1, 1, false)
theorem hX0_layWhile : mtC[11]? = some rX0_layWhile := rfl
set_option maxRecDepth 100000 in
theorem okX0_layWhile : cokMC rX0_layWhile KX0_layWhile = true := by sorry
def KX0_layDo_0 : List RI := [(.aload_n 0, 1, 0, 0, []), (.getfield 41, 3, 0, 34, []), (.istore_n 2, 1, 0, 2, []), (.aload_n 0, 1, 0, 0, []), (.aload_n 1, 1, 0, 1, []), (.getfield 76, 3, 0, 276, []), (.invokevirtual 102, 3, 1, 7, [(0, 0)]), (.aload_n 0, 1, 0, 0, []), (.bipush 16, 2, 0, 0, []), (.aconst_null, 1, 0, 0, []), (.invokevirtual 69, 3, 2, 2, [(0, 0)]), (.istore_n 3, 1, 0, 3, []), (.aload_n 0, 1, 0, 0, []), (.aload_n 1, 1, 0, 1, []), (.getfield 108, 3, 0, 279, []), (.invokevirtual 111, 3, 1, 15, [(0, 0)]), (.aload_n 0, 1, 0, 0, []), (.bipush 12, 2, 0, 0, []), (.iload_n 2, 1, 0, 2, []), (.invokevirtual 136, 3, 2, 3, [(0, 0)]), (.aload_n 1, 1, 0, 1, []), (.iload_n 3, 1, 0, 3, []), (.putfield 73, 3, 0, 289, []), (.return_, 1, 0, 0, [])]
def KX0_layDo : RB := [(0, KX0_layDo_0)]
def rX0_layDo : CmC := (yX0_layDo, cX0_layDo, 4, none, 1, 1, false)
theorem hX0_layDo : mtC[12]? = some rX0_layDo := rfl
set_option maxRecDepth 100000 in
theorem okX0_layDo : cokMC rX0_layDo KX0_layDo = true := by sorry
def KX0_layFor_0 : List RI := [(.aload_n 0, 1, 0, 0, []), (.aload_n 1, 1, 0, 1, []), (.getfield 133, 3, 0, 277, []), (.invokevirtual 77, 3, 1, 5, [(0, 0)]), (.aload_n 0, 1, 0, 0, []), (.bipush 16, 2, 0, 0, []), (.aconst_null, 1, 0, 0, []), (.invokevirtual 69, 3, 2, 2, [(0, 0)]), (.istore_n 2, 1, 0, 2, []), (.iconst (-1), 1, 0, 0, []), (.istore_n 3, 1, 0, 3, []), (.aload_n 1, 1, 0, 1, []), (.getfield 108, 3, 0, 279, []), (.ifnull 19, 3, 0, 41, [])]
def KX0_layFor_25 : List RI := [(.aload_n 0, 1, 0, 0, []), (.aload_n 1, 1, 0, 1, []), (.getfield 108, 3, 0, 279, []), (.invokevirtual 111, 3, 1, 15, [(0, 0)]), (.aload_n 0, 1, 0, 0, []), (.bipush 11, 2, 0, 0, []), (.aconst_null, 1, 0, 0, []), (.invokevirtual 69, 3, 2, 2, [(0, 0)]), (.istore_n 3, 1, 0, 3, [])]
def KX0_layFor_41 : List RI := [(.aload_n 0, 1, 0, 0, []), (.bipush 10, 2, 0, 0, []), (.aconst_null, 1, 0, 0, []), (.invokevirtual 69, 3, 2, 2, [(0, 0)]), (.istore 4, 2, 0, 0, []), (.aload_n 0, 1, 0, 0, []), (.getfield 41, 3, 0, 34, []), (.istore 5, 2, 0, 0, []), (.aload_n 0, 1, 0, 0, []), (.aload_n 1, 1, 0, 1, []), (.getfield 140, 3, 0, 278, []), (.invokevirtual 77, 3, 1, 5, [(0, 0)]), (.aload_n 0, 1, 0, 0, []), (.bipush 10, 2, 0, 0, []), (.iload_n 2, 1, 0, 2, []), (.invokevirtual 136, 3, 2, 3, [(0, 0)]), (.aload_n 0, 1, 0, 0, []), (.getfield 15, 3, 0, 31, []), (.iload 4, 2, 0, 0, []), (.aload_n 0, 1, 0, 0, []), (.getfield 41, 3, 0, 34, []), (.iastore, 1, 0, 0, []), (.aload_n 0, 1, 0, 0, []), (.aload_n 1, 1, 0, 1, []), (.getfield 76, 3, 0, 276, []), (.invokevirtual 102, 3, 1, 7, [(0, 0)]), (.aload_n 0, 1, 0, 0, []), (.bipush 10, 2, 0, 0, []), (.iload 5, 2, 0, 0, []), (.invokevirtual 136, 3, 2, 3, [(0, 0)]), (.iload_n 3, 1, 0, 3, []), (.ifCond .lt 13, 3, 0, 112, [])]
def KX0_layFor_102 : List RI := [(.aload_n 0, 1, 0, 0, []), (.getfield 15, 3, 0, 31, []), (.iload_n 3, 1, 0, 3, []), (.aload_n 0, 1, 0, 0, []), (.getfield 41, 3, 0, 34, []), (.iastore, 1, 0, 0, [])]
def KX0_layFor_112 : List RI := [(.aload_n 1, 1, 0, 1, []), (.iload 5, 2, 0, 0, []), (.putfield 73, 3, 0, 289, []), (.return_, 1, 0, 0, [])]
def KX0_layFor : RB := [(0, KX0_layFor_0), (25, KX0_layFor_25), (41, KX0_layFor_41), (102, KX0_layFor_102), (112, KX0_layFor_112)]
def rX0_layFor : CmC := (yX0_layFor, cX0_layFor, 6, none, 1, 1, false)
theorem hX0_layFor : mtC[13]? = some rX0_layFor := rfl
set_option maxRecDepth 100000 in
theorem okX0_layFor : cokMC rX0_layFor KX0_layFor = true := by sorry
def KX0_layTry_0 : List RI := [(.aload_n 1, 1, 0, 1, []), (.getfield 76, 3, 0, 276, []), (.ifnull 11, 3, 0, 15, [])]
def KX0_layTry_7 : List RI := [(.aload_n 0, 1, 0, 0, []), (.aload_n 1, 1, 0, 1, []), (.getfield 76, 3, 0, 276, []), (.invokevirtual 65, 3, 1, 4, [(0, 0)])]
def KX0_layTry_15 : List RI := [(.aload_n 0, 1, 0, 0, []), (.bipush 10, 2, 0, 0, []), (.aconst_null, 1, 0, 0, []), (.invokevirtual 69, 3, 2, 2, [(0, 0)]), (.istore_n 2, 1, 0, 2, []), (.aload_n 1, 1, 0, 1, []), (.getfield 133, 3, 0, 277, []), (.ifnull 11, 3, 0, 38, [])]
def KX0_layTry_30 : List RI := [(.aload_n 0, 1, 0, 0, []), (.aload_n 1, 1, 0, 1, []), (.getfield 133, 3, 0, 277, []), (.invokevirtual 65, 3, 1, 4, [(0, 0)])]
def KX0_layTry_38 : List RI := [(.aload_n 0, 1, 0, 0, []), (.getfield 15, 3, 0, 31, []), (.iload_n 2, 1, 0, 2, []), (.aload_n 0, 1, 0, 0, []), (.getfield 41, 3, 0, 34, []), (.iastore, 1, 0, 0, []), (.aload_n 1, 1, 0, 1, []), (.getfield 140, 3, 0, 278, []), (.ifnull 27, 3, 0, 79, [])]
def KX0_layTry_55 : List RI := [(.aload_n 0, 1, 0, 0, []), (.bipush 21, 2, 0, 0, []), (.aconst_null, 1, 0, 0, []), (.invokevirtual 69, 3, 2, 2, [(0, 0)]), (.pop, 1, 0, 0, []), (.aload_n 0, 1, 0, 0, []), (.aload_n 1, 1, 0, 1, []), (.getfield 140, 3, 0, 278, []), (.invokevirtual 65, 3, 1, 4, [(0, 0)]), (.aload_n 0, 1, 0, 0, []), (.bipush 22, 2, 0, 0, []), (.aconst_null, 1, 0, 0, []), (.invokevirtual 69, 3, 2, 2, [(0, 0)]), (.pop, 1, 0, 0, [])]
def KX0_layTry_79 : List RI := [(.return_, 1, 0, 0, [])]
def KX0_layTry : RB := [(0, KX0_layTry_0), (7, KX0_layTry_7), (15, KX0_layTry_15), (30, KX0_layTry_30), (38, KX0_layTry_38), (55, KX0_layTry_55), (79, KX0_layTry_79)]
def rX0_layTry : CmC := (yX0_layTry, cX0_layTry, 3, none, 1, 1, false)
theorem hX0_layTry : mtC[14]? = some rX0_layTry := rfl
set_option maxRecDepth 100000 in
theorem okX0_layTry : cokMC rX0_layTry KX0_layTry = true := by sorry
def KX0_layExp_0 : List RI := [(.aload_n 1, 1, 0, 1, []), (.ifnonnull 4, 3, 0, 5, [])]
def KX0_layExp_4 : List RI := [(.return_, 1, 0, 0, [])]
def KX0_layExp_5 : List RI := [(.aload_n 1, 1, 0, 1, []), (.getfield 143, 3, 0, 63, []), (.istore_n 2, 1, 0, 2, [])]
def KX0_layExp_10 : List RI := [(.iload_n 2, 1, 0, 2, []), (.aload_n 1, 1, 0, 1, []), (.getfield 146, 3, 0, 65, []), (.if_icmp .gt 41, 3, 0, 56, [])]
def KX0_layExp_18 : List RI := [(.iload_n 2, 1, 0, 2, []), (.aload_n 0, 1, 0, 0, []), (.getfield 37, 3, 0, 35, []), (.getfield 149, 3, 0, 213, []), (.invokevirtual 51, 3, 0, 234, []), (.if_icmp .ge 27, 3, 0, 56, [])]
def KX0_layExp_32 : List RI := [(.aload_n 0, 1, 0, 0, []), (.aload_n 0, 1, 0, 0, []), (.getfield 37, 3, 0, 35, []), (.getfield 149, 3, 0, 213, []), (.iload_n 2, 1, 0, 2, []), (.invokevirtual 56, 3, 1, 235, []), (.checkcast 18, 3, 0, 2, []), (.invokevirtual 152, 3, 1, 16, [(0, 0)]), (.iinc 2 1, 3, 0, 0, []), (.goto (-43), 3, 0, 10, [])]
def KX0_layExp_56 : List RI := [(.return_, 1, 0, 0, [])]
def KX0_layExp : RB := [(0, KX0_layExp_0), (4, KX0_layExp_4), (5, KX0_layExp_5), (10, KX0_layExp_10), (18, KX0_layExp_18), (32, KX0_layExp_32), (56, KX0_layExp_56)]
def rX0_layExp : CmC := (yX0_layExp, cX0_layExp, 3, none, 1, 1, false)
theorem hX0_layExp : mtC[15]? = some rX0_layExp := rfl
set_option maxRecDepth 100000 in
theorem okX0_layExp : cokMC rX0_layExp KX0_layExp = true := by sorry
def KX0_layOne_0 : List RI := [(.aload_n 1, 1, 0, 1, []), (.getfield 155, 3, 0, 60, []), (.tableswitch 311 0 14 #[76, 76, 86, 311, 117, 127, 137, 170, 285, 148, 159, 206, 234, 248, 107], 76, 0, 315, [(0, 80), (1, 80), (2, 90), (3, 315), (4, 121), (5, 131), (6, 141), (7, 174), (8, 289), (9, 152), (10, 163), (11, 210), (12, 238), (13, 252), (14, 111)])]
def KX0_layOne_80 : List RI := [(.aload_n 0, 1, 0, 0, []), (.iconst 0, 1, 0, 0, []), (.aload_n 1, 1, 0, 1, []), (.invokevirtual 69, 3, 2, 2, [(0, 0)]), (.pop, 1, 0, 0, []), (.goto 228, 3, 0, 315, [])]
def KX0_layOne_90 : List RI := [(.aload_n 0, 1, 0, 0, []), (.aload_n 1, 1, 0, 1, []), (.getfield 156, 3, 0, 70, []), (.ifCond .eq 7, 3, 0, 102, [])]
def KX0_layOne_98 : List RI := [(.iconst 0, 1, 0, 0, []), (.goto 4, 3, 0, 103, [])]
def KX0_layOne_102 : List RI := [(.iconst 1, 1, 0, 0, [])]
def KX0_layOne_103 : List RI := [(.aload_n 1, 1, 0, 1, []), (.invokevirtual 69, 3, 2, 2, [(0, 0)]), (.pop, 1, 0, 0, []), (.goto 207, 3, 0, 315, [])]
def KX0_layOne_111 : List RI := [(.aload_n 0, 1, 0, 0, []), (.iconst 1, 1, 0, 0, []), (.aload_n 1, 1, 0, 1, []), (.invokevirtual 69, 3, 2, 2, [(0, 0)]), (.pop, 1, 0, 0, []), (.goto 197, 3, 0, 315, [])]
def KX0_layOne_121 : List RI := [(.aload_n 0, 1, 0, 0, []), (.iconst 3, 1, 0, 0, []), (.aload_n 1, 1, 0, 1, []), (.invokevirtual 69, 3, 2, 2, [(0, 0)]), (.pop, 1, 0, 0, []), (.goto 187, 3, 0, 315, [])]
def KX0_layOne_131 : List RI := [(.aload_n 0, 1, 0, 0, []), (.iconst 4, 1, 0, 0, []), (.aload_n 1, 1, 0, 1, []), (.invokevirtual 69, 3, 2, 2, [(0, 0)]), (.pop, 1, 0, 0, []), (.goto 177, 3, 0, 315, [])]
def KX0_layOne_141 : List RI := [(.aload_n 0, 1, 0, 0, []), (.bipush 6, 2, 0, 0, []), (.aload_n 1, 1, 0, 1, []), (.invokevirtual 69, 3, 2, 2, [(0, 0)]), (.pop, 1, 0, 0, []), (.goto 166, 3, 0, 315, [])]
def KX0_layOne_152 : List RI := [(.aload_n 0, 1, 0, 0, []), (.bipush 7, 2, 0, 0, []), (.aload_n 1, 1, 0, 1, []), (.invokevirtual 69, 3, 2, 2, [(0, 0)]), (.pop, 1, 0, 0, []), (.goto 155, 3, 0, 315, [])]
def KX0_layOne_163 : List RI := [(.aload_n 0, 1, 0, 0, []), (.bipush 8, 2, 0, 0, []), (.aload_n 1, 1, 0, 1, []), (.invokevirtual 69, 3, 2, 2, [(0, 0)]), (.pop, 1, 0, 0, []), (.goto 144, 3, 0, 315, [])]
def KX0_layOne_174 : List RI := [(.aload_n 1, 1, 0, 1, []), (.getfield 160, 3, 0, 76, []), (.ifnonnull 13, 3, 0, 191, [])]
def KX0_layOne_181 : List RI := [(.aload_n 0, 1, 0, 0, []), (.iconst 5, 1, 0, 0, []), (.aload_n 1, 1, 0, 1, []), (.invokevirtual 69, 3, 2, 2, [(0, 0)]), (.pop, 1, 0, 0, []), (.goto 127, 3, 0, 315, [])]
def KX0_layOne_191 : List RI := [(.aload_n 0, 1, 0, 0, []), (.getfield 15, 3, 0, 31, []), (.aload_n 1, 1, 0, 1, []), (.getfield 160, 3, 0, 76, []), (.getfield 163, 3, 0, 77, []), (.aload_n 0, 1, 0, 0, []), (.getfield 41, 3, 0, 34, []), (.iastore, 1, 0, 0, []), (.goto 108, 3, 0, 315, [])]
def KX0_layOne_210 : List RI := [(.aload_n 1, 1, 0, 1, []), (.aload_n 0, 1, 0, 0, []), (.aload_n 1, 1, 0, 1, []), (.getfield 166, 3, 0, 61, []), (.bipush 21, 2, 0, 0, []), (.if_icmp .ne 8, 3, 0, 226, [])]
def KX0_layOne_221 : List RI := [(.bipush 13, 2, 0, 0, []), (.goto 5, 3, 0, 228, [])]
def KX0_layOne_226 : List RI := [(.bipush 14, 2, 0, 0, [])]
def KX0_layOne_228 : List RI := [(.aload_n 1, 1, 0, 1, []), (.invokevirtual 69, 3, 2, 2, [(0, 0)]), (.putfield 163, 3, 0, 77, []), (.goto 80, 3, 0, 315, [])]
def KX0_layOne_238 : List RI := [(.aload_n 1, 1, 0, 1, []), (.aload_n 0, 1, 0, 0, []), (.bipush 11, 2, 0, 0, []), (.aload_n 1, 1, 0, 1, []), (.invokevirtual 69, 3, 2, 2, [(0, 0)]), (.putfield 163, 3, 0, 77, []), (.goto 66, 3, 0, 315, [])]
def KX0_layOne_252 : List RI := [(.aload_n 1, 1, 0, 1, []), (.aload_n 0, 1, 0, 0, []), (.bipush 10, 2, 0, 0, []), (.aload_n 1, 1, 0, 1, []), (.invokevirtual 69, 3, 2, 2, [(0, 0)]), (.putfield 163, 3, 0, 77, []), (.aload_n 1, 1, 0, 1, []), (.getfield 160, 3, 0, 76, []), (.ifnull 48, 3, 0, 315, [])]
def KX0_layOne_270 : List RI := [(.aload_n 0, 1, 0, 0, []), (.getfield 15, 3, 0, 31, []), (.aload_n 1, 1, 0, 1, []), (.getfield 160, 3, 0, 76, []), (.getfield 163, 3, 0, 77, []), (.aload_n 0, 1, 0, 0, []), (.getfield 41, 3, 0, 34, []), (.iastore, 1, 0, 0, []), (.goto 29, 3, 0, 315, [])]
def KX0_layOne_289 : List RI := [(.aload_n 1, 1, 0, 1, []), (.getfield 160, 3, 0, 76, []), (.ifnull 22, 3, 0, 315, [])]
def KX0_layOne_296 : List RI := [(.aload_n 0, 1, 0, 0, []), (.getfield 15, 3, 0, 31, []), (.aload_n 1, 1, 0, 1, []), (.getfield 160, 3, 0, 76, []), (.getfield 163, 3, 0, 77, []), (.aload_n 0, 1, 0, 0, []), (.getfield 41, 3, 0, 34, []), (.iastore, 1, 0, 0, []), (.goto 3, 3, 0, 315, [])]
def KX0_layOne_315 : List RI := [(.return_, 1, 0, 0, [])]
def KX0_layOne : RB := [(0, KX0_layOne_0), (80, KX0_layOne_80), (90, KX0_layOne_90), (98, KX0_layOne_98), (102, KX0_layOne_102), (103, KX0_layOne_103), (111, KX0_layOne_111), (121, KX0_layOne_121), (131, KX0_layOne_131), (141, KX0_layOne_141), (152, KX0_layOne_152), (163, KX0_layOne_163), (174, KX0_layOne_174), (181, KX0_layOne_181), (191, KX0_layOne_191), (210, KX0_layOne_210), (221, KX0_layOne_221), (226, KX0_layOne_226), (228, KX0_layOne_228), (238, KX0_layOne_238), (252, KX0_layOne_252), (270, KX0_layOne_270), (289, KX0_layOne_289), (296, KX0_layOne_296), (315, KX0_layOne_315)]
def rX0_layOne : CmC := (yX0_layOne, cX0_layOne, 2, none, 1, 1, false)
theorem hX0_layOne : mtC[16]? = some rX0_layOne := rfl
set_option maxRecDepth 100000 in
theorem swX0_layOne_4 : decode cX0_layOne 4 = .ok (.tableswitch 311 0 14 #[76, 76, 86, 311, 117, 127, 137, 170, 285, 148, 159, 206, 234, 248, 107], 76) := by sorry
set_option maxRecDepth 100000 in
theorem okX0_layOne : cokMC rX0_layOne KX0_layOne = true := by sorry
def KX1_init_0 : List RI := [(.aload_n 0, 1, 0, 0, []), (.invokespecial 3, 3, 0, 9999, []), (.aload_n 0, 1, 0, 0, []), (.iconst (-1), 1, 0, 0, []), (.putfield 9, 3, 0, 67, []), (.aload_n 0, 1, 0, 0, []), (.iconst (-1), 1, 0, 0, []), (.putfield 15, 3, 0, 68, []), (.aload_n 0, 1, 0, 0, []), (.iload_n 1, 1, 0, 1, []), (.putfield 18, 3, 0, 60, []), (.aload_n 0, 1, 0, 0, []), (.iload_n 2, 1, 0, 2, []), (.putfield 21, 3, 0, 61, []), (.aload_n 0, 1, 0, 0, []), (.iload_n 3, 1, 0, 3, []), (.putfield 24, 3, 0, 62, []), (.aload_n 0, 1, 0, 0, []), (.iload 4, 2, 0, 0, []), (.putfield 27, 3, 0, 63, []), (.aload_n 0, 1, 0, 0, []), (.iload_n 3, 1, 0, 3, []), (.putfield 30, 3, 0, 66, []), (.return_, 1, 0, 0, [])]
def KX1_init : RB := [(0, KX1_init_0)]
def rX1_init : CmC := (yX1_init, cX1_init, 5, none, 4, 2, false)
theorem hX1_init : mtC[17]? = some rX1_init := rfl
set_option maxRecDepth 100000 in
theorem okX1_init : cokMC rX1_init KX1_init = true := by sorry
def KX1_acts_0 : List RI := [(.aload_n 0, 1, 0, 0, []), (.getfield 18, 3, 0, 60, []), (.bipush 9, 2, 0, 0, []), (.if_icmp .eq 21, 3, 0, 27, [])]
def KX1_acts_9 : List RI := [(.aload_n 0, 1, 0, 0, []), (.getfield 18, 3, 0, 60, []), (.bipush 6, 2, 0, 0, []), (.if_icmp .eq 12, 3, 0, 27, [])]
def KX1_acts_18 : List RI := [(.aload_n 0, 1, 0, 0, []), (.getfield 18, 3, 0, 60, []), (.bipush 10, 2, 0, 0, []), (.if_icmp .ne 7, 3, 0, 31, [])]
def KX1_acts_27 : List RI := [(.iconst 1, 1, 0, 0, []), (.goto 4, 3, 0, 32, [])]
def KX1_acts_31 : List RI := [(.iconst 0, 1, 0, 0, [])]
def KX1_acts_32 : List RI := [(.ireturn, 1, 2, 0, [])]
def KX1_acts : RB := [(0, KX1_acts_0), (9, KX1_acts_9), (18, KX1_acts_18), (27, KX1_acts_27), (31, KX1_acts_31), (32, KX1_acts_32)]
def rX1_acts : CmC := (yX1_acts, cX1_acts, 1, (some .boolean), 0, 2, false)
theorem hX1_acts : mtC[18]? = some rX1_acts := rfl
set_option maxRecDepth 100000 in
theorem okX1_acts : cokMC rX1_acts KX1_acts = true := by sorry
def KX2_init_0 : List RI := [(.aload_n 0, 1, 0, 0, []), (.invokespecial 3, 3, 0, 9999, []), (.aload_n 0, 1, 0, 0, []), (.sipush 500, 3, 0, 0, []), (.newarray .long, 2, 0, 102, []), (.putfield 9, 3, 0, 93, []), (.aload_n 0, 1, 0, 0, []), (.aload_n 1, 1, 0, 1, []), (.putfield 15, 3, 0, 90, []), (.return_, 1, 0, 0, [])]
def KX2_init : RB := [(0, KX2_init_0)]
def rX2_init : CmC := (yX2_init, cX2_init, 2, none, 1, 3, false)
theorem hX2_init : mtC[19]? = some rX2_init := rfl
set_option maxRecDepth 100000 in
theorem swX2_init_8 : decode cX2_init 8 = .ok (.newarray .long, 2) := by sorry
set_option maxRecDepth 100000 in
theorem okX2_init : cokMC rX2_init KX2_init = true := by sorry
def KX2_reachAll_0 : List RI := [(.aload_n 0, 1, 0, 0, []), (.aload_n 1, 1, 0, 1, []), (.putfield 15, 3, 0, 90, []), (.iconst 0, 1, 0, 0, []), (.istore_n 2, 1, 0, 2, [])]
def KX2_reachAll_7 : List RI := [(.iload_n 2, 1, 0, 2, []), (.aload_n 0, 1, 0, 0, []), (.getfield 15, 3, 0, 90, []), (.getfield 19, 3, 0, 211, []), (.invokevirtual 25, 3, 0, 234, []), (.if_icmp .ge 56, 3, 0, 74, [])]
def KX2_reachAll_21 : List RI := [(.aload_n 0, 1, 0, 0, []), (.getfield 15, 3, 0, 90, []), (.getfield 19, 3, 0, 211, []), (.iload_n 2, 1, 0, 2, []), (.invokevirtual 31, 3, 1, 235, []), (.checkcast 35, 3, 0, 6, []), (.astore_n 3, 1, 0, 3, []), (.aload_n 0, 1, 0, 0, []), (.aload_n 3, 1, 0, 3, []), (.getfield 37, 3, 0, 186, []), (.invokevirtual 41, 3, 1, 21, [(0, 0), (0, 0), (0, 0)]), (.ifCond .eq 24, 3, 0, 68, [])]
def KX2_reachAll_47 : List RI := [(.aload_n 3, 1, 0, 3, []), (.getfield 45, 3, 0, 182, []), (.iconst 5, 1, 0, 0, []), (.if_icmp .eq 16, 3, 0, 68, [])]
def KX2_reachAll_55 : List RI := [(.aload_n 0, 1, 0, 0, []), (.getfield 15, 3, 0, 90, []), (.bipush 14, 2, 0, 0, []), (.aload_n 3, 1, 0, 3, []), (.getfield 49, 3, 0, 180, []), (.invokevirtual 52, 3, 2, 118, [(0, 0), (0, 0), (0, 0), (0, 0), (0, 0), (0, 0), (0, 0)])]
def KX2_reachAll_68 : List RI := [(.iinc 2 1, 3, 0, 0, []), (.goto (-64), 3, 0, 7, [])]
def KX2_reachAll_74 : List RI := [(.return_, 1, 0, 0, [])]
def KX2_reachAll : RB := [(0, KX2_reachAll_0), (7, KX2_reachAll_7), (21, KX2_reachAll_21), (47, KX2_reachAll_47), (55, KX2_reachAll_55), (68, KX2_reachAll_68), (74, KX2_reachAll_74)]
def rX2_reachAll : CmC := (yX2_reachAll, cX2_reachAll, 4, none, 1, 3, false)
theorem hX2_reachAll : mtC[20]? = some rX2_reachAll := rfl
set_option maxRecDepth 100000 in
theorem okX2_reachAll : cokMC rX2_reachAll KX2_reachAll = true := by sorry
def KX2_reachRow_0 : List RI := [(.iconst 1, 1, 0, 0, []), (.istore_n 2, 1, 0, 2, []), (.aload_n 1, 1, 0, 1, []), (.getfield 56, 3, 0, 276, []), (.astore_n 3, 1, 0, 3, [])]
def KX2_reachRow_7 : List RI := [(.aload_n 3, 1, 0, 3, []), (.ifnull 18, 3, 0, 26, [])]
def KX2_reachRow_11 : List RI := [(.aload_n 0, 1, 0, 0, []), (.aload_n 3, 1, 0, 3, []), (.iload_n 2, 1, 0, 2, []), (.invokevirtual 59, 3, 2, 22, [(0, 0), (0, 0), (0, 0)]), (.istore_n 2, 1, 0, 2, []), (.aload_n 3, 1, 0, 3, []), (.getfield 63, 3, 0, 275, []), (.astore_n 3, 1, 0, 3, []), (.goto (-16), 3, 0, 7, [])]
def KX2_reachRow_26 : List RI := [(.aload_n 1, 1, 0, 1, []), (.iload_n 2, 1, 0, 2, []), (.putfield 66, 3, 0, 282, []), (.iload_n 2, 1, 0, 2, []), (.ireturn, 1, 2, 0, [])]
def KX2_reachRow : RB := [(0, KX2_reachRow_0), (7, KX2_reachRow_7), (11, KX2_reachRow_11), (26, KX2_reachRow_26)]
def rX2_reachRow : CmC := (yX2_reachRow, cX2_reachRow, 4, (some .boolean), 1, 3, false)
theorem hX2_reachRow : mtC[21]? = some rX2_reachRow := rfl
set_option maxRecDepth 100000 in
theorem okX2_reachRow : cokMC rX2_reachRow KX2_reachRow = true := by sorry
def KX2_reach_0 : List RI := [(.iload_n 2, 1, 0, 2, []), (.ifCond .ne 18, 3, 0, 19, [])]
def KX2_reach_4 : List RI := [(.aload_n 0, 1, 0, 0, []), (.getfield 15, 3, 0, 90, []), (.bipush 13, 2, 0, 0, []), (.aload_n 1, 1, 0, 1, []), (.getfield 70, 3, 0, 271, []), (.invokevirtual 52, 3, 2, 118, [(0, 0), (0, 0), (0, 0), (0, 0), (0, 0), (0, 0), (0, 0)]), (.iconst 0, 1, 0, 0, []), (.ireturn, 1, 2, 0, [])]
def KX2_reach_19 : List RI := [(.aload_n 1, 1, 0, 1, []), (.aload_n 1, 1, 0, 1, []), (.getfield 73, 3, 0, 272, []), (.bipush 20, 2, 0, 0, []), (.if_icmp .gt 15, 3, 0, 41, [])]
def KX2_reach_29 : List RI := [(.aload_n 0, 1, 0, 0, []), (.aload_n 1, 1, 0, 1, []), (.invokevirtual 76, 3, 1, 23, [(0, 0), (0, 0), (0, 0)]), (.ifCond .eq 7, 3, 0, 41, [])]
def KX2_reach_37 : List RI := [(.iconst 1, 1, 0, 0, []), (.goto 4, 3, 0, 42, [])]
def KX2_reach_41 : List RI := [(.iconst 0, 1, 0, 0, [])]
def KX2_reach_42 : List RI := [(.putfield 66, 3, 0, 282, []), (.aload_n 1, 1, 0, 1, []), (.getfield 66, 3, 0, 282, []), (.ireturn, 1, 2, 0, [])]
def KX2_reach : RB := [(0, KX2_reach_0), (4, KX2_reach_4), (19, KX2_reach_19), (29, KX2_reach_29), (37, KX2_reach_37), (41, KX2_reach_41), (42, KX2_reach_42)]
def rX2_reach : CmC := (yX2_reach, cX2_reach, 3, (some .boolean), 2, 3, false)
theorem hX2_reach : mtC[22]? = some rX2_reach := rfl
set_option maxRecDepth 100000 in
theorem okX2_reach : cokMC rX2_reach KX2_reach = true := by sorry
def KX2_reachInside_0 : List RI := [(.aload_n 1, 1, 0, 1, []), (.getfield 79, 3, 0, 270, []), (.lookupswitch 261 #[(2, 92), (6, 98), (56, 120), (58, 156), (59, 196), (60, 156), (61, 243), (64, 255), (65, 255), (68, 249)], 92, 0, 265, [(2, 96), (6, 102), (56, 124), (58, 160), (59, 200), (60, 160), (61, 247), (64, 259), (65, 259), (68, 253)])]
def KX2_reachInside_96 : List RI := [(.aload_n 0, 1, 0, 0, []), (.aload_n 1, 1, 0, 1, []), (.invokevirtual 41, 3, 1, 21, [(0, 0), (0, 0), (0, 0)]), (.ireturn, 1, 2, 0, [])]
def KX2_reachInside_102 : List RI := [(.aload_n 0, 1, 0, 0, []), (.aload_n 1, 1, 0, 1, []), (.iconst 1, 1, 0, 0, []), (.invokevirtual 82, 3, 2, 24, [(0, 0), (0, 0), (0, 0)]), (.ifCond .ne 10, 3, 0, 118, [])]
def KX2_reachInside_111 : List RI := [(.aload_n 1, 1, 0, 1, []), (.getfield 85, 3, 0, 283, []), (.ifCond .eq 7, 3, 0, 122, [])]
def KX2_reachInside_118 : List RI := [(.iconst 1, 1, 0, 0, []), (.goto 4, 3, 0, 123, [])]
def KX2_reachInside_122 : List RI := [(.iconst 0, 1, 0, 0, [])]
def KX2_reachInside_123 : List RI := [(.ireturn, 1, 2, 0, [])]
def KX2_reachInside_124 : List RI := [(.aload_n 0, 1, 0, 0, []), (.aload_n 1, 1, 0, 1, []), (.iconst 1, 1, 0, 0, []), (.invokevirtual 82, 3, 2, 24, [(0, 0), (0, 0), (0, 0)]), (.istore_n 2, 1, 0, 2, []), (.aload_n 1, 1, 0, 1, []), (.getfield 88, 3, 0, 277, []), (.ifnull 19, 3, 0, 154, [])]
def KX2_reachInside_138 : List RI := [(.aload_n 0, 1, 0, 0, []), (.aload_n 1, 1, 0, 1, []), (.getfield 88, 3, 0, 277, []), (.iconst 1, 1, 0, 0, []), (.invokevirtual 59, 3, 2, 22, [(0, 0), (0, 0), (0, 0)]), (.ifCond .ne 7, 3, 0, 154, [])]
def KX2_reachInside_150 : List RI := [(.iload_n 2, 1, 0, 2, []), (.ifCond .eq 7, 3, 0, 158, [])]
def KX2_reachInside_154 : List RI := [(.iconst 1, 1, 0, 0, []), (.goto 4, 3, 0, 159, [])]
def KX2_reachInside_158 : List RI := [(.iconst 0, 1, 0, 0, [])]
def KX2_reachInside_159 : List RI := [(.ireturn, 1, 2, 0, [])]
def KX2_reachInside_160 : List RI := [(.aload_n 0, 1, 0, 0, []), (.aload_n 1, 1, 0, 1, []), (.aload_n 1, 1, 0, 1, []), (.iconst 0, 1, 0, 0, []), (.invokevirtual 91, 3, 1, 183, [(0, 0), (0, 0), (0, 0), (0, 0), (0, 0), (0, 0), (0, 0), (0, 0), (0, 0)]), (.ifCond .ne 7, 3, 0, 174, [])]
def KX2_reachInside_170 : List RI := [(.iconst 1, 1, 0, 0, []), (.goto 4, 3, 0, 175, [])]
def KX2_reachInside_174 : List RI := [(.iconst 0, 1, 0, 0, [])]
def KX2_reachInside_175 : List RI := [(.invokevirtual 82, 3, 2, 24, [(0, 0), (0, 0), (0, 0)]), (.pop, 1, 0, 0, []), (.aload_n 1, 1, 0, 1, []), (.iconst 1, 1, 0, 0, []), (.invokevirtual 91, 3, 1, 183, [(0, 0), (0, 0), (0, 0), (0, 0), (0, 0), (0, 0), (0, 0), (0, 0), (0, 0)]), (.ifCond .eq 10, 3, 0, 194, [])]
def KX2_reachInside_187 : List RI := [(.aload_n 1, 1, 0, 1, []), (.getfield 85, 3, 0, 283, []), (.ifCond .eq 7, 3, 0, 198, [])]
def KX2_reachInside_194 : List RI := [(.iconst 1, 1, 0, 0, []), (.goto 4, 3, 0, 199, [])]
def KX2_reachInside_198 : List RI := [(.iconst 0, 1, 0, 0, [])]
def KX2_reachInside_199 : List RI := [(.ireturn, 1, 2, 0, [])]
def KX2_reachInside_200 : List RI := [(.aload_n 0, 1, 0, 0, []), (.aload_n 1, 1, 0, 1, []), (.iconst 1, 1, 0, 0, []), (.invokevirtual 82, 3, 2, 24, [(0, 0), (0, 0), (0, 0)]), (.ifCond .ne 10, 3, 0, 216, [])]
def KX2_reachInside_209 : List RI := [(.aload_n 1, 1, 0, 1, []), (.getfield 95, 3, 0, 284, []), (.ifCond .eq 7, 3, 0, 220, [])]
def KX2_reachInside_216 : List RI := [(.iconst 1, 1, 0, 0, []), (.goto 4, 3, 0, 221, [])]
def KX2_reachInside_220 : List RI := [(.iconst 0, 1, 0, 0, [])]
def KX2_reachInside_221 : List RI := [(.istore_n 3, 1, 0, 3, []), (.iload_n 3, 1, 0, 3, []), (.ifCond .eq 11, 3, 0, 234, [])]
def KX2_reachInside_226 : List RI := [(.aload_n 1, 1, 0, 1, []), (.iconst 1, 1, 0, 0, []), (.invokevirtual 91, 3, 1, 183, [(0, 0), (0, 0), (0, 0), (0, 0), (0, 0), (0, 0), (0, 0), (0, 0), (0, 0)]), (.ifCond .eq 10, 3, 0, 241, [])]
def KX2_reachInside_234 : List RI := [(.aload_n 1, 1, 0, 1, []), (.getfield 85, 3, 0, 283, []), (.ifCond .eq 7, 3, 0, 245, [])]
def KX2_reachInside_241 : List RI := [(.iconst 1, 1, 0, 0, []), (.goto 4, 3, 0, 246, [])]
def KX2_reachInside_245 : List RI := [(.iconst 0, 1, 0, 0, [])]
def KX2_reachInside_246 : List RI := [(.ireturn, 1, 2, 0, [])]
def KX2_reachInside_247 : List RI := [(.aload_n 0, 1, 0, 0, []), (.aload_n 1, 1, 0, 1, []), (.invokevirtual 98, 3, 1, 25, [(0, 0), (0, 0), (0, 0)]), (.ireturn, 1, 2, 0, [])]
def KX2_reachInside_253 : List RI := [(.aload_n 0, 1, 0, 0, []), (.aload_n 1, 1, 0, 1, []), (.invokevirtual 101, 3, 1, 26, [(0, 0), (0, 0), (0, 0)]), (.ireturn, 1, 2, 0, [])]
def KX2_reachInside_259 : List RI := [(.aload_n 1, 1, 0, 1, []), (.invokestatic 104, 3, 1, 27, []), (.iconst 0, 1, 0, 0, []), (.ireturn, 1, 2, 0, [])]
def KX2_reachInside_265 : List RI := [(.aload_n 1, 1, 0, 1, []), (.getfield 79, 3, 0, 270, []), (.bipush 66, 2, 0, 0, []), (.if_icmp .eq 16, 3, 0, 287, [])]
def KX2_reachInside_274 : List RI := [(.aload_n 1, 1, 0, 1, []), (.getfield 79, 3, 0, 270, []), (.bipush 67, 2, 0, 0, []), (.if_icmp .eq 7, 3, 0, 287, [])]
def KX2_reachInside_283 : List RI := [(.iconst 1, 1, 0, 0, []), (.goto 4, 3, 0, 288, [])]
def KX2_reachInside_287 : List RI := [(.iconst 0, 1, 0, 0, [])]
def KX2_reachInside_288 : List RI := [(.ireturn, 1, 2, 0, [])]
def KX2_reachInside : RB := [(0, KX2_reachInside_0), (96, KX2_reachInside_96), (102, KX2_reachInside_102), (111, KX2_reachInside_111), (118, KX2_reachInside_118), (122, KX2_reachInside_122), (123, KX2_reachInside_123), (124, KX2_reachInside_124), (138, KX2_reachInside_138), (150, KX2_reachInside_150), (154, KX2_reachInside_154), (158, KX2_reachInside_158), (159, KX2_reachInside_159), (160, KX2_reachInside_160), (170, KX2_reachInside_170), (174, KX2_reachInside_174), (175, KX2_reachInside_175), (187, KX2_reachInside_187), (194, KX2_reachInside_194), (198, KX2_reachInside_198), (199, KX2_reachInside_199), (200, KX2_reachInside_200), (209, KX2_reachInside_209), (216, KX2_reachInside_216), (220, KX2_reachInside_220), (221, KX2_reachInside_221), (226, KX2_reachInside_226), (234, KX2_reachInside_234), (241, KX2_reachInside_241), (245, KX2_reachInside_245), (246, KX2_reachInside_246), (247, KX2_reachInside_247), (253, KX2_reachInside_253), (259, KX2_reachInside_259), (265, KX2_reachInside_265), (274, KX2_reachInside_274), (283, KX2_reachInside_283), (287, KX2_reachInside_287), (288, KX2_reachInside_288)]
def rX2_reachInside : CmC := (yX2_reachInside, cX2_reachInside, 4, (some .boolean), 1, 3, false)
theorem hX2_reachInside : mtC[23]? = some rX2_reachInside := rfl
set_option maxRecDepth 100000 in
theorem swX2_reachInside_4 : decode cX2_reachInside 4 = .ok (.lookupswitch 261 #[(2, 92), (6, 98), (56, 120), (58, 156), (59, 196), (60, 156), (61, 243), (64, 255), (65, 255), (68, 249)], 92) := by sorry
set_option maxRecDepth 100000 in
theorem okX2_reachInside : cokMC rX2_reachInside KX2_reachInside = true := by sorry
def KX2_reachBody_0 : List RI := [(.aload_n 1, 1, 0, 1, []), (.getfield 56, 3, 0, 276, []), (.ifnull 19, 3, 0, 23, [])]
def KX2_reachBody_7 : List RI := [(.aload_n 0, 1, 0, 0, []), (.aload_n 1, 1, 0, 1, []), (.getfield 56, 3, 0, 276, []), (.iload_n 2, 1, 0, 2, []), (.invokevirtual 59, 3, 2, 22, [(0, 0), (0, 0), (0, 0)]), (.ifCond .eq 7, 3, 0, 23, [])]
def KX2_reachBody_19 : List RI := [(.iconst 1, 1, 0, 0, []), (.goto 4, 3, 0, 24, [])]
def KX2_reachBody_23 : List RI := [(.iconst 0, 1, 0, 0, [])]
def KX2_reachBody_24 : List RI := [(.ireturn, 1, 2, 0, [])]
def KX2_reachBody : RB := [(0, KX2_reachBody_0), (7, KX2_reachBody_7), (19, KX2_reachBody_19), (23, KX2_reachBody_23), (24, KX2_reachBody_24)]
def rX2_reachBody : CmC := (yX2_reachBody, cX2_reachBody, 3, (some .boolean), 2, 3, false)
theorem hX2_reachBody : mtC[24]? = some rX2_reachBody := rfl
set_option maxRecDepth 100000 in
theorem okX2_reachBody : cokMC rX2_reachBody KX2_reachBody = true := by sorry
def KX2_reachSwitch_0 : List RI := [(.iconst 0, 1, 0, 0, []), (.istore_n 2, 1, 0, 2, []), (.iconst 0, 1, 0, 0, []), (.istore_n 3, 1, 0, 3, []), (.aload_n 1, 1, 0, 1, []), (.getfield 56, 3, 0, 276, []), (.astore 4, 2, 0, 0, [])]
def KX2_reachSwitch_10 : List RI := [(.aload 4, 2, 0, 0, []), (.ifnull 64, 3, 0, 76, [])]
def KX2_reachSwitch_15 : List RI := [(.aload 4, 2, 0, 0, []), (.getfield 79, 3, 0, 270, []), (.bipush 62, 2, 0, 0, []), (.if_icmp .eq 13, 3, 0, 35, [])]
def KX2_reachSwitch_25 : List RI := [(.aload 4, 2, 0, 0, []), (.getfield 79, 3, 0, 270, []), (.bipush 63, 2, 0, 0, []), (.if_icmp .ne 26, 3, 0, 58, [])]
def KX2_reachSwitch_35 : List RI := [(.iconst 1, 1, 0, 0, []), (.istore_n 2, 1, 0, 2, []), (.iload_n 3, 1, 0, 3, []), (.aload 4, 2, 0, 0, []), (.getfield 79, 3, 0, 270, []), (.bipush 63, 2, 0, 0, []), (.if_icmp .ne 7, 3, 0, 52, [])]
def KX2_reachSwitch_48 : List RI := [(.iconst 1, 1, 0, 0, []), (.goto 4, 3, 0, 53, [])]
def KX2_reachSwitch_52 : List RI := [(.iconst 0, 1, 0, 0, [])]
def KX2_reachSwitch_53 : List RI := [(.ior, 1, 0, 0, []), (.istore_n 3, 1, 0, 3, []), (.goto 11, 3, 0, 66, [])]
def KX2_reachSwitch_58 : List RI := [(.aload_n 0, 1, 0, 0, []), (.aload 4, 2, 0, 0, []), (.iload_n 2, 1, 0, 2, []), (.invokevirtual 59, 3, 2, 22, [(0, 0), (0, 0), (0, 0)]), (.istore_n 2, 1, 0, 2, [])]
def KX2_reachSwitch_66 : List RI := [(.aload 4, 2, 0, 0, []), (.getfield 63, 3, 0, 275, []), (.astore 4, 2, 0, 0, []), (.goto (-63), 3, 0, 10, [])]
def KX2_reachSwitch_76 : List RI := [(.iload_n 2, 1, 0, 2, []), (.ifCond .ne 14, 3, 0, 91, [])]
def KX2_reachSwitch_80 : List RI := [(.iload_n 3, 1, 0, 3, []), (.ifCond .eq 10, 3, 0, 91, [])]
def KX2_reachSwitch_84 : List RI := [(.aload_n 1, 1, 0, 1, []), (.getfield 85, 3, 0, 283, []), (.ifCond .eq 7, 3, 0, 95, [])]
def KX2_reachSwitch_91 : List RI := [(.iconst 1, 1, 0, 0, []), (.goto 4, 3, 0, 96, [])]
def KX2_reachSwitch_95 : List RI := [(.iconst 0, 1, 0, 0, [])]
def KX2_reachSwitch_96 : List RI := [(.ireturn, 1, 2, 0, [])]
def KX2_reachSwitch : RB := [(0, KX2_reachSwitch_0), (10, KX2_reachSwitch_10), (15, KX2_reachSwitch_15), (25, KX2_reachSwitch_25), (35, KX2_reachSwitch_35), (48, KX2_reachSwitch_48), (52, KX2_reachSwitch_52), (53, KX2_reachSwitch_53), (58, KX2_reachSwitch_58), (66, KX2_reachSwitch_66), (76, KX2_reachSwitch_76), (80, KX2_reachSwitch_80), (84, KX2_reachSwitch_84), (91, KX2_reachSwitch_91), (95, KX2_reachSwitch_95), (96, KX2_reachSwitch_96)]
def rX2_reachSwitch : CmC := (yX2_reachSwitch, cX2_reachSwitch, 5, (some .boolean), 1, 3, false)
theorem hX2_reachSwitch : mtC[25]? = some rX2_reachSwitch := rfl
set_option maxRecDepth 100000 in
theorem okX2_reachSwitch : cokMC rX2_reachSwitch KX2_reachSwitch = true := by sorry
def KX2_reachTry_0 : List RI := [(.aload_n 1, 1, 0, 1, []), (.getfield 108, 3, 0, 278, []), (.ifnull 14, 3, 0, 18, [])]
def KX2_reachTry_7 : List RI := [(.aload_n 0, 1, 0, 0, []), (.aload_n 1, 1, 0, 1, []), (.getfield 108, 3, 0, 278, []), (.invokevirtual 41, 3, 1, 21, [(0, 0), (0, 0), (0, 0)]), (.ifCond .eq 7, 3, 0, 22, [])]
def KX2_reachTry_18 : List RI := [(.iconst 1, 1, 0, 0, []), (.goto 4, 3, 0, 23, [])]
def KX2_reachTry_22 : List RI := [(.iconst 0, 1, 0, 0, [])]
def KX2_reachTry_23 : List RI := [(.istore_n 2, 1, 0, 2, []), (.aload_n 1, 1, 0, 1, []), (.getfield 56, 3, 0, 276, []), (.ifnull 18, 3, 0, 46, [])]
def KX2_reachTry_31 : List RI := [(.aload_n 0, 1, 0, 0, []), (.aload_n 1, 1, 0, 1, []), (.getfield 56, 3, 0, 276, []), (.invokevirtual 41, 3, 1, 21, [(0, 0), (0, 0), (0, 0)]), (.ifCond .eq 7, 3, 0, 46, [])]
def KX2_reachTry_42 : List RI := [(.iconst 1, 1, 0, 0, []), (.goto 4, 3, 0, 47, [])]
def KX2_reachTry_46 : List RI := [(.iconst 0, 1, 0, 0, [])]
def KX2_reachTry_47 : List RI := [(.istore_n 3, 1, 0, 3, []), (.aload_n 1, 1, 0, 1, []), (.getfield 88, 3, 0, 277, []), (.ifnull 14, 3, 0, 66, [])]
def KX2_reachTry_55 : List RI := [(.iload_n 3, 1, 0, 3, []), (.aload_n 0, 1, 0, 0, []), (.aload_n 1, 1, 0, 1, []), (.getfield 88, 3, 0, 277, []), (.invokevirtual 41, 3, 1, 21, [(0, 0), (0, 0), (0, 0)]), (.ior, 1, 0, 0, []), (.istore_n 3, 1, 0, 3, [])]
def KX2_reachTry_66 : List RI := [(.iload_n 3, 1, 0, 3, []), (.ifCond .eq 11, 3, 0, 78, [])]
def KX2_reachTry_70 : List RI := [(.iload_n 2, 1, 0, 2, []), (.ifCond .eq 7, 3, 0, 78, [])]
def KX2_reachTry_74 : List RI := [(.iconst 1, 1, 0, 0, []), (.goto 4, 3, 0, 79, [])]
def KX2_reachTry_78 : List RI := [(.iconst 0, 1, 0, 0, [])]
def KX2_reachTry_79 : List RI := [(.ireturn, 1, 2, 0, [])]
def KX2_reachTry : RB := [(0, KX2_reachTry_0), (7, KX2_reachTry_7), (18, KX2_reachTry_18), (22, KX2_reachTry_22), (23, KX2_reachTry_23), (31, KX2_reachTry_31), (42, KX2_reachTry_42), (46, KX2_reachTry_46), (47, KX2_reachTry_47), (55, KX2_reachTry_55), (66, KX2_reachTry_66), (70, KX2_reachTry_70), (74, KX2_reachTry_74), (78, KX2_reachTry_78), (79, KX2_reachTry_79)]
def rX2_reachTry : CmC := (yX2_reachTry, cX2_reachTry, 4, (some .boolean), 1, 3, false)
theorem hX2_reachTry : mtC[26]? = some rX2_reachTry := rfl
set_option maxRecDepth 100000 in
theorem okX2_reachTry : cokMC rX2_reachTry KX2_reachTry = true := by sorry
def KX2_markTarget_0 : List RI := [(.aload_n 0, 1, 0, 0, []), (.astore_n 1, 1, 0, 1, [])]
def KX2_markTarget_2 : List RI := [(.aload_n 1, 1, 0, 1, []), (.ifnull 40, 3, 0, 43, [])]
def KX2_markTarget_6 : List RI := [(.aload_n 1, 1, 0, 1, []), (.aload_n 0, 1, 0, 0, []), (.getfield 111, 3, 0, 281, []), (.if_acmp .eq 32, 3, 0, 43, [])]
def KX2_markTarget_14 : List RI := [(.aload_n 1, 1, 0, 1, []), (.invokevirtual 114, 3, 0, 181, [(0, 0), (0, 0), (0, 0), (0, 0), (0, 0), (0, 0), (0, 0), (0, 0), (0, 0)]), (.ifCond .eq 17, 3, 0, 35, [])]
def KX2_markTarget_21 : List RI := [(.aload_n 1, 1, 0, 1, []), (.getfield 118, 3, 0, 273, []), (.getfield 108, 3, 0, 278, []), (.getfield 66, 3, 0, 282, []), (.ifCond .ne 4, 3, 0, 35, [])]
def KX2_markTarget_34 : List RI := [(.return_, 1, 0, 0, [])]
def KX2_markTarget_35 : List RI := [(.aload_n 1, 1, 0, 1, []), (.getfield 118, 3, 0, 273, []), (.astore_n 1, 1, 0, 1, []), (.goto (-38), 3, 0, 2, [])]
def KX2_markTarget_43 : List RI := [(.aload_n 0, 1, 0, 0, []), (.getfield 111, 3, 0, 281, []), (.ifnull 23, 3, 0, 70, [])]
def KX2_markTarget_50 : List RI := [(.aload_n 0, 1, 0, 0, []), (.getfield 79, 3, 0, 270, []), (.bipush 64, 2, 0, 0, []), (.if_icmp .ne 14, 3, 0, 70, [])]
def KX2_markTarget_59 : List RI := [(.aload_n 0, 1, 0, 0, []), (.getfield 111, 3, 0, 281, []), (.iconst 1, 1, 0, 0, []), (.putfield 85, 3, 0, 283, []), (.goto 18, 3, 0, 85, [])]
def KX2_markTarget_70 : List RI := [(.aload_n 0, 1, 0, 0, []), (.getfield 111, 3, 0, 281, []), (.ifnull 11, 3, 0, 85, [])]
def KX2_markTarget_77 : List RI := [(.aload_n 0, 1, 0, 0, []), (.getfield 111, 3, 0, 281, []), (.iconst 1, 1, 0, 0, []), (.putfield 95, 3, 0, 284, [])]
def KX2_markTarget_85 : List RI := [(.return_, 1, 0, 0, [])]
def KX2_markTarget : RB := [(0, KX2_markTarget_0), (2, KX2_markTarget_2), (6, KX2_markTarget_6), (14, KX2_markTarget_14), (21, KX2_markTarget_21), (34, KX2_markTarget_34), (35, KX2_markTarget_35), (43, KX2_markTarget_43), (50, KX2_markTarget_50), (59, KX2_markTarget_59), (70, KX2_markTarget_70), (77, KX2_markTarget_77), (85, KX2_markTarget_85)]
def rX2_markTarget : CmC := (yX2_markTarget, cX2_markTarget, 2, none, 1, 3, true)
theorem hX2_markTarget : mtC[27]? = some rX2_markTarget := rfl
set_option maxRecDepth 100000 in
theorem okX2_markTarget : cokMC rX2_markTarget KX2_markTarget = true := by sorry
def KX2_assignAll_0 : List RI := [(.aload_n 0, 1, 0, 0, []), (.aload_n 1, 1, 0, 1, []), (.putfield 15, 3, 0, 90, []), (.iconst 0, 1, 0, 0, []), (.istore_n 2, 1, 0, 2, [])]
def KX2_assignAll_7 : List RI := [(.iload_n 2, 1, 0, 2, []), (.aload_n 0, 1, 0, 0, []), (.getfield 15, 3, 0, 90, []), (.getfield 19, 3, 0, 211, []), (.invokevirtual 25, 3, 0, 234, []), (.if_icmp .ge 71, 3, 0, 89, [])]
def KX2_assignAll_21 : List RI := [(.aload_n 0, 1, 0, 0, []), (.getfield 15, 3, 0, 90, []), (.getfield 19, 3, 0, 211, []), (.iload_n 2, 1, 0, 2, []), (.invokevirtual 31, 3, 1, 235, []), (.checkcast 35, 3, 0, 6, []), (.astore_n 3, 1, 0, 3, []), (.lconst 0, 1, 0, 0, []), (.lstore 4, 2, 0, 0, []), (.iconst 0, 1, 0, 0, []), (.istore 6, 2, 0, 0, [])]
def KX2_assignAll_42 : List RI := [(.iload 6, 2, 0, 0, []), (.aload_n 3, 1, 0, 3, []), (.getfield 121, 3, 0, 185, []), (.if_icmp .ge 24, 3, 0, 72, [])]
def KX2_assignAll_51 : List RI := [(.lload 4, 2, 0, 0, []), (.aload_n 3, 1, 0, 3, []), (.getfield 124, 3, 0, 184, []), (.iload 6, 2, 0, 0, []), (.iadd, 1, 0, 0, []), (.invokestatic 127, 3, 1, 222, []), (.lor, 1, 0, 0, []), (.lstore 4, 2, 0, 0, []), (.iinc 6 1, 3, 0, 0, []), (.goto (-27), 3, 0, 42, [])]
def KX2_assignAll_72 : List RI := [(.aload_n 0, 1, 0, 0, []), (.aload_n 3, 1, 0, 3, []), (.getfield 37, 3, 0, 186, []), (.lload 4, 2, 0, 0, []), (.invokevirtual 131, 3, 2, 29, [(0, 0), (0, 0), (0, 0)]), (.pop2, 1, 0, 0, []), (.iinc 2 1, 3, 0, 0, []), (.goto (-79), 3, 0, 7, [])]
def KX2_assignAll_89 : List RI := [(.return_, 1, 0, 0, [])]
def KX2_assignAll : RB := [(0, KX2_assignAll_0), (7, KX2_assignAll_7), (21, KX2_assignAll_21), (42, KX2_assignAll_42), (51, KX2_assignAll_51), (72, KX2_assignAll_72), (89, KX2_assignAll_89)]
def rX2_assignAll : CmC := (yX2_assignAll, cX2_assignAll, 7, none, 1, 3, false)
theorem hX2_assignAll : mtC[28]? = some rX2_assignAll := rfl
set_option maxRecDepth 100000 in
theorem okX2_assignAll : cokMC rX2_assignAll KX2_assignAll = true := by sorry
def KX2_assign_0 : List RI := [(.aload_n 1, 1, 0, 1, []), (.lload_n 2, 1, 0, 2, []), (.putfield 135, 3, 0, 285, []), (.aload_n 1, 1, 0, 1, []), (.aload_n 1, 1, 0, 1, []), (.getfield 73, 3, 0, 272, []), (.bipush 20, 2, 0, 0, []), (.if_icmp .le 7, 3, 0, 19, [])]
def KX2_assign_15 : List RI := [(.lload_n 2, 1, 0, 2, []), (.goto 9, 3, 0, 25, [])]
def KX2_assign_19 : List RI := [(.aload_n 0, 1, 0, 0, []), (.aload_n 1, 1, 0, 1, []), (.lload_n 2, 1, 0, 2, []), (.invokevirtual 139, 3, 2, 32, [(0, 0), (0, 0), (0, 0)])]
def KX2_assign_25 : List RI := [(.putfield 142, 3, 0, 286, []), (.aload_n 1, 1, 0, 1, []), (.getfield 142, 3, 0, 286, []), (.lreturn, 1, 0, 0, [])]
def KX2_assign : RB := [(0, KX2_assign_0), (15, KX2_assign_15), (19, KX2_assign_19), (25, KX2_assign_25)]
def rX2_assign : CmC := (yX2_assign, cX2_assign, 4, (some .long), 2, 3, false)
theorem hX2_assign : mtC[29]? = some rX2_assign := rfl
set_option maxRecDepth 100000 in
theorem okX2_assign : cokMC rX2_assign KX2_assign = true := by sorry
def KX2_assignRow_0 : List RI := [(.lload_n 2, 1, 0, 2, []), (.lstore 4, 2, 0, 0, []), (.aload_n 1, 1, 0, 1, []), (.astore 6, 2, 0, 0, [])]
def KX2_assignRow_6 : List RI := [(.aload 6, 2, 0, 0, []), (.ifnull 23, 3, 0, 31, [])]
def KX2_assignRow_11 : List RI := [(.aload_n 0, 1, 0, 0, []), (.aload 6, 2, 0, 0, []), (.lload 4, 2, 0, 0, []), (.invokevirtual 131, 3, 2, 29, [(0, 0), (0, 0), (0, 0)]), (.lstore 4, 2, 0, 0, []), (.aload 6, 2, 0, 0, []), (.getfield 63, 3, 0, 275, []), (.astore 6, 2, 0, 0, []), (.goto (-22), 3, 0, 6, [])]
def KX2_assignRow_31 : List RI := [(.lload 4, 2, 0, 0, []), (.lreturn, 1, 0, 0, [])]
def KX2_assignRow : RB := [(0, KX2_assignRow_0), (6, KX2_assignRow_6), (11, KX2_assignRow_11), (31, KX2_assignRow_31)]
def rX2_assignRow : CmC := (yX2_assignRow, cX2_assignRow, 7, (some .long), 2, 3, false)
theorem hX2_assignRow : mtC[30]? = some rX2_assignRow := rfl
set_option maxRecDepth 100000 in
theorem okX2_assignRow : cokMC rX2_assignRow KX2_assignRow = true := by sorry
def KX2_assignBody_0 : List RI := [(.aload_n 1, 1, 0, 1, []), (.getfield 56, 3, 0, 276, []), (.ifnonnull 7, 3, 0, 11, [])]
def KX2_assignBody_7 : List RI := [(.lload_n 2, 1, 0, 2, []), (.goto 12, 3, 0, 20, [])]
def KX2_assignBody_11 : List RI := [(.aload_n 0, 1, 0, 0, []), (.aload_n 1, 1, 0, 1, []), (.getfield 56, 3, 0, 276, []), (.lload_n 2, 1, 0, 2, []), (.invokevirtual 131, 3, 2, 29, [(0, 0), (0, 0), (0, 0)])]
def KX2_assignBody_20 : List RI := [(.lreturn, 1, 0, 0, [])]
def KX2_assignBody : RB := [(0, KX2_assignBody_0), (7, KX2_assignBody_7), (11, KX2_assignBody_11), (20, KX2_assignBody_20)]
def rX2_assignBody : CmC := (yX2_assignBody, cX2_assignBody, 4, (some .long), 2, 3, false)
theorem hX2_assignBody : mtC[31]? = some rX2_assignBody := rfl
set_option maxRecDepth 100000 in
theorem okX2_assignBody : cokMC rX2_assignBody KX2_assignBody = true := by sorry
def KX2_behind_0 : List RI := [(.aload_n 1, 1, 0, 1, []), (.getfield 79, 3, 0, 270, []), (.lookupswitch 243 #[(2, 148), (6, 199), (56, 215), (58, 222), (59, 222), (60, 222), (61, 229), (64, 189), (65, 189), (66, 175), (67, 175), (68, 236), (90, 165), (91, 158), (92, 148), (93, 158), (94, 165)], 148, 0, 247, [(2, 152), (6, 203), (56, 219), (58, 226), (59, 226), (60, 226), (61, 233), (64, 193), (65, 193), (66, 179), (67, 179), (68, 240), (90, 169), (91, 162), (92, 152), (93, 162), (94, 169)])]
def KX2_behind_152 : List RI := [(.aload_n 0, 1, 0, 0, []), (.aload_n 1, 1, 0, 1, []), (.getfield 56, 3, 0, 276, []), (.lload_n 2, 1, 0, 2, []), (.invokevirtual 144, 3, 2, 30, [(0, 0), (0, 0), (0, 0)]), (.lreturn, 1, 0, 0, [])]
def KX2_behind_162 : List RI := [(.aload_n 0, 1, 0, 0, []), (.aload_n 1, 1, 0, 1, []), (.lload_n 2, 1, 0, 2, []), (.invokevirtual 147, 3, 2, 33, [(0, 0), (0, 0), (0, 0)]), (.lreturn, 1, 0, 0, [])]
def KX2_behind_169 : List RI := [(.aload_n 0, 1, 0, 0, []), (.aload_n 1, 1, 0, 1, []), (.getfield 150, 3, 0, 279, []), (.lload_n 2, 1, 0, 2, []), (.invokevirtual 154, 3, 2, 39, [(0, 0), (0, 0), (0, 0)]), (.lreturn, 1, 0, 0, [])]
def KX2_behind_179 : List RI := [(.aload_n 0, 1, 0, 0, []), (.aload_n 1, 1, 0, 1, []), (.getfield 150, 3, 0, 279, []), (.lload_n 2, 1, 0, 2, []), (.invokevirtual 154, 3, 2, 39, [(0, 0), (0, 0), (0, 0)]), (.pop2, 1, 0, 0, []), (.ldc2_w 158, 3, (-1), 0, []), (.lreturn, 1, 0, 0, [])]
def KX2_behind_193 : List RI := [(.aload_n 0, 1, 0, 0, []), (.aload_n 1, 1, 0, 1, []), (.lload_n 2, 1, 0, 2, []), (.invokevirtual 160, 3, 2, 34, [(0, 0), (0, 0), (0, 0)]), (.ldc2_w 158, 3, (-1), 0, []), (.lreturn, 1, 0, 0, [])]
def KX2_behind_203 : List RI := [(.aload_n 0, 1, 0, 0, []), (.aload_n 1, 1, 0, 1, []), (.lload_n 2, 1, 0, 2, []), (.invokevirtual 164, 3, 2, 31, [(0, 0), (0, 0), (0, 0)]), (.lstore 4, 2, 0, 0, []), (.lload 4, 2, 0, 0, []), (.aload_n 1, 1, 0, 1, []), (.getfield 167, 3, 0, 287, []), (.land, 1, 0, 0, []), (.lreturn, 1, 0, 0, [])]
def KX2_behind_219 : List RI := [(.aload_n 0, 1, 0, 0, []), (.aload_n 1, 1, 0, 1, []), (.lload_n 2, 1, 0, 2, []), (.invokevirtual 170, 3, 2, 35, [(0, 0), (0, 0), (0, 0)]), (.lreturn, 1, 0, 0, [])]
def KX2_behind_226 : List RI := [(.aload_n 0, 1, 0, 0, []), (.aload_n 1, 1, 0, 1, []), (.lload_n 2, 1, 0, 2, []), (.invokevirtual 173, 3, 2, 36, [(0, 0), (0, 0), (0, 0)]), (.lreturn, 1, 0, 0, [])]
def KX2_behind_233 : List RI := [(.aload_n 0, 1, 0, 0, []), (.aload_n 1, 1, 0, 1, []), (.lload_n 2, 1, 0, 2, []), (.invokevirtual 176, 3, 2, 37, [(0, 0), (0, 0), (0, 0)]), (.lreturn, 1, 0, 0, [])]
def KX2_behind_240 : List RI := [(.aload_n 0, 1, 0, 0, []), (.aload_n 1, 1, 0, 1, []), (.lload_n 2, 1, 0, 2, []), (.invokevirtual 179, 3, 2, 38, [(0, 0), (0, 0), (0, 0)]), (.lreturn, 1, 0, 0, [])]
def KX2_behind_247 : List RI := [(.lload_n 2, 1, 0, 2, []), (.lreturn, 1, 0, 0, [])]
def KX2_behind : RB := [(0, KX2_behind_0), (152, KX2_behind_152), (162, KX2_behind_162), (169, KX2_behind_169), (179, KX2_behind_179), (193, KX2_behind_193), (203, KX2_behind_203), (219, KX2_behind_219), (226, KX2_behind_226), (233, KX2_behind_233), (240, KX2_behind_240), (247, KX2_behind_247)]
def rX2_behind : CmC := (yX2_behind, cX2_behind, 6, (some .long), 2, 3, false)
theorem hX2_behind : mtC[32]? = some rX2_behind := rfl
set_option maxRecDepth 100000 in
theorem swX2_behind_4 : decode cX2_behind 4 = .ok (.lookupswitch 243 #[(2, 148), (6, 199), (56, 215), (58, 222), (59, 222), (60, 222), (61, 229), (64, 189), (65, 189), (66, 175), (67, 175), (68, 236), (90, 165), (91, 158), (92, 148), (93, 158), (94, 165)], 148) := by sorry
set_option maxRecDepth 100000 in
theorem okX2_behind : cokMC rX2_behind KX2_behind = true := by sorry
def KX2_behindTold_0 : List RI := [(.aload_n 1, 1, 0, 1, []), (.getfield 182, 3, 0, 280, []), (.ifCond .lt 13, 3, 0, 17, [])]
def KX2_behindTold_7 : List RI := [(.aload_n 1, 1, 0, 1, []), (.getfield 182, 3, 0, 280, []), (.invokestatic 127, 3, 1, 222, []), (.goto 4, 3, 0, 18, [])]
def KX2_behindTold_17 : List RI := [(.lconst 0, 1, 0, 0, [])]
def KX2_behindTold_18 : List RI := [(.lstore 4, 2, 0, 0, []), (.aload_n 1, 1, 0, 1, []), (.getfield 150, 3, 0, 279, []), (.ifnonnull 12, 3, 0, 36, [])]
def KX2_behindTold_27 : List RI := [(.lload_n 2, 1, 0, 2, []), (.lload 4, 2, 0, 0, []), (.ldc2_w 158, 3, (-1), 0, []), (.lxor, 1, 0, 0, []), (.land, 1, 0, 0, []), (.lreturn, 1, 0, 0, [])]
def KX2_behindTold_36 : List RI := [(.aload_n 0, 1, 0, 0, []), (.aload_n 1, 1, 0, 1, []), (.getfield 150, 3, 0, 279, []), (.lload_n 2, 1, 0, 2, []), (.lload 4, 2, 0, 0, []), (.ldc2_w 158, 3, (-1), 0, []), (.lxor, 1, 0, 0, []), (.land, 1, 0, 0, []), (.invokevirtual 154, 3, 2, 39, [(0, 0), (0, 0), (0, 0)]), (.lload 4, 2, 0, 0, []), (.lor, 1, 0, 0, []), (.lreturn, 1, 0, 0, [])]
def KX2_behindTold : RB := [(0, KX2_behindTold_0), (7, KX2_behindTold_7), (17, KX2_behindTold_17), (18, KX2_behindTold_18), (27, KX2_behindTold_27), (36, KX2_behindTold_36)]
def rX2_behindTold : CmC := (yX2_behindTold, cX2_behindTold, 6, (some .long), 2, 3, false)
theorem hX2_behindTold : mtC[33]? = some rX2_behindTold := rfl
set_option maxRecDepth 100000 in
theorem okX2_behindTold : cokMC rX2_behindTold KX2_behindTold = true := by sorry
def KX2_leadTo_0 : List RI := [(.lload_n 2, 1, 0, 2, []), (.lstore 4, 2, 0, 0, []), (.aload_n 1, 1, 0, 1, []), (.astore 6, 2, 0, 0, [])]
def KX2_leadTo_6 : List RI := [(.aload 6, 2, 0, 0, []), (.ifnull 46, 3, 0, 54, [])]
def KX2_leadTo_11 : List RI := [(.aload 6, 2, 0, 0, []), (.aload_n 1, 1, 0, 1, []), (.getfield 111, 3, 0, 281, []), (.if_acmp .eq 37, 3, 0, 54, [])]
def KX2_leadTo_20 : List RI := [(.aload 6, 2, 0, 0, []), (.invokevirtual 114, 3, 0, 181, [(0, 0), (0, 0), (0, 0), (0, 0), (0, 0), (0, 0), (0, 0), (0, 0), (0, 0)]), (.ifCond .eq 19, 3, 0, 44, [])]
def KX2_leadTo_28 : List RI := [(.lload 4, 2, 0, 0, []), (.aload 6, 2, 0, 0, []), (.getfield 118, 3, 0, 273, []), (.getfield 108, 3, 0, 278, []), (.getfield 142, 3, 0, 286, []), (.lor, 1, 0, 0, []), (.lstore 4, 2, 0, 0, [])]
def KX2_leadTo_44 : List RI := [(.aload 6, 2, 0, 0, []), (.getfield 118, 3, 0, 273, []), (.astore 6, 2, 0, 0, []), (.goto (-45), 3, 0, 6, [])]
def KX2_leadTo_54 : List RI := [(.aload_n 1, 1, 0, 1, []), (.getfield 111, 3, 0, 281, []), (.ifnull 29, 3, 0, 87, [])]
def KX2_leadTo_61 : List RI := [(.aload_n 1, 1, 0, 1, []), (.getfield 79, 3, 0, 270, []), (.bipush 64, 2, 0, 0, []), (.if_icmp .ne 20, 3, 0, 87, [])]
def KX2_leadTo_70 : List RI := [(.aload_n 1, 1, 0, 1, []), (.getfield 111, 3, 0, 281, []), (.dup, 1, 0, 0, []), (.getfield 167, 3, 0, 287, []), (.lload 4, 2, 0, 0, []), (.land, 1, 0, 0, []), (.putfield 167, 3, 0, 287, []), (.goto 24, 3, 0, 108, [])]
def KX2_leadTo_87 : List RI := [(.aload_n 1, 1, 0, 1, []), (.getfield 111, 3, 0, 281, []), (.ifnull 17, 3, 0, 108, [])]
def KX2_leadTo_94 : List RI := [(.aload_n 1, 1, 0, 1, []), (.getfield 111, 3, 0, 281, []), (.dup, 1, 0, 0, []), (.getfield 185, 3, 0, 288, []), (.lload 4, 2, 0, 0, []), (.land, 1, 0, 0, []), (.putfield 185, 3, 0, 288, [])]
def KX2_leadTo_108 : List RI := [(.return_, 1, 0, 0, [])]
def KX2_leadTo : RB := [(0, KX2_leadTo_0), (6, KX2_leadTo_6), (11, KX2_leadTo_11), (20, KX2_leadTo_20), (28, KX2_leadTo_28), (44, KX2_leadTo_44), (54, KX2_leadTo_54), (61, KX2_leadTo_61), (70, KX2_leadTo_70), (87, KX2_leadTo_87), (94, KX2_leadTo_94), (108, KX2_leadTo_108)]
def rX2_leadTo : CmC := (yX2_leadTo, cX2_leadTo, 7, none, 2, 3, false)
theorem hX2_leadTo : mtC[34]? = some rX2_leadTo := rfl
set_option maxRecDepth 100000 in
theorem okX2_leadTo : cokMC rX2_leadTo KX2_leadTo = true := by sorry
def KX2_behindIf_0 : List RI := [(.aload_n 0, 1, 0, 0, []), (.aload_n 1, 1, 0, 1, []), (.getfield 150, 3, 0, 279, []), (.lload_n 2, 1, 0, 2, []), (.invokevirtual 154, 3, 2, 39, [(0, 0), (0, 0), (0, 0)]), (.pop2, 1, 0, 0, []), (.aload_n 0, 1, 0, 0, []), (.getfield 188, 3, 0, 92, []), (.lstore 4, 2, 0, 0, []), (.aload_n 0, 1, 0, 0, []), (.aload_n 1, 1, 0, 1, []), (.aload_n 0, 1, 0, 0, []), (.getfield 191, 3, 0, 91, []), (.invokevirtual 164, 3, 2, 31, [(0, 0), (0, 0), (0, 0)]), (.lstore 6, 2, 0, 0, []), (.lload 6, 2, 0, 0, []), (.aload_n 1, 1, 0, 1, []), (.getfield 88, 3, 0, 277, []), (.ifnonnull 8, 3, 0, 41, [])]
def KX2_behindIf_36 : List RI := [(.lload 4, 2, 0, 0, []), (.goto 13, 3, 0, 51, [])]
def KX2_behindIf_41 : List RI := [(.aload_n 0, 1, 0, 0, []), (.aload_n 1, 1, 0, 1, []), (.getfield 88, 3, 0, 277, []), (.lload 4, 2, 0, 0, []), (.invokevirtual 131, 3, 2, 29, [(0, 0), (0, 0), (0, 0)])]
def KX2_behindIf_51 : List RI := [(.land, 1, 0, 0, []), (.lreturn, 1, 0, 0, [])]
def KX2_behindIf : RB := [(0, KX2_behindIf_0), (36, KX2_behindIf_36), (41, KX2_behindIf_41), (51, KX2_behindIf_51)]
def rX2_behindIf : CmC := (yX2_behindIf, cX2_behindIf, 8, (some .long), 2, 3, false)
theorem hX2_behindIf : mtC[35]? = some rX2_behindIf := rfl
set_option maxRecDepth 100000 in
theorem okX2_behindIf : cokMC rX2_behindIf KX2_behindIf = true := by sorry
def KX2_behindLoop_0 : List RI := [(.aload_n 1, 1, 0, 1, []), (.getfield 79, 3, 0, 270, []), (.bipush 59, 2, 0, 0, []), (.if_icmp .ne 37, 3, 0, 43, [])]
def KX2_behindLoop_9 : List RI := [(.aload_n 0, 1, 0, 0, []), (.aload_n 1, 1, 0, 1, []), (.lload_n 2, 1, 0, 2, []), (.invokevirtual 164, 3, 2, 31, [(0, 0), (0, 0), (0, 0)]), (.lstore 4, 2, 0, 0, []), (.aload_n 0, 1, 0, 0, []), (.aload_n 1, 1, 0, 1, []), (.getfield 150, 3, 0, 279, []), (.lload 4, 2, 0, 0, []), (.aload_n 1, 1, 0, 1, []), (.getfield 185, 3, 0, 288, []), (.land, 1, 0, 0, []), (.invokevirtual 154, 3, 2, 39, [(0, 0), (0, 0), (0, 0)]), (.pop2, 1, 0, 0, []), (.aload_n 0, 1, 0, 0, []), (.getfield 188, 3, 0, 92, []), (.aload_n 1, 1, 0, 1, []), (.getfield 167, 3, 0, 287, []), (.land, 1, 0, 0, []), (.lreturn, 1, 0, 0, [])]
def KX2_behindLoop_43 : List RI := [(.aload_n 1, 1, 0, 1, []), (.getfield 79, 3, 0, 270, []), (.bipush 60, 2, 0, 0, []), (.if_icmp .ne 15, 3, 0, 64, [])]
def KX2_behindLoop_52 : List RI := [(.aload_n 0, 1, 0, 0, []), (.aload_n 1, 1, 0, 1, []), (.getfield 88, 3, 0, 277, []), (.lload_n 2, 1, 0, 2, []), (.invokevirtual 144, 3, 2, 30, [(0, 0), (0, 0), (0, 0)]), (.goto 4, 3, 0, 65, [])]
def KX2_behindLoop_64 : List RI := [(.lload_n 2, 1, 0, 2, [])]
def KX2_behindLoop_65 : List RI := [(.lstore 4, 2, 0, 0, []), (.aload_n 0, 1, 0, 0, []), (.aload_n 1, 1, 0, 1, []), (.getfield 150, 3, 0, 279, []), (.lload 4, 2, 0, 0, []), (.invokevirtual 154, 3, 2, 39, [(0, 0), (0, 0), (0, 0)]), (.pop2, 1, 0, 0, []), (.aload_n 1, 1, 0, 1, []), (.getfield 150, 3, 0, 279, []), (.ifnonnull 9, 3, 0, 91, [])]
def KX2_behindLoop_85 : List RI := [(.ldc2_w 158, 3, (-1), 0, []), (.goto 7, 3, 0, 95, [])]
def KX2_behindLoop_91 : List RI := [(.aload_n 0, 1, 0, 0, []), (.getfield 188, 3, 0, 92, [])]
def KX2_behindLoop_95 : List RI := [(.lstore 6, 2, 0, 0, []), (.aload_n 0, 1, 0, 0, []), (.aload_n 1, 1, 0, 1, []), (.aload_n 0, 1, 0, 0, []), (.getfield 191, 3, 0, 91, []), (.invokevirtual 164, 3, 2, 31, [(0, 0), (0, 0), (0, 0)]), (.lstore 8, 2, 0, 0, []), (.aload_n 1, 1, 0, 1, []), (.getfield 79, 3, 0, 270, []), (.bipush 60, 2, 0, 0, []), (.if_icmp .ne 19, 3, 0, 133, [])]
def KX2_behindLoop_117 : List RI := [(.aload_n 0, 1, 0, 0, []), (.aload_n 1, 1, 0, 1, []), (.getfield 108, 3, 0, 278, []), (.lload 8, 2, 0, 0, []), (.aload_n 1, 1, 0, 1, []), (.getfield 185, 3, 0, 288, []), (.land, 1, 0, 0, []), (.invokevirtual 144, 3, 2, 30, [(0, 0), (0, 0), (0, 0)]), (.pop2, 1, 0, 0, [])]
def KX2_behindLoop_133 : List RI := [(.lload 6, 2, 0, 0, []), (.aload_n 1, 1, 0, 1, []), (.getfield 167, 3, 0, 287, []), (.land, 1, 0, 0, []), (.lreturn, 1, 0, 0, [])]
def KX2_behindLoop : RB := [(0, KX2_behindLoop_0), (9, KX2_behindLoop_9), (43, KX2_behindLoop_43), (52, KX2_behindLoop_52), (64, KX2_behindLoop_64), (65, KX2_behindLoop_65), (85, KX2_behindLoop_85), (91, KX2_behindLoop_91), (95, KX2_behindLoop_95), (117, KX2_behindLoop_117), (133, KX2_behindLoop_133)]
def rX2_behindLoop : CmC := (yX2_behindLoop, cX2_behindLoop, 10, (some .long), 2, 3, false)
theorem hX2_behindLoop : mtC[36]? = some rX2_behindLoop := rfl
set_option maxRecDepth 100000 in
theorem okX2_behindLoop : cokMC rX2_behindLoop KX2_behindLoop = true := by sorry
def KX2_behindSwitch_0 : List RI := [(.aload_n 0, 1, 0, 0, []), (.aload_n 1, 1, 0, 1, []), (.getfield 150, 3, 0, 279, []), (.lload_n 2, 1, 0, 2, []), (.invokevirtual 154, 3, 2, 39, [(0, 0), (0, 0), (0, 0)]), (.lstore 4, 2, 0, 0, []), (.ldc2_w 158, 3, (-1), 0, []), (.lstore 6, 2, 0, 0, []), (.iconst 0, 1, 0, 0, []), (.istore 8, 2, 0, 0, []), (.aload_n 1, 1, 0, 1, []), (.getfield 56, 3, 0, 276, []), (.astore 9, 2, 0, 0, [])]
def KX2_behindSwitch_25 : List RI := [(.aload 9, 2, 0, 0, []), (.ifnull 73, 3, 0, 100, [])]
def KX2_behindSwitch_30 : List RI := [(.aload 9, 2, 0, 0, []), (.getfield 79, 3, 0, 270, []), (.bipush 62, 2, 0, 0, []), (.if_icmp .eq 13, 3, 0, 50, [])]
def KX2_behindSwitch_40 : List RI := [(.aload 9, 2, 0, 0, []), (.getfield 79, 3, 0, 270, []), (.bipush 63, 2, 0, 0, []), (.if_icmp .ne 33, 3, 0, 80, [])]
def KX2_behindSwitch_50 : List RI := [(.lload 6, 2, 0, 0, []), (.lload 4, 2, 0, 0, []), (.land, 1, 0, 0, []), (.lstore 6, 2, 0, 0, []), (.iload 8, 2, 0, 0, []), (.aload 9, 2, 0, 0, []), (.getfield 79, 3, 0, 270, []), (.bipush 63, 2, 0, 0, []), (.if_icmp .ne 7, 3, 0, 73, [])]
def KX2_behindSwitch_69 : List RI := [(.iconst 1, 1, 0, 0, []), (.goto 4, 3, 0, 74, [])]
def KX2_behindSwitch_73 : List RI := [(.iconst 0, 1, 0, 0, [])]
def KX2_behindSwitch_74 : List RI := [(.ior, 1, 0, 0, []), (.istore 8, 2, 0, 0, []), (.goto 13, 3, 0, 90, [])]
def KX2_behindSwitch_80 : List RI := [(.aload_n 0, 1, 0, 0, []), (.aload 9, 2, 0, 0, []), (.lload 6, 2, 0, 0, []), (.invokevirtual 131, 3, 2, 29, [(0, 0), (0, 0), (0, 0)]), (.lstore 6, 2, 0, 0, [])]
def KX2_behindSwitch_90 : List RI := [(.aload 9, 2, 0, 0, []), (.getfield 63, 3, 0, 275, []), (.astore 9, 2, 0, 0, []), (.goto (-72), 3, 0, 25, [])]
def KX2_behindSwitch_100 : List RI := [(.iload 8, 2, 0, 0, []), (.ifCond .eq 8, 3, 0, 110, [])]
def KX2_behindSwitch_105 : List RI := [(.lload 6, 2, 0, 0, []), (.goto 8, 3, 0, 115, [])]
def KX2_behindSwitch_110 : List RI := [(.lload 6, 2, 0, 0, []), (.lload 4, 2, 0, 0, []), (.land, 1, 0, 0, [])]
def KX2_behindSwitch_115 : List RI := [(.aload_n 1, 1, 0, 1, []), (.getfield 167, 3, 0, 287, []), (.land, 1, 0, 0, []), (.lreturn, 1, 0, 0, [])]
def KX2_behindSwitch : RB := [(0, KX2_behindSwitch_0), (25, KX2_behindSwitch_25), (30, KX2_behindSwitch_30), (40, KX2_behindSwitch_40), (50, KX2_behindSwitch_50), (69, KX2_behindSwitch_69), (73, KX2_behindSwitch_73), (74, KX2_behindSwitch_74), (80, KX2_behindSwitch_80), (90, KX2_behindSwitch_90), (100, KX2_behindSwitch_100), (105, KX2_behindSwitch_105), (110, KX2_behindSwitch_110), (115, KX2_behindSwitch_115)]
def rX2_behindSwitch : CmC := (yX2_behindSwitch, cX2_behindSwitch, 10, (some .long), 2, 3, false)
theorem hX2_behindSwitch : mtC[37]? = some rX2_behindSwitch := rfl
set_option maxRecDepth 100000 in
theorem okX2_behindSwitch : cokMC rX2_behindSwitch KX2_behindSwitch = true := by sorry
def KX2_behindTry_0 : List RI := [(.aload_n 1, 1, 0, 1, []), (.getfield 108, 3, 0, 278, []), (.ifnonnull 7, 3, 0, 11, [])]
def KX2_behindTry_7 : List RI := [(.lconst 0, 1, 0, 0, []), (.goto 12, 3, 0, 20, [])]
def KX2_behindTry_11 : List RI := [(.aload_n 0, 1, 0, 0, []), (.aload_n 1, 1, 0, 1, []), (.getfield 108, 3, 0, 278, []), (.lload_n 2, 1, 0, 2, []), (.invokevirtual 131, 3, 2, 29, [(0, 0), (0, 0), (0, 0)])]
def KX2_behindTry_20 : List RI := [(.lstore 4, 2, 0, 0, []), (.aload_n 0, 1, 0, 0, []), (.aload_n 1, 1, 0, 1, []), (.lload_n 2, 1, 0, 2, []), (.invokevirtual 164, 3, 2, 31, [(0, 0), (0, 0), (0, 0)]), (.lstore 6, 2, 0, 0, []), (.aload_n 1, 1, 0, 1, []), (.getfield 88, 3, 0, 277, []), (.ifnull 36, 3, 0, 70, [])]
def KX2_behindTry_37 : List RI := [(.lload 6, 2, 0, 0, []), (.aload_n 0, 1, 0, 0, []), (.aload_n 1, 1, 0, 1, []), (.getfield 88, 3, 0, 277, []), (.aload_n 1, 1, 0, 1, []), (.getfield 182, 3, 0, 280, []), (.ifCond .lt 15, 3, 0, 63, [])]
def KX2_behindTry_51 : List RI := [(.lload_n 2, 1, 0, 2, []), (.aload_n 1, 1, 0, 1, []), (.getfield 182, 3, 0, 280, []), (.invokestatic 127, 3, 1, 222, []), (.lor, 1, 0, 0, []), (.goto 4, 3, 0, 64, [])]
def KX2_behindTry_63 : List RI := [(.lload_n 2, 1, 0, 2, [])]
def KX2_behindTry_64 : List RI := [(.invokevirtual 131, 3, 2, 29, [(0, 0), (0, 0), (0, 0)]), (.land, 1, 0, 0, []), (.lstore 6, 2, 0, 0, [])]
def KX2_behindTry_70 : List RI := [(.lload 6, 2, 0, 0, []), (.lload 4, 2, 0, 0, []), (.lor, 1, 0, 0, []), (.lreturn, 1, 0, 0, [])]
def KX2_behindTry : RB := [(0, KX2_behindTry_0), (7, KX2_behindTry_7), (11, KX2_behindTry_11), (20, KX2_behindTry_20), (37, KX2_behindTry_37), (51, KX2_behindTry_51), (63, KX2_behindTry_63), (64, KX2_behindTry_64), (70, KX2_behindTry_70)]
def rX2_behindTry : CmC := (yX2_behindTry, cX2_behindTry, 8, (some .long), 2, 3, false)
theorem hX2_behindTry : mtC[38]? = some rX2_behindTry := rfl
set_option maxRecDepth 100000 in
theorem okX2_behindTry : cokMC rX2_behindTry KX2_behindTry = true := by sorry
def KX2_behindExp_0 : List RI := [(.aload_n 0, 1, 0, 0, []), (.lload_n 2, 1, 0, 2, []), (.putfield 191, 3, 0, 91, []), (.aload_n 0, 1, 0, 0, []), (.lload_n 2, 1, 0, 2, []), (.putfield 188, 3, 0, 92, []), (.aload_n 0, 1, 0, 0, []), (.iconst 0, 1, 0, 0, []), (.putfield 194, 3, 0, 94, []), (.aload_n 1, 1, 0, 1, []), (.ifnull 58, 3, 0, 74, [])]
def KX2_behindExp_19 : List RI := [(.aload_n 1, 1, 0, 1, []), (.getfield 197, 3, 0, 63, []), (.istore 4, 2, 0, 0, [])]
def KX2_behindExp_25 : List RI := [(.iload 4, 2, 0, 0, []), (.aload_n 1, 1, 0, 1, []), (.getfield 202, 3, 0, 65, []), (.if_icmp .gt 43, 3, 0, 74, [])]
def KX2_behindExp_34 : List RI := [(.iload 4, 2, 0, 0, []), (.aload_n 0, 1, 0, 0, []), (.getfield 15, 3, 0, 90, []), (.getfield 205, 3, 0, 213, []), (.invokevirtual 25, 3, 0, 234, []), (.if_icmp .ge 28, 3, 0, 74, [])]
def KX2_behindExp_49 : List RI := [(.aload_n 0, 1, 0, 0, []), (.aload_n 0, 1, 0, 0, []), (.getfield 15, 3, 0, 90, []), (.getfield 205, 3, 0, 213, []), (.iload 4, 2, 0, 0, []), (.invokevirtual 31, 3, 1, 235, []), (.checkcast 198, 3, 0, 2, []), (.invokevirtual 208, 3, 1, 40, [(0, 0), (0, 0), (0, 0)]), (.iinc 4 1, 3, 0, 0, []), (.goto (-46), 3, 0, 25, [])]
def KX2_behindExp_74 : List RI := [(.aload_n 0, 1, 0, 0, []), (.getfield 191, 3, 0, 91, []), (.aload_n 0, 1, 0, 0, []), (.getfield 188, 3, 0, 92, []), (.land, 1, 0, 0, []), (.lreturn, 1, 0, 0, [])]
def KX2_behindExp : RB := [(0, KX2_behindExp_0), (19, KX2_behindExp_19), (25, KX2_behindExp_25), (34, KX2_behindExp_34), (49, KX2_behindExp_49), (74, KX2_behindExp_74)]
def rX2_behindExp : CmC := (yX2_behindExp, cX2_behindExp, 5, (some .long), 2, 3, false)
theorem hX2_behindExp : mtC[39]? = some rX2_behindExp := rfl
set_option maxRecDepth 100000 in
theorem okX2_behindExp : cokMC rX2_behindExp KX2_behindExp = true := by sorry
def KX11_strength_0 : List RI := [(.iload_n 0, 1, 0, 0, []), (.ifCond .lt 19, 3, 0, 20, [])]
def KX11_strength_4 : List RI := [(.iload_n 0, 1, 0, 0, []), (.getstatic 210, 3, 0, 1000001, []), (.arraylength, 1, 0, 0, []), (.if_icmp .ge 11, 3, 0, 20, [])]
def KX11_strength_12 : List RI := [(.getstatic 210, 3, 0, 1000001, []), (.iload_n 0, 1, 0, 0, []), (.iaload, 1, 0, 0, []), (.goto 4, 3, 0, 21, [])]
def KX11_strength_20 : List RI := [(.iconst 0, 1, 0, 0, [])]
def KX11_strength_21 : List RI := [(.ireturn, 1, 1, 0, [])]
def KX11_strength : RB := [(0, KX11_strength_0), (4, KX11_strength_4), (12, KX11_strength_12), (20, KX11_strength_20), (21, KX11_strength_21)]
def rX11_strength : CmC := (yX11_strength, cX11_strength, 1, (some .int), 1, 12, true)
set_option maxRecDepth 100000 in
theorem hX11_strength : mtC[225]? = some rX11_strength := rfl
set_option maxRecDepth 100000 in
theorem okX11_strength : cokMC rX11_strength KX11_strength = true := by sorry
def KX11_operatorOf_0 : List RI := [(.iload_n 0, 1, 0, 0, []), (.bipush 8, 2, 0, 0, []), (.isub, 1, 0, 0, []), (.iconst 1, 1, 0, 0, []), (.isub, 1, 0, 0, []), (.istore_n 1, 1, 0, 1, []), (.iload_n 1, 1, 0, 1, []), (.ifCond .lt 19, 3, 0, 27, [])]
def KX11_operatorOf_11 : List RI := [(.iload_n 1, 1, 0, 1, []), (.getstatic 213, 3, 0, 1000002, []), (.arraylength, 1, 0, 0, []), (.if_icmp .ge 11, 3, 0, 27, [])]
def KX11_operatorOf_19 : List RI := [(.getstatic 213, 3, 0, 1000002, []), (.iload_n 1, 1, 0, 1, []), (.iaload, 1, 0, 0, []), (.goto 4, 3, 0, 28, [])]
def KX11_operatorOf_27 : List RI := [(.iload_n 0, 1, 0, 0, [])]
def KX11_operatorOf_28 : List RI := [(.ireturn, 1, 1, 0, [])]
def KX11_operatorOf : RB := [(0, KX11_operatorOf_0), (11, KX11_operatorOf_11), (19, KX11_operatorOf_19), (27, KX11_operatorOf_27), (28, KX11_operatorOf_28)]
def rX11_operatorOf : CmC := (yX11_operatorOf, cX11_operatorOf, 2, (some .int), 1, 12, true)
set_option maxRecDepth 100000 in
theorem hX11_operatorOf : mtC[226]? = some rX11_operatorOf := rfl
set_option maxRecDepth 100000 in
theorem okX11_operatorOf : cokMC rX11_operatorOf KX11_operatorOf = true := by sorry
def KJx4a65c_init_da8c8_0 : List RI := [(.aload_n 0, 1, 0, 0, []), (.invokespecial 1, 3, 0, 250, []), (.aload_n 0, 1, 0, 0, []), (.getstatic 39, 3, 0, 1000000, []), (.putfield 9, 3, 0, 1, []), (.return_, 1, 0, 0, [])]
def KJx4a65c_init_da8c8 : RB := [(0, KJx4a65c_init_da8c8_0)]
def rJx4a65c_init_da8c8 : CmC := (yJx4a65c_init_da8c8, cJx4a65c_init_da8c8, 1, none, 0, 0, false)
set_option maxRecDepth 100000 in
theorem hJx4a65c_init_da8c8 : mtC[233]? = some rJx4a65c_init_da8c8 := rfl
set_option maxRecDepth 100000 in
theorem okJx4a65c_init_da8c8 : cokMC rJx4a65c_init_da8c8 KJx4a65c_init_da8c8 = true := by sorry
def KJx4a65c_size_8abf5_0 : List RI := [(.aload_n 0, 1, 0, 0, []), (.getfield 48, 3, 0, 2, []), (.ireturn, 1, 1, 0, [])]
def KJx4a65c_size_8abf5 : RB := [(0, KJx4a65c_size_8abf5_0)]
def rJx4a65c_size_8abf5 : CmC := (yJx4a65c_size_8abf5, cJx4a65c_size_8abf5, 1, (some .int), 0, 0, false)
set_option maxRecDepth 100000 in
theorem hJx4a65c_size_8abf5 : mtC[234]? = some rJx4a65c_size_8abf5 := rfl
set_option maxRecDepth 100000 in
theorem okJx4a65c_size_8abf5 : cokMC rJx4a65c_size_8abf5 KJx4a65c_size_8abf5 = true := by sorry
def KJx4a65c_get_915e3_0 : List RI := [(.iload_n 1, 1, 0, 1, []), (.aload_n 0, 1, 0, 0, []), (.getfield 48, 3, 0, 2, []), (.invokestatic 118, 3, 2, 247, []), (.pop, 1, 0, 0, []), (.aload_n 0, 1, 0, 0, []), (.iload_n 1, 1, 0, 1, []), (.invokevirtual 123, 3, 1, 241, []), (.areturn, 1, 0, 0, [])]
def KJx4a65c_get_915e3 : RB := [(0, KJx4a65c_get_915e3_0)]
def rJx4a65c_get_915e3 : CmC := (yJx4a65c_get_915e3, cJx4a65c_get_915e3, 2, (some (.object "java/lang/Object")), 1, 0, false)
set_option maxRecDepth 100000 in
theorem hJx4a65c_get_915e3 : mtC[235]? = some rJx4a65c_get_915e3 := rfl
set_option maxRecDepth 100000 in
theorem okJx4a65c_get_915e3 : cokMC rJx4a65c_get_915e3 KJx4a65c_get_915e3 = true := by sorry
def KJx4a65c_add_9ea2d_0 : List RI := [(.aload_n 0, 1, 0, 0, []), (.dup, 1, 0, 0, []), (.getfield 63, 3, 0, 0, []), (.iconst 1, 1, 0, 0, []), (.iadd, 1, 0, 0, []), (.putfield 63, 3, 0, 0, []), (.aload_n 0, 1, 0, 0, []), (.aload_n 1, 1, 0, 1, []), (.aload_n 0, 1, 0, 0, []), (.getfield 9, 3, 0, 1, []), (.aload_n 0, 1, 0, 0, []), (.getfield 48, 3, 0, 2, []), (.invokevirtual 131, 3, 3, 242, []), (.iconst 1, 1, 0, 0, []), (.ireturn, 1, 2, 0, [])]
def KJx4a65c_add_9ea2d : RB := [(0, KJx4a65c_add_9ea2d_0)]
def rJx4a65c_add_9ea2d : CmC := (yJx4a65c_add_9ea2d, cJx4a65c_add_9ea2d, 2, (some .boolean), 1, 0, false)
set_option maxRecDepth 100000 in
theorem hJx4a65c_add_9ea2d : mtC[236]? = some rJx4a65c_add_9ea2d := rfl
set_option maxRecDepth 100000 in
theorem okJx4a65c_add_9ea2d : cokMC rJx4a65c_add_9ea2d KJx4a65c_add_9ea2d = true := by sorry
def KJx4a65c_clear_da8c8_0 : List RI := [(.aload_n 0, 1, 0, 0, []), (.dup, 1, 0, 0, []), (.getfield 63, 3, 0, 0, []), (.iconst 1, 1, 0, 0, []), (.iadd, 1, 0, 0, []), (.putfield 63, 3, 0, 0, []), (.aload_n 0, 1, 0, 0, []), (.getfield 9, 3, 0, 1, []), (.astore_n 1, 1, 0, 1, []), (.aload_n 0, 1, 0, 0, []), (.getfield 48, 3, 0, 2, []), (.istore_n 2, 1, 0, 2, []), (.aload_n 0, 1, 0, 0, []), (.iconst 0, 1, 0, 0, []), (.dup_x1, 1, 0, 0, []), (.putfield 48, 3, 0, 2, []), (.istore_n 3, 1, 0, 3, [])]
def KJx4a65c_clear_da8c8_27 : List RI := [(.iload_n 3, 1, 0, 3, []), (.iload_n 2, 1, 0, 2, []), (.if_icmp .ge 13, 3, 0, 42, [])]
def KJx4a65c_clear_da8c8_32 : List RI := [(.aload_n 1, 1, 0, 1, []), (.iload_n 3, 1, 0, 3, []), (.aconst_null, 1, 0, 0, []), (.aastore, 1, 0, 0, []), (.iinc 3 1, 3, 0, 0, []), (.goto (-12), 3, 0, 27, [])]
def KJx4a65c_clear_da8c8_42 : List RI := [(.return_, 1, 0, 0, [])]
def KJx4a65c_clear_da8c8 : RB := [(0, KJx4a65c_clear_da8c8_0), (27, KJx4a65c_clear_da8c8_27), (32, KJx4a65c_clear_da8c8_32), (42, KJx4a65c_clear_da8c8_42)]
def rJx4a65c_clear_da8c8 : CmC := (yJx4a65c_clear_da8c8, cJx4a65c_clear_da8c8, 4, none, 0, 0, false)
set_option maxRecDepth 100000 in
theorem hJx4a65c_clear_da8c8 : mtC[237]? = some rJx4a65c_clear_da8c8 := rfl
set_option maxRecDepth 100000 in
theorem okJx4a65c_clear_da8c8 : cokMC rJx4a65c_clear_da8c8 KJx4a65c_clear_da8c8 = true := by sorry
def KJx4a65c_elementData_915e3_0 : List RI := [(.aload_n 0, 1, 0, 0, []), (.getfield 9, 3, 0, 1, []), (.iload_n 1, 1, 0, 1, []), (.aaload, 1, 0, 0, []), (.areturn, 1, 0, 0, [])]
def KJx4a65c_elementData_915e3 : RB := [(0, KJx4a65c_elementData_915e3_0)]
def rJx4a65c_elementData_915e3 : CmC := (yJx4a65c_elementData_915e3, cJx4a65c_elementData_915e3, 2, (some (.object "java/lang/Object")), 1, 0, false)
set_option maxRecDepth 100000 in
theorem hJx4a65c_elementData_915e3 : mtC[241]? = some rJx4a65c_elementData_915e3 := rfl
set_option maxRecDepth 100000 in
theorem okJx4a65c_elementData_915e3 : cokMC rJx4a65c_elementData_915e3 KJx4a65c_elementData_915e3 = true := by sorry
def KJx4a65c_add_72be8_0 : List RI := [(.iload_n 3, 1, 0, 3, []), (.aload_n 2, 1, 0, 2, []), (.arraylength, 1, 0, 0, []), (.if_icmp .ne 8, 3, 0, 11, [])]
def KJx4a65c_add_72be8_6 : List RI := [(.aload_n 0, 1, 0, 0, []), (.invokevirtual 129, 3, 0, 244, []), (.astore_n 2, 1, 0, 2, [])]
def KJx4a65c_add_72be8_11 : List RI := [(.aload_n 2, 1, 0, 2, []), (.iload_n 3, 1, 0, 3, []), (.aload_n 1, 1, 0, 1, []), (.aastore, 1, 0, 0, []), (.aload_n 0, 1, 0, 0, []), (.iload_n 3, 1, 0, 3, []), (.iconst 1, 1, 0, 0, []), (.iadd, 1, 0, 0, []), (.putfield 48, 3, 0, 2, []), (.return_, 1, 0, 0, [])]
def KJx4a65c_add_72be8 : RB := [(0, KJx4a65c_add_72be8_0), (6, KJx4a65c_add_72be8_6), (11, KJx4a65c_add_72be8_11)]
def rJx4a65c_add_72be8 : CmC := (yJx4a65c_add_72be8, cJx4a65c_add_72be8, 4, none, 3, 0, false)
set_option maxRecDepth 100000 in
theorem hJx4a65c_add_72be8 : mtC[242]? = some rJx4a65c_add_72be8 := rfl
set_option maxRecDepth 100000 in
theorem okJx4a65c_add_72be8 : cokMC rJx4a65c_add_72be8 KJx4a65c_add_72be8 = true := by sorry
def KJx4a65c_grow_92f84_0 : List RI := [(.aload_n 0, 1, 0, 0, []), (.getfield 9, 3, 0, 1, []), (.arraylength, 1, 0, 0, []), (.istore_n 2, 1, 0, 2, []), (.iload_n 2, 1, 0, 2, []), (.ifCond .gt 13, 3, 0, 20, [])]
def KJx4a65c_grow_92f84_10 : List RI := [(.aload_n 0, 1, 0, 0, []), (.getfield 9, 3, 0, 1, []), (.getstatic 39, 3, 0, 1000000, []), (.if_acmp .eq 28, 3, 0, 45, [])]
def KJx4a65c_grow_92f84_20 : List RI := [(.iload_n 2, 1, 0, 2, []), (.iload_n 1, 1, 0, 1, []), (.iload_n 2, 1, 0, 2, []), (.isub, 1, 0, 0, []), (.iload_n 2, 1, 0, 2, []), (.iconst 1, 1, 0, 0, []), (.ishr, 1, 0, 0, []), (.invokestatic 73, 3, 3, 249, []), (.istore_n 3, 1, 0, 3, []), (.aload_n 0, 1, 0, 0, []), (.aload_n 0, 1, 0, 0, []), (.getfield 9, 3, 0, 1, []), (.iload_n 3, 1, 0, 3, []), (.invokestatic 66, 3, 2, 245, []), (.dup_x1, 1, 0, 0, []), (.putfield 9, 3, 0, 1, []), (.areturn, 1, 0, 0, [])]
def KJx4a65c_grow_92f84_45 : List RI := [(.aload_n 0, 1, 0, 0, []), (.bipush 10, 2, 0, 0, []), (.iload_n 1, 1, 0, 1, []), (.invokestatic 79, 3, 2, 9995, []), (.anewarray 7, 3, 0, 103, []), (.dup_x1, 1, 0, 0, []), (.putfield 9, 3, 0, 1, []), (.areturn, 1, 0, 0, [])]
def KJx4a65c_grow_92f84 : RB := [(0, KJx4a65c_grow_92f84_0), (10, KJx4a65c_grow_92f84_10), (20, KJx4a65c_grow_92f84_20), (45, KJx4a65c_grow_92f84_45)]
def rJx4a65c_grow_92f84 : CmC := (yJx4a65c_grow_92f84, cJx4a65c_grow_92f84, 4, (some (.array (.object "java/lang/Object"))), 1, 0, false)
set_option maxRecDepth 100000 in
theorem hJx4a65c_grow_92f84 : mtC[243]? = some rJx4a65c_grow_92f84 := rfl
set_option maxRecDepth 100000 in
theorem okJx4a65c_grow_92f84 : cokMC rJx4a65c_grow_92f84 KJx4a65c_grow_92f84 = true := by sorry
def KJx4a65c_grow_d5877_0 : List RI := [(.aload_n 0, 1, 0, 0, []), (.aload_n 0, 1, 0, 0, []), (.getfield 48, 3, 0, 2, []), (.iconst 1, 1, 0, 0, []), (.iadd, 1, 0, 0, []), (.invokevirtual 69, 3, 1, 243, []), (.areturn, 1, 0, 0, [])]
def KJx4a65c_grow_d5877 : RB := [(0, KJx4a65c_grow_d5877_0)]
def rJx4a65c_grow_d5877 : CmC := (yJx4a65c_grow_d5877, cJx4a65c_grow_d5877, 1, (some (.array (.object "java/lang/Object"))), 0, 0, false)
set_option maxRecDepth 100000 in
theorem hJx4a65c_grow_d5877 : mtC[244]? = some rJx4a65c_grow_d5877 := rfl
set_option maxRecDepth 100000 in
theorem okJx4a65c_grow_d5877 : cokMC rJx4a65c_grow_d5877 KJx4a65c_grow_d5877 = true := by sorry
def KJ7_copyOf_1904c_0 : List RI := [(.aload_n 0, 1, 0, 0, []), (.iload_n 1, 1, 0, 1, []), (.aload_n 0, 1, 0, 0, []), (.invokevirtual 86, 3, 0, 9998, []), (.invokestatic 300, 3, 3, 246, []), (.areturn, 1, 0, 0, [])]
def KJ7_copyOf_1904c : RB := [(0, KJ7_copyOf_1904c_0)]
def rJ7_copyOf_1904c : CmC := (yJ7_copyOf_1904c, cJ7_copyOf_1904c, 2, (some (.array (.object "java/lang/Object"))), 2, 16, true)
set_option maxRecDepth 100000 in
theorem hJ7_copyOf_1904c : mtC[245]? = some rJ7_copyOf_1904c := rfl
set_option maxRecDepth 100000 in
theorem okJ7_copyOf_1904c : cokMC rJ7_copyOf_1904c KJ7_copyOf_1904c = true := by sorry
def KJ7_copyOf_6403c_0 : List RI := [(.aload_n 2, 1, 0, 2, []), (.ldc 110, 2, 0, 1000011, []), (.if_acmp .ne 10, 3, 0, 13, [])]
def KJ7_copyOf_6403c_6 : List RI := [(.iload_n 1, 1, 0, 1, []), (.anewarray 2, 3, 0, 103, []), (.goto 14, 3, 0, 24, [])]
def KJ7_copyOf_6403c_24 : List RI := [(.astore_n 3, 1, 0, 3, []), (.aload_n 0, 1, 0, 0, []), (.iconst 0, 1, 0, 0, []), (.aload_n 3, 1, 0, 3, []), (.iconst 0, 1, 0, 0, []), (.aload_n 0, 1, 0, 0, []), (.arraylength, 1, 0, 0, []), (.iload_n 1, 1, 0, 1, []), (.invokestatic 304, 3, 2, 9996, []), (.invokestatic 150, 3, 0, 9997, []), (.aload_n 3, 1, 0, 3, []), (.areturn, 1, 0, 0, [])]
def KJ7_copyOf_6403c : RB := [(0, KJ7_copyOf_6403c_0), (6, KJ7_copyOf_6403c_6), (24, KJ7_copyOf_6403c_24)]
def rJ7_copyOf_6403c : CmC := (yJ7_copyOf_6403c, cJ7_copyOf_6403c, 4, (some (.array (.object "java/lang/Object"))), 3, 16, true)
set_option maxRecDepth 100000 in
theorem hJ7_copyOf_6403c : mtC[246]? = some rJ7_copyOf_6403c := rfl
set_option maxRecDepth 100000 in
theorem okJ7_copyOf_6403c : cokMC rJ7_copyOf_6403c KJ7_copyOf_6403c = true := by sorry
def KJ15_checkIndex_7cf53_0 : List RI := [(.iload_n 0, 1, 0, 0, []), (.iload_n 1, 1, 0, 1, []), (.aconst_null, 1, 0, 0, []), (.invokestatic 105, 3, 3, 248, []), (.ireturn, 1, 1, 0, [])]
def KJ15_checkIndex_7cf53 : RB := [(0, KJ15_checkIndex_7cf53_0)]
def rJ15_checkIndex_7cf53 : CmC := (yJ15_checkIndex_7cf53, cJ15_checkIndex_7cf53, 2, (some .int), 2, 17, true)
set_option maxRecDepth 100000 in
theorem hJ15_checkIndex_7cf53 : mtC[247]? = some rJ15_checkIndex_7cf53 := rfl
set_option maxRecDepth 100000 in
theorem okJ15_checkIndex_7cf53 : cokMC rJ15_checkIndex_7cf53 KJ15_checkIndex_7cf53 = true := by sorry
def KJ3_checkIndex_8e157_0 : List RI := [(.iload_n 0, 1, 0, 0, []), (.ifCond .lt 8, 3, 0, 9, [])]
def KJ3_checkIndex_8e157_4 : List RI := [(.iload_n 0, 1, 0, 0, []), (.iload_n 1, 1, 0, 1, []), (.if_icmp .lt 10, 3, 0, 16, [])]
def KJ3_checkIndex_8e157_16 : List RI := [(.iload_n 0, 1, 0, 0, []), (.ireturn, 1, 1, 0, [])]
def KJ3_checkIndex_8e157 : RB := [(0, KJ3_checkIndex_8e157_0), (4, KJ3_checkIndex_8e157_4), (16, KJ3_checkIndex_8e157_16)]
def rJ3_checkIndex_8e157 : CmC := (yJ3_checkIndex_8e157, cJ3_checkIndex_8e157, 3, (some .int), 3, 18, true)
set_option maxRecDepth 100000 in
theorem hJ3_checkIndex_8e157 : mtC[248]? = some rJ3_checkIndex_8e157 := rfl
set_option maxRecDepth 100000 in
theorem okJ3_checkIndex_8e157 : cokMC rJ3_checkIndex_8e157 KJ3_checkIndex_8e157 = true := by sorry
def KJ8_newLength_cabcc_0 : List RI := [(.iload_n 0, 1, 0, 0, []), (.iload_n 1, 1, 0, 1, []), (.iload_n 2, 1, 0, 2, []), (.invokestatic 194, 3, 2, 9995, []), (.iadd, 1, 0, 0, []), (.istore_n 3, 1, 0, 3, []), (.iconst 0, 1, 0, 0, []), (.iload_n 3, 1, 0, 3, []), (.if_icmp .ge 11, 3, 0, 21, [])]
def KJ8_newLength_cabcc_13 : List RI := [(.iload_n 3, 1, 0, 3, []), (.ldc 200, 2, 2147483639, 0, []), (.if_icmp .gt 5, 3, 0, 21, [])]
def KJ8_newLength_cabcc_19 : List RI := [(.iload_n 3, 1, 0, 3, []), (.ireturn, 1, 1, 0, [])]
def KJ8_newLength_cabcc : RB := [(0, KJ8_newLength_cabcc_0), (13, KJ8_newLength_cabcc_13), (19, KJ8_newLength_cabcc_19)]
def rJ8_newLength_cabcc : CmC := (yJ8_newLength_cabcc, cJ8_newLength_cabcc, 4, (some .int), 3, 19, true)
set_option maxRecDepth 100000 in
theorem hJ8_newLength_cabcc : mtC[249]? = some rJ8_newLength_cabcc := rfl
set_option maxRecDepth 100000 in
theorem okJ8_newLength_cabcc : cokMC rJ8_newLength_cabcc KJ8_newLength_cabcc = true := by sorry
def KJxc12de_init_da8c8_0 : List RI := [(.aload_n 0, 1, 0, 0, []), (.invokespecial 1, 3, 0, 251, []), (.aload_n 0, 1, 0, 0, []), (.iconst 0, 1, 0, 0, []), (.putfield 7, 3, 0, 0, []), (.return_, 1, 0, 0, [])]
def KJxc12de_init_da8c8 : RB := [(0, KJxc12de_init_da8c8_0)]
def rJxc12de_init_da8c8 : CmC := (yJxc12de_init_da8c8, cJxc12de_init_da8c8, 1, none, 0, 20, false)
set_option maxRecDepth 100000 in
theorem hJxc12de_init_da8c8 : mtC[250]? = some rJxc12de_init_da8c8 := rfl
set_option maxRecDepth 100000 in
theorem okJxc12de_init_da8c8 : cokMC rJxc12de_init_da8c8 KJxc12de_init_da8c8 = true := by sorry
def KJxa1e45_init_da8c8_0 : List RI := [(.aload_n 0, 1, 0, 0, []), (.invokespecial 1, 3, 0, 9999, []), (.return_, 1, 0, 0, [])]
def KJxa1e45_init_da8c8 : RB := [(0, KJxa1e45_init_da8c8_0)]
def rJxa1e45_init_da8c8 : CmC := (yJxa1e45_init_da8c8, cJxa1e45_init_da8c8, 1, none, 0, 21, false)
set_option maxRecDepth 100000 in
theorem hJxa1e45_init_da8c8 : mtC[251]? = some rJxa1e45_init_da8c8 := rfl
set_option maxRecDepth 100000 in
theorem okJxa1e45_init_da8c8 : cokMC rJxa1e45_init_da8c8 KJxa1e45_init_da8c8 = true := by sorry
/-! the JDK's members -/
theorem stv_ok : ∀ j, j < 43 → 0 < (stvC.getD j 0).toInt → 20 ≤ j ∧ j ≤ 38 := by sorry
theorem stv_ok2 : ∀ j, j < 43 → 20 ≤ j → j ≤ 38 → 0 < (stvC.getD j 0).toInt := by sorry
theorem cpsC {x : Int32} (h : 0 ≤ x.toInt) : (x.toNatClampNeg : Int) = x.toInt := by sorry
theorem i0C : (0 : Int32).toInt = 0 := rfl
section KJ
variable {ct : CcC} {K : CkC} {Z : Option AvC → CsC → Prop} {is : List RI} {pc d b : Nat} {q : Int} {cs : List (Int × Nat)} {ls : ClC} {st : List AvC} {σ : CsC}
theorem k_gets {j c : Nat} (h : cwpC ct K Z is (pc + 3) ls (.inr (.inr (some c)) :: st) σ) : cwpC ct K Z ((.getstatic j, d, q, c, cs) :: is) pc ls st σ := h
theorem k_alenK {a n : Nat} (hn : (a = 1000000 ∧ n = 0) ∨ (a = 1000001 ∧ n = 43) ∨ (a = 1000002 ∧ n = 11)) (h : ∀ x : Int32, x.toInt = (n : Int) → cwpC ct K Z is (pc + 1) ls (.inl x :: st) σ) : cwpC ct K Z ((.arraylength, d, q, b, cs) :: is) pc ls (.inr (.inr (some a)) :: st) σ := by sorry
theorem k_ialS {x : Int32} (h0 : 0 ≤ x.toInt) (h1 : x.toInt < 43) (h : cwpC ct K Z is (pc + 1) ls (.inl (stvC.getD x.toNatClampNeg 0) :: st) σ) : cwpC ct K Z ((.iaload, d, q, b, cs) :: is) pc ls (.inl x :: .inr (.inr (some 1000001)) :: st) σ := ⟨_, rfl, Or.inr (Or.inl ⟨rfl, inC_of h0 h1, h⟩)⟩
theorem k_ialO {x : Int32} (h0 : 0 ≤ x.toInt) (h1 : x.toInt < 11) (h : cwpC ct K Z is (pc + 1) ls (.inl (opvC.getD x.toNatClampNeg 0) :: st) σ) : cwpC ct K Z ((.iaload, d, q, b, cs) :: is) pc ls (.inl x :: .inr (.inr (some 1000002)) :: st) σ := ⟨_, rfl, Or.inr (Or.inr ⟨rfl, inC_of h0 h1, h⟩)⟩
theorem k_aal {x : Int32} {a : Nat} (hr : RwC σ a 103) (h0 : 0 ≤ x.toInt) (h1 : x.toInt < alC σ a) (h : cwpC ct K Z is (pc + 1) ls (.inr (.inr (eRC σ a x.toNatClampNeg)) :: st) σ) : cwpC ct K Z ((.aaload, d, q, b, cs) :: is) pc ls (.inl x :: .inr (.inr (some a)) :: st) σ := ⟨a, 103, rfl, hr, Or.inl rfl, inC_of h0 h1, h⟩
theorem k_aas {x : Int32} {a : Nat} {w : Option Nat} (hr : RwC σ a 103) (h0 : 0 ≤ x.toInt) (h1 : x.toInt < alC σ a) (hw : hoC σ 103 w) (h : cwpC ct K Z is (pc + 1) ls st (qRC σ a (va_up (eRC σ a) x.toNatClampNeg w))) : cwpC ct K Z ((.aastore, d, q, b, cs) :: is) pc ls (.inr (.inr w) :: .inl x :: .inr (.inr (some a)) :: st) σ := ⟨a, 103, rfl, hr, Or.inl rfl, inC_of h0 h1, hw, h⟩
theorem k_alenR {a n : Nat} (hr : RwC σ a 103) (e : alC σ a = n) (hn : n < 2147483648) (h : ∀ x : Int32, x.toInt = (n : Int) → cwpC ct K Z is (pc + 1) ls (.inl x :: st) σ) : cwpC ct K Z ((.arraylength, d, q, b, cs) :: is) pc ls (.inr (.inr (some a)) :: st) σ := by sorry
theorem k_putIg {j k a : Nat} {w : Int32} (o : ObC σ a (k / 30)) (hk : fkC k = 0) (h : cwpC ct K Z is (pc + 3) ls st (pIC σ a k w)) : cwpC ct K Z ((.putfield j, d, q, k, cs) :: is) pc ls (.inl w :: .inr (.inr (some a)) :: st) σ := ⟨a, rfl, o, Or.inl hk, h⟩
end KJ
theorem m_X11_strength (l : Launch) : CMetC l 10 225 P_X11_strength Q_X11_strength := by sorry
theorem m_X11_operatorOf (l : Launch) : CMetC l 10 226 P_X11_operatorOf Q_X11_operatorOf := by sorry
theorem m_Jx4a65c_size_8abf5 (l : Launch) : CMetC l 10 234 P_Jx4a65c_size_8abf5 Q_Jx4a65c_size_8abf5 := by sorry
abbrev P_ck3 : CpC := fun As σ => ∃ (i n : Int32), As = [.inl i, .inl n, .inr (.inr none)] ∧ 0 ≤ i.toInt ∧ i.toInt < n.toInt
abbrev Q_ck3 : CqC := fun As σ w τ => match As with
  | [.inl i, .inl _, .inr (.inr none)] => w = some (.inl i) ∧ σ = τ
  | _ => False
theorem m_ck3 (l : Launch) : CMetC l 1 248 P_ck3 Q_ck3 := by sorry
abbrev P_ck15 : CpC := fun As σ => ∃ (i n : Int32), As = [.inl i, .inl n] ∧ 0 ≤ i.toInt ∧ i.toInt < n.toInt
abbrev Q_ck15 : CqC := fun As σ w τ => match As with
  | [.inl i, .inl _] => w = some (.inl i) ∧ σ = τ
  | _ => False
theorem m_ck15 (l : Launch) : CMetC l 2 247 P_ck15 Q_ck15 := by sorry
abbrev P_eld : CpC := fun As σ => ∃ (a : Nat) (i : Int32) (r : Nat), As = [.inr (.inr (some a)), .inl i] ∧ ObC σ a 0 ∧ fRC σ a 1 = some r ∧ RwC σ r 103 ∧ 0 ≤ i.toInt ∧ i.toInt < alC σ r
abbrev Q_eld : CqC := fun As σ w τ => match As with
  | [.inr (.inr (some a)), .inl i] => σ = τ ∧ ∀ r, fRC σ a 1 = some r → w = some (.inr (.inr (eRC σ r i.toNatClampNeg)))
  | _ => False
theorem m_eld (l : Launch) : CMetC l 1 241 P_eld Q_eld := by sorry
theorem m_Jx4a65c_get_915e3 (l : Launch) : CMetC l 10 235 P_Jx4a65c_get_915e3 Q_Jx4a65c_get_915e3 := by sorry
/-! lists -/
theorem HIC.p2 {σ : CsC} {a : Nat} {v : Int32} (h : HIC σ) (t : TyC σ a 0) (hv : IvC 2 v) (hx : X0C (pIC σ a 2 v) a) : HIC (pIC σ a 2 v) := h.pIx t (by decide) (by decide) hv (XaC.of0 t.2.1 hx)
theorem X0C.z {σ : CsC} {a : Nat} {v : Int32} (hv : v.toInt = 0) (h : X0C σ a) : X0C (pIC σ a 2 v) a := by sorry
theorem HI0.q103 {σ : CsC} {a r : Nat} {f : Nat → Option Nat} (h : HI0 σ) (hr : tgC σ r = 103) (hg : ghC σ r = a + 1) (hz : (fIC σ a 2).toInt = 0) : HI0 (qRC σ r f) := by sorry
theorem elC_q {σ : CsC} {b r p0 j : Nat} {f : Nat → Option Nat} (x : tgC σ b = 0 → X0C σ b) (ht : tgC σ b = 0) (hg : ghC σ r = p0 + 1) (hn : b ≠ p0) (hj : (j : Int) < (fIC σ b 2).toInt) : elC (qRC σ r f) b j = elC σ b j := by sorry
theorem m_Jx4a65c_clear_da8c8 (l : Launch) : CMetC l 10 237 P_Jx4a65c_clear_da8c8 Q_Jx4a65c_clear_da8c8 := by sorry
/-! lists that grow -/
abbrev P_nl : CpC := fun As σ => ∃ (n m p : Int32), As = [.inl n, .inl m, .inl p] ∧ 0 ≤ n.toInt ∧ n.toInt ≤ 20000 ∧ 1 ≤ m.toInt ∧ m.toInt ≤ 20000 ∧ 0 ≤ p.toInt ∧ p.toInt ≤ 20000
abbrev Q_nl : CqC := fun As σ w τ => match As with
  | [.inl n, .inl m, .inl p] => ∃ r : Int32, w = some (.inl r) ∧ σ = τ ∧ r.toInt = n.toInt + max m.toInt p.toInt
  | _ => False
theorem m_nl (l : Launch) : CMetC l 1 249 P_nl Q_nl := by sorry
section KJ2
variable {ct : CcC} {K : CkC} {Z : Option AvC → CsC → Prop} {is : List RI} {pc d b : Nat} {q : Int} {cs : List (Int × Nat)} {ls : ClC} {st : List AvC} {σ : CsC}
theorem k_acmpN {o : Int} {v : Option Nat} (h : cwpC ct K Z is (pc + 3) ls st σ) : cwpC ct K Z ((.if_acmp .ne o, d, q, b, cs) :: is) pc ls (.inr (.inr v) :: .inr (.inr v) :: st) σ := ⟨⟨fun z => absurd rfl z, fun _ => h⟩, Or.inl rfl⟩
theorem k_acmpY {o : Int} {v : Option Nat} (h : K b ls st σ) : cwpC ct K Z ((.if_acmp .eq o, d, q, b, cs) :: is) pc ls (.inr (.inr v) :: .inr (.inr v) :: st) σ := ⟨⟨fun _ => h, fun z => absurd rfl z⟩, Or.inl rfl⟩
theorem k_anew {j n : Nat} {x : Int32} (hx : x.toInt = (n : Int)) (hn : n ≤ 20000) (h1 : cnC σ + 1 ≤ cpC σ) (h2 : slC σ + n ≤ spC σ) (h : cwpC ct K Z is (pc + 3) ls (.inr (.inr (some (cnC σ))) :: st) (nAC σ 103 n 0)) : cwpC ct K Z ((.anewarray j, d, 0, 103, cs) :: is) pc ls (.inl x :: st) σ := by sorry
theorem k_gcl {j a : Nat} (hr : RwC σ a 103) (h8 : csC st ≤ 8) (h : cwpC ct K Z is (pc + 3) ls (.inr (.inr (some 1000011)) :: st) σ) : cwpC ct K Z ((.invokevirtual j, d, q, 9998, cs) :: is) pc ls (.inr (.inr (some a)) :: st) σ := ⟨a, rfl, hr, h8, h⟩
theorem k_acp {j a c n : Nat} {x y z : Int32} (ha : RwC σ a 103) (hc : RwC σ c 103) (hx : x.toInt = 0) (hy : y.toInt = 0) (hz : z.toInt = (n : Int)) (h1 : n ≤ alC σ a) (h2 : n ≤ alC σ c) (he : ∀ i, i < n → hoC σ 103 (eRC σ a i)) (h8 : csC st ≤ 8) (h : cwpC ct K Z is (pc + 3) ls st (qRC σ c (va_cpy (eRC σ a) (eRC σ c) 0 0 n))) : cwpC ct K Z ((.invokestatic j, d, q, 9997, cs) :: is) pc ls (.inl z :: .inl y :: .inr (.inr (some c)) :: .inl x :: .inr (.inr (some a)) :: st) σ := by sorry
end KJ2
/-- a longer row in place of an old one -/
def cpyC (σ : CsC) (r n m : Nat) : CsC := qRC (nAC σ 103 m 0) (cnC σ) (va_cpy (eRC σ r) (fun _ => none) 0 0 n)
theorem nA_rw {σ : CsC} {r m : Nat} (h : RwC σ r 103) : RwC (nAC σ 103 m 0) r 103 ∧ alC (nAC σ 103 m 0) r = alC σ r ∧ eRC (nAC σ 103 m 0) r = eRC σ r := by sorry
theorem nA_new {σ : CsC} {m : Nat} : RwC (nAC σ 103 m 0) (cnC σ) 103 ∧ alC (nAC σ 103 m 0) (cnC σ) = m ∧ eRC (nAC σ 103 m 0) (cnC σ) = fun _ => none := by sorry
theorem hoC_nA {σ : CsC} {m : Nat} {o : Option Nat} (h : hoC σ 103 o) : hoC (nAC σ 103 m 0) 103 o := by sorry
abbrev P_cp3 : CpC := fun As σ => ∃ (r : Nat) (x : Int32) (n m : Nat), As = [.inr (.inr (some r)), .inl x, .inr (.inr (some 1000011))] ∧ RwC σ r 103 ∧ alC σ r = n ∧ n ≤ m ∧ m ≤ 20000 ∧ x.toInt = (m : Int) ∧ (∀ i, i < n → hoC σ 103 (eRC σ r i)) ∧ cnC σ + 1 ≤ cpC σ ∧ slC σ + m ≤ spC σ
abbrev Q_cp3 : CqC := fun As σ w τ => match As with
  | [.inr (.inr (some r)), .inl x, .inr (.inr (some _))] => w = some (.inr (.inr (some (cnC σ)))) ∧ τ = cpyC σ r (alC σ r) x.toNatClampNeg
  | _ => False
theorem m_cp3 (l : Launch) : CMetC l 2 246 P_cp3 Q_cp3 := by sorry
abbrev P_cp2 : CpC := fun As σ => ∃ (r : Nat) (x : Int32) (n m : Nat), As = [.inr (.inr (some r)), .inl x] ∧ RwC σ r 103 ∧ alC σ r = n ∧ n ≤ m ∧ m ≤ 20000 ∧ x.toInt = (m : Int) ∧ (∀ i, i < n → hoC σ 103 (eRC σ r i)) ∧ cnC σ + 1 ≤ cpC σ ∧ slC σ + m ≤ spC σ
abbrev Q_cp2 : CqC := fun As σ w τ => match As with
  | [.inr (.inr (some r)), .inl x] => w = some (.inr (.inr (some (cnC σ)))) ∧ τ = cpyC σ r (alC σ r) x.toNatClampNeg
  | _ => False
theorem m_cp2 (l : Launch) : CMetC l 3 245 P_cp2 Q_cp2 := by sorry
/-! lists take in -/
section KJ3
variable {ct : CcC} {K : CkC} {Z : Option AvC → CsC → Prop} {is : List RI} {pc d b : Nat} {q : Int} {cs : List (Int × Nat)} {ls : ClC} {st : List AvC} {σ : CsC}
theorem k_shr1 {x y : Int32} {n : Nat} (hx : x.toInt = (n : Int)) (hn : n ≤ 20000) (hy : y.toInt = 1) (h : ∀ z : Int32, z.toInt = ((n / 2 : Nat) : Int) → cwpC ct K Z is (pc + 1) ls (.inl z :: st) σ) : cwpC ct K Z ((.ishr, d, q, b, cs) :: is) pc ls (.inl y :: .inl x :: st) σ := by sorry
end KJ3
/-- a list with a longer row -/
def grwC (σ : CsC) (a m : Nat) (f : Nat → Option Nat) : CsC := pRC (qRC (nAC σ 103 m 0) (cnC σ) f) a 1 (some (cnC σ))
theorem qR_no {σ : CsC} {m : Nat} : qRC (nAC σ 103 m 0) (cnC σ) (fun _ => none) = nAC σ 103 m 0 := by sorry
/-- what a list holds ahead of its growth -/
def GfC (σ : CsC) (a n : Nat) : Prop := ObC σ a 0 ∧ ((fRC σ a 1 = some 1000000 ∧ n = 0) ∨ ∃ r, fRC σ a 1 = some r ∧ RwC σ r 103 ∧ alC σ r = n ∧ 10 ≤ n ∧ n ≤ 4300 ∧ ∀ i, i < n → hoC σ 103 (eRC σ r i)) ∧ cnC σ + 1 ≤ cpC σ ∧ slC σ + 10000 ≤ spC σ
def GtC (σ : CsC) (a m : Nat) (f : Nat → Option Nat) : Prop := (fRC σ a 1 = some 1000000 ∧ m = 10) ∨ ∃ r, fRC σ a 1 = some r ∧ RwC σ r 103 ∧ m = alC σ r + alC σ r / 2 ∧ f = va_cpy (eRC σ r) (fun _ => none) 0 0 (alC σ r)
abbrev P_gr1 : CpC := fun As σ => ∃ (a : Nat) (x : Int32) (n : Nat), As = [.inr (.inr (some a)), .inl x] ∧ GfC σ a n ∧ x.toInt = (n : Int) + 1
abbrev Q_gr1 : CqC := fun As σ w τ => match As with
  | [.inr (.inr (some a)), .inl _] => ∃ m f, w = some (.inr (.inr (some (cnC σ)))) ∧ τ = grwC σ a m f ∧ GtC σ a m f
  | _ => False
theorem m_gr1 (l : Launch) : CMetC l 4 243 P_gr1 Q_gr1 := by sorry
abbrev P_gr0 : CpC := fun As σ => ∃ (a n : Nat), As = [.inr (.inr (some a))] ∧ GfC σ a n ∧ (fIC σ a 2).toInt = (n : Int)
abbrev Q_gr0 : CqC := fun As σ w τ => match As with
  | [.inr (.inr (some a))] => ∃ m f, w = some (.inr (.inr (some (cnC σ)))) ∧ τ = grwC σ a m f ∧ GtC σ a m f
  | _ => False
theorem m_gr0 (l : Launch) : CMetC l 5 244 P_gr0 Q_gr0 := by sorry
/-! lists: add -/
theorem gpC_row {σ : CsC} {a r : Nat} (ht : tgC σ a = 0) (hr : fRC σ a 1 = some r) (hl : r < 1000000) : gpC σ a = 6500 - alC σ r := by sorry
theorem gpC_emp {σ : CsC} {a : Nat} (ht : tgC σ a = 0) (hr : fRC σ a 1 = some 1000000) : gpC σ a = 6500 := by sorry
theorem el1C {k j : Nat} (h : k / 30 = j) (hj : 13 ≤ j) : 390 ≤ k := by sorry
theorem gwC_of {σ τ : CsC} (e : ExC [0, 1, 2, 999] σ τ) (hs : slC τ + 4 * gsC τ (cnC τ) ≤ slC σ + 4 * gsC σ (cnC σ) + 22 * (cnC τ - cnC σ)) : GwC none σ τ := by sorry
abbrev AdQ (a b : Nat) (σ τ : CsC) : Prop := HI0 τ ∧ (∀ x, LbC σ x → LbC τ x) ∧ ExC [0, 1, 2, 999] σ τ ∧ GwC none σ τ ∧ cnC τ ≤ cnC σ + 1 ∧ (∀ c, c < cnC σ → tgC σ c = 0 → (fIC τ c 2).toInt ≤ (fIC σ c 2).toInt + 1) ∧ (fIC τ a 2).toInt = (fIC σ a 2).toInt + 1 ∧ (∀ c, c ≠ a → fIC τ c 2 = fIC σ c 2) ∧ AeC a b σ τ
theorem growC {σ τ : CsC} {a b m : Nat} {f : Nat → Option Nat} {s x : Int32} (h : HI0 σ) (t : TyC σ a 0) (hb : ElC σ (ghC σ a) b)
    (hg : (fRC σ a 1 = some 1000000 ∧ m = 10) ∨ ∃ r, fRC σ a 1 = some r ∧ r < cnC σ ∧ m = alC σ r + alC σ r / 2 ∧ alC σ r ≤ 4300)
    (hm : 10 ≤ m ∧ m ≤ 20000 ∧ s.toInt + 1 ≤ (m : Int)) (hel : ∀ j, j < s.toNatClampNeg → ∃ b', f j = some b' ∧ ElC σ (ghC σ a) b') (hel2 : ∀ j, j < s.toNatClampNeg → f j = elC σ a j)
    (hs : fIC σ a 2 = s) (hs0 : 0 ≤ s.toInt) (hx : x.toInt = s.toInt + 1) (h6 : ghC σ a = 6 → s.toInt < 100) (hlim : cnC σ < 1000000)
    (c1 : cnC τ = cnC σ + 1) (c2 : slC τ = slC σ + m) (c3 : τ.1.2 = σ.1.2)
    (c4 : ∀ c, c ≠ cnC σ → τ.2.1 c = σ.2.1 c) (c5 : τ.2.1 (cnC σ) = (103, m, a + 1))
    (c6 : ∀ c k, (k ≠ 2 ∨ c ≠ a) → fIC τ c k = fIC σ c k) (c7 : fIC τ a 2 = x)
    (c8 : ∀ c k, (k ≠ 1 ∨ c ≠ a) → fRC τ c k = fRC σ c k) (c9 : fRC τ a 1 = some (cnC σ))
    (c10 : ∀ c, c ≠ cnC σ → eIC τ c = eIC σ c) (c11 : ∀ c, c ≠ cnC σ → eRC τ c = eRC σ c)
    (c12 : eRC τ (cnC σ) = va_up f s.toNatClampNeg (some b)) (c13 : ∀ c, c ≠ cnC σ → eLC τ c = eLC σ c) : AdQ a b σ τ := by sorry
theorem HI0.q103e {σ : CsC} {a r : Nat} {f : Nat → Option Nat} (h : HI0 σ) (hr : tgC σ r = 103) (hg : ghC σ r = a + 1) (hz : ∀ j, j < (fIC σ a 2).toNatClampNeg → f j = eRC σ r j) : HI0 (qRC σ r f) := by sorry
theorem HI0.pIx {σ : CsC} {a k c : Nat} {v : Int32} (h : HI0 σ) (t : TyC σ a c) (hf : finC k = false) (hv : IvC k v) (hx : XaC (pIC σ a k v) a) : HI0 (pIC σ a k v) := by sorry
theorem addNC {σ : CsC} {a b r : Nat} {s x : Int32} (h : HI0 σ) (t : TyC σ a 0) (hb : ElC σ (ghC σ a) b) (h1 : fRC σ a 1 = some r) (h2 : r < cnC σ ∧ tgC σ r = 103 ∧ ghC σ r = a + 1)
    (h3 : (s.toInt < alC σ r) ∧ alC σ r ≤ 20000 ∧ 10 ≤ alC σ r) (h4 : ∀ j, j < (fIC σ a 2).toNatClampNeg → ∃ b, eRC σ r j = some b ∧ ElC σ (ghC σ a) b)
    (hs : fIC σ a 2 = s) (hs0 : 0 ≤ s.toInt) (hx : x.toInt = s.toInt + 1) (h6 : ghC σ a = 6 → s.toInt < 100) : AdQ a b σ (pIC (qRC σ r (va_up (eRC σ r) s.toNatClampNeg (some b))) a 2 x) := by sorry
theorem ElC.ho {σ : CsC} {g b : Nat} (h : ElC σ g b) : hoC σ 103 (some b) := by sorry
abbrev P_ad3 : CpC := fun As σ => ∃ (a b d : Nat) (s : Int32), As = [.inr (.inr (some a)), .inr (.inr (some b)), .inr (.inr (some d)), .inl s] ∧ HI0 σ ∧ TyC σ a 0 ∧ ElC σ (ghC σ a) b ∧ fRC σ a 1 = some d ∧ fIC σ a 2 = s ∧ s.toInt < 4300 ∧ cnC σ + 1 ≤ cpC σ ∧ slC σ + 10000 ≤ spC σ ∧ (ghC σ a = 6 → s.toInt < 100)
abbrev Q_ad3 : CqC := fun As σ w τ => match As with
  | [.inr (.inr (some a)), .inr (.inr (some b)), .inr (.inr (some _)), .inl _] => w = none ∧ AdQ a b σ τ
  | _ => False
theorem m_ad3 (l : Launch) : CMetC l 6 242 P_ad3 Q_ad3 := by sorry
theorem m_Jx4a65c_add_9ea2d (l : Launch) : CMetC l 10 236 P_Jx4a65c_add_9ea2d Q_Jx4a65c_add_9ea2d := by sorry
theorem m_add6 (l : Launch) : CMetC l 10 236 P_add6 Q_add6 := by sorry
abbrev P_in2 : CpC := fun As σ => ∃ a : Nat, As = [.inr (.inr (some a))]
abbrev Q_in2 : CqC := fun As σ w τ => w = none ∧ σ = τ
theorem m_in2 (l : Launch) : CMetC l 1 251 P_in2 Q_in2 := by sorry
abbrev P_in1 : CpC := fun As σ => ∃ a : Nat, As = [.inr (.inr (some a))] ∧ ObC σ a 0
abbrev Q_in1 : CqC := fun As σ w τ => match As with
  | [.inr (.inr (some a))] => w = none ∧ ∃ z, τ = pIC σ a 0 z
  | _ => False
theorem m_in1 (l : Launch) : CMetC l 2 250 P_in1 Q_in1 := by sorry
theorem m_Jx4a65c_init_da8c8 (l : Launch) : CMetC l 10 233 P_Jx4a65c_init_da8c8 Q_Jx4a65c_init_da8c8 := by sorry
/-! length() and charAt() -/
theorem rooC {s : State} {pl : Platform} {r r' : Room} (h1 : r.frames ≤ r'.frames) (h2 : r.locals ≤ r'.locals) (h3 : r.cells ≤ r'.cells) (h4 : r.slots ≤ r'.slots) (h : s.hasRoom pl r' = true) : s.hasRoom pl r = true := by sorry
theorem aplC {S S' : Spec} {x : MethodName} {pl : Platform} {s : State} {m : MethodId} {args : Array Value} {below : List Frame} (hf : s.frames = .invoking m args :: below) (hp : S'.pre.before args s = true → S.pre.before args s = true) (h1 : S.room.frames ≤ S'.room.frames) (h2 : S.room.locals ≤ S'.room.locals) (h3 : S.room.cells ≤ S'.room.cells) (h4 : S.room.slots ≤ S'.room.slots) (h : S'.appliesLoose x pl s = true) : S.appliesLoose x pl s = true := by sorry
theorem metC {l : Launch} {x : MethodName} {S S' : Spec} {P : Array Value → State → Prop} {K : Program → Env → List Frame → State → Array Value → Prop} {Q : Array Value → State → Outcome → State → Prop} (g : MetFree l x S P K Q) (hp : ∀ a s, S'.pre.before a s = true → S.pre.before a s = true) (h1 : S.room.frames ≤ S'.room.frames) (h2 : S.room.locals ≤ S'.room.locals) (h3 : S.room.cells ≤ S'.room.cells) (h4 : S.room.slots ≤ S'.room.slots) : MetFree l x S' P K Q := by sorry
theorem CMetC.lift {l : Launch} {lev μ : Nat} {P : CpC} {Q : CqC} {r : CmC} {ws : List Cond} {fr lo : Nat} (hr : mtC[μ]? = some r) (hws : ∀ w ∈ ws, w ∈ cGC) (h1 : fr ≤ lev) (h2 : lo ≤ 100 * lev)
    (hM : ∀ (D : va_G) (ad : Nat → Nat) (σ : CsC) (sz : Nat) (As : List AvC), P As σ → ∃ post : Int32 → Unit → Prop, (∀ v u, post v u → Q As σ (some (.inl v)) σ) ∧ Met l r.1 ws ({ frames := fr, cells := 0, slots := 0, locals := lo }) (va_Pc (As.map (cvC ad)) (fun U => U.heap.size = sz ∧ va_P D vwCl [] U.heap ∧ va_K D vwCl [] U ∧ va_D (fun _ => True) [] ∧ evS 0 (fun i => ad (1000003 + i)) (fun i => ad (1000007 + i)) (va_A [] sz) U U.heap)) (va_Qi post (fun (_ : Unit) (t : State) => va_P D vwCl [] t.heap ∧ va_K D vwCl [] t ∧ va_D (va_A [] sz) []) (va_A [] sz)) 0 0 (va_A [] sz)) : CMetC l lev μ P Q := by sorry
theorem sln_j : ∀ i, i < 4 → slnC (1000003 + i) = ((jlen.getD i 0 : Nat) : Int) ∧ jlen.getD i 0 ≤ 1000 := by sorry
theorem m_J0_length_8abf5 (l : Launch) : CMetC l 10 239 P_J0_length_8abf5 Q_J0_length_8abf5 := by sorry
theorem m_J0_charAt_5068e (l : Launch) : CMetC l 10 238 P_J0_charAt_5068e Q_J0_charAt_5068e := by sorry
def KX2_pass_0 : List RI := [(.aload_n 1, 1, 0, 1, []), (.getfield 212, 3, 0, 60, []), (.tableswitch 233 2 14 #[199, 68, 169, 233, 199, 161, 132, 207, 233, 71, 110, 125, 199], 68, 0, 237, [(2, 203), (3, 72), (4, 173), (5, 237), (6, 203), (7, 165), (8, 136), (9, 211), (10, 237), (11, 75), (12, 114), (13, 129), (14, 203)])]
def KX2_pass_72 : List RI := [(.goto 171, 3, 0, 243, [])]
def KX2_pass_75 : List RI := [(.aload_n 1, 1, 0, 1, []), (.getfield 213, 3, 0, 61, []), (.bipush 21, 2, 0, 0, []), (.if_icmp .ne 18, 3, 0, 99, [])]
def KX2_pass_84 : List RI := [(.aload_n 0, 1, 0, 0, []), (.aload_n 0, 1, 0, 0, []), (.getfield 188, 3, 0, 92, []), (.aload_n 0, 1, 0, 0, []), (.getfield 191, 3, 0, 91, []), (.invokevirtual 216, 3, 2, 41, [(0, 0), (0, 0), (0, 0)]), (.goto 147, 3, 0, 243, [])]
def KX2_pass_99 : List RI := [(.aload_n 0, 1, 0, 0, []), (.aload_n 0, 1, 0, 0, []), (.getfield 191, 3, 0, 91, []), (.aload_n 0, 1, 0, 0, []), (.getfield 188, 3, 0, 92, []), (.invokevirtual 216, 3, 2, 41, [(0, 0), (0, 0), (0, 0)]), (.goto 132, 3, 0, 243, [])]
def KX2_pass_114 : List RI := [(.aload_n 0, 1, 0, 0, []), (.aload_n 0, 1, 0, 0, []), (.getfield 188, 3, 0, 92, []), (.aload_n 0, 1, 0, 0, []), (.getfield 191, 3, 0, 91, []), (.invokevirtual 216, 3, 2, 41, [(0, 0), (0, 0), (0, 0)]), (.goto 117, 3, 0, 243, [])]
def KX2_pass_129 : List RI := [(.aload_n 0, 1, 0, 0, []), (.invokevirtual 220, 3, 0, 42, [(0, 0), (0, 0), (0, 0)]), (.goto 110, 3, 0, 243, [])]
def KX2_pass_136 : List RI := [(.aload_n 0, 1, 0, 0, []), (.dup, 1, 0, 0, []), (.getfield 188, 3, 0, 92, []), (.aload_n 0, 1, 0, 0, []), (.invokevirtual 223, 3, 0, 47, [(0, 0), (0, 0), (0, 0)]), (.land, 1, 0, 0, []), (.putfield 188, 3, 0, 92, []), (.aload_n 0, 1, 0, 0, []), (.dup, 1, 0, 0, []), (.getfield 191, 3, 0, 91, []), (.aload_n 0, 1, 0, 0, []), (.invokevirtual 223, 3, 0, 47, [(0, 0), (0, 0), (0, 0)]), (.land, 1, 0, 0, []), (.putfield 191, 3, 0, 91, []), (.goto 81, 3, 0, 243, [])]
def KX2_pass_165 : List RI := [(.aload_n 0, 1, 0, 0, []), (.aload_n 1, 1, 0, 1, []), (.invokevirtual 227, 3, 1, 43, [(0, 0), (0, 0), (0, 0)]), (.goto 73, 3, 0, 243, [])]
def KX2_pass_173 : List RI := [(.aload_n 1, 1, 0, 1, []), (.getfield 213, 3, 0, 61, []), (.bipush 39, 2, 0, 0, []), (.if_icmp .ne 64, 3, 0, 243, [])]
def KX2_pass_182 : List RI := [(.aload_n 0, 1, 0, 0, []), (.getfield 191, 3, 0, 91, []), (.lstore_n 2, 1, 0, 2, []), (.aload_n 0, 1, 0, 0, []), (.aload_n 0, 1, 0, 0, []), (.getfield 188, 3, 0, 92, []), (.putfield 191, 3, 0, 91, []), (.aload_n 0, 1, 0, 0, []), (.lload_n 2, 1, 0, 2, []), (.putfield 188, 3, 0, 92, []), (.goto 43, 3, 0, 243, [])]
def KX2_pass_203 : List RI := [(.aload_n 0, 1, 0, 0, []), (.aload_n 1, 1, 0, 1, []), (.invokevirtual 230, 3, 1, 44, [(0, 0), (0, 0), (0, 0)]), (.goto 35, 3, 0, 243, [])]
def KX2_pass_211 : List RI := [(.aload_n 0, 1, 0, 0, []), (.aload_n 1, 1, 0, 1, []), (.aload_n 1, 1, 0, 1, []), (.getfield 233, 3, 0, 67, []), (.ifCond .lt 13, 3, 0, 230, [])]
def KX2_pass_220 : List RI := [(.aload_n 1, 1, 0, 1, []), (.getfield 233, 3, 0, 67, []), (.invokestatic 127, 3, 1, 222, []), (.goto 4, 3, 0, 231, [])]
def KX2_pass_230 : List RI := [(.lconst 0, 1, 0, 0, [])]
def KX2_pass_231 : List RI := [(.invokevirtual 234, 3, 2, 45, [(0, 0), (0, 0), (0, 0)]), (.goto 9, 3, 0, 243, [])]
def KX2_pass_237 : List RI := [(.aload_n 0, 1, 0, 0, []), (.aload_n 1, 1, 0, 1, []), (.lconst 0, 1, 0, 0, []), (.invokevirtual 234, 3, 2, 45, [(0, 0), (0, 0), (0, 0)])]
def KX2_pass_243 : List RI := [(.return_, 1, 0, 0, [])]
def KX2_pass : RB := [(0, KX2_pass_0), (72, KX2_pass_72), (75, KX2_pass_75), (84, KX2_pass_84), (99, KX2_pass_99), (114, KX2_pass_114), (129, KX2_pass_129), (136, KX2_pass_136), (165, KX2_pass_165), (173, KX2_pass_173), (182, KX2_pass_182), (203, KX2_pass_203), (211, KX2_pass_211), (220, KX2_pass_220), (230, KX2_pass_230), (231, KX2_pass_231), (237, KX2_pass_237), (243, KX2_pass_243)]
def rX2_pass : CmC := (yX2_pass, cX2_pass, 4, none, 1, 3, false)
theorem hX2_pass : mtC[40]? = some rX2_pass := rfl
set_option maxRecDepth 100000 in
theorem swX2_pass_4 : decode cX2_pass 4 = .ok (.tableswitch 233 2 14 #[199, 68, 169, 233, 199, 161, 132, 207, 233, 71, 110, 125, 199], 68) := by sorry
set_option maxRecDepth 100000 in
theorem okX2_pass : cokMC rX2_pass KX2_pass = true := by sorry
def KX2_fork_0 : List RI := [(.aload_n 0, 1, 0, 0, []), (.lload_n 1, 1, 0, 1, []), (.invokevirtual 238, 3, 1, 46, [(0, 0), (0, 0), (0, 0)]), (.aload_n 0, 1, 0, 0, []), (.lload_n 3, 1, 0, 3, []), (.putfield 191, 3, 0, 91, []), (.aload_n 0, 1, 0, 0, []), (.lload_n 3, 1, 0, 3, []), (.putfield 188, 3, 0, 92, []), (.return_, 1, 0, 0, [])]
def KX2_fork : RB := [(0, KX2_fork_0)]
def rX2_fork : CmC := (yX2_fork, cX2_fork, 5, none, 2, 3, false)
theorem hX2_fork : mtC[41]? = some rX2_fork := rfl
set_option maxRecDepth 100000 in
theorem okX2_fork : cokMC rX2_fork KX2_fork = true := by sorry
def KX2_passElse_0 : List RI := [(.aload_n 0, 1, 0, 0, []), (.invokevirtual 223, 3, 0, 47, [(0, 0), (0, 0), (0, 0)]), (.lstore_n 1, 1, 0, 1, []), (.aload_n 0, 1, 0, 0, []), (.aload_n 0, 1, 0, 0, []), (.getfield 191, 3, 0, 91, []), (.invokevirtual 238, 3, 1, 46, [(0, 0), (0, 0), (0, 0)]), (.aload_n 0, 1, 0, 0, []), (.aload_n 0, 1, 0, 0, []), (.getfield 188, 3, 0, 92, []), (.invokevirtual 238, 3, 1, 46, [(0, 0), (0, 0), (0, 0)]), (.aload_n 0, 1, 0, 0, []), (.lload_n 1, 1, 0, 1, []), (.putfield 191, 3, 0, 91, []), (.aload_n 0, 1, 0, 0, []), (.lload_n 1, 1, 0, 1, []), (.putfield 188, 3, 0, 92, []), (.return_, 1, 0, 0, [])]
def KX2_passElse : RB := [(0, KX2_passElse_0)]
def rX2_passElse : CmC := (yX2_passElse, cX2_passElse, 3, none, 0, 3, false)
theorem hX2_passElse : mtC[42]? = some rX2_passElse := rfl
set_option maxRecDepth 100000 in
theorem okX2_passElse : cokMC rX2_passElse KX2_passElse = true := by sorry
def KX2_passChain_0 : List RI := [(.aload_n 1, 1, 0, 1, []), (.getfield 213, 3, 0, 61, []), (.bipush 21, 2, 0, 0, []), (.if_icmp .ne 19, 3, 0, 25, [])]
def KX2_passChain_9 : List RI := [(.aload_n 0, 1, 0, 0, []), (.dup, 1, 0, 0, []), (.getfield 188, 3, 0, 92, []), (.aload_n 0, 1, 0, 0, []), (.invokevirtual 223, 3, 0, 47, [(0, 0), (0, 0), (0, 0)]), (.land, 1, 0, 0, []), (.putfield 188, 3, 0, 92, []), (.goto 34, 3, 0, 56, [])]
def KX2_passChain_25 : List RI := [(.aload_n 1, 1, 0, 1, []), (.getfield 213, 3, 0, 61, []), (.bipush 20, 2, 0, 0, []), (.if_icmp .ne 19, 3, 0, 50, [])]
def KX2_passChain_34 : List RI := [(.aload_n 0, 1, 0, 0, []), (.dup, 1, 0, 0, []), (.getfield 191, 3, 0, 91, []), (.aload_n 0, 1, 0, 0, []), (.invokevirtual 223, 3, 0, 47, [(0, 0), (0, 0), (0, 0)]), (.land, 1, 0, 0, []), (.putfield 191, 3, 0, 91, []), (.goto 9, 3, 0, 56, [])]
def KX2_passChain_50 : List RI := [(.aload_n 0, 1, 0, 0, []), (.aload_n 1, 1, 0, 1, []), (.lconst 0, 1, 0, 0, []), (.invokevirtual 234, 3, 2, 45, [(0, 0), (0, 0), (0, 0)])]
def KX2_passChain_56 : List RI := [(.return_, 1, 0, 0, [])]
def KX2_passChain : RB := [(0, KX2_passChain_0), (9, KX2_passChain_9), (25, KX2_passChain_25), (34, KX2_passChain_34), (50, KX2_passChain_50), (56, KX2_passChain_56)]
def rX2_passChain : CmC := (yX2_passChain, cX2_passChain, 2, none, 1, 3, false)
theorem hX2_passChain : mtC[43]? = some rX2_passChain := rfl
set_option maxRecDepth 100000 in
theorem okX2_passChain : cokMC rX2_passChain KX2_passChain = true := by sorry
def KX2_takeValue_0 : List RI := [(.aload_n 1, 1, 0, 1, []), (.getfield 242, 3, 0, 70, []), (.ifCond .ne 42, 3, 0, 46, [])]
def KX2_takeValue_7 : List RI := [(.aload_n 1, 1, 0, 1, []), (.getfield 233, 3, 0, 67, []), (.ifCond .lt 35, 3, 0, 46, [])]
def KX2_takeValue_14 : List RI := [(.aload_n 0, 1, 0, 0, []), (.getfield 191, 3, 0, 91, []), (.aload_n 0, 1, 0, 0, []), (.getfield 188, 3, 0, 92, []), (.land, 1, 0, 0, []), (.aload_n 1, 1, 0, 1, []), (.getfield 233, 3, 0, 67, []), (.invokestatic 245, 3, 2, 221, []), (.ifCond .ne 16, 3, 0, 46, [])]
def KX2_takeValue_33 : List RI := [(.aload_n 0, 1, 0, 0, []), (.getfield 15, 3, 0, 90, []), (.bipush 15, 2, 0, 0, []), (.aload_n 1, 1, 0, 1, []), (.getfield 249, 3, 0, 66, []), (.invokevirtual 52, 3, 2, 118, [(0, 0), (0, 0), (0, 0), (0, 0), (0, 0), (0, 0), (0, 0)])]
def KX2_takeValue_46 : List RI := [(.aload_n 0, 1, 0, 0, []), (.aload_n 1, 1, 0, 1, []), (.lconst 0, 1, 0, 0, []), (.invokevirtual 234, 3, 2, 45, [(0, 0), (0, 0), (0, 0)]), (.return_, 1, 0, 0, [])]
def KX2_takeValue : RB := [(0, KX2_takeValue_0), (7, KX2_takeValue_7), (14, KX2_takeValue_14), (33, KX2_takeValue_33), (46, KX2_takeValue_46)]
def rX2_takeValue : CmC := (yX2_takeValue, cX2_takeValue, 2, none, 1, 3, false)
theorem hX2_takeValue : mtC[44]? = some rX2_takeValue := rfl
set_option maxRecDepth 100000 in
theorem okX2_takeValue : cokMC rX2_takeValue KX2_takeValue = true := by sorry
def KX2_join_0 : List RI := [(.aload_n 0, 1, 0, 0, []), (.getfield 191, 3, 0, 91, []), (.aload_n 0, 1, 0, 0, []), (.getfield 188, 3, 0, 92, []), (.land, 1, 0, 0, []), (.lload_n 2, 1, 0, 2, []), (.lor, 1, 0, 0, []), (.lstore 4, 2, 0, 0, []), (.aload_n 1, 1, 0, 1, []), (.getfield 242, 3, 0, 70, []), (.ifCond .eq 14, 3, 0, 31, [])]
def KX2_join_20 : List RI := [(.aload_n 1, 1, 0, 1, []), (.getfield 250, 3, 0, 68, []), (.ifCond .ne 7, 3, 0, 31, [])]
def KX2_join_27 : List RI := [(.iconst 1, 1, 0, 0, []), (.goto 4, 3, 0, 32, [])]
def KX2_join_31 : List RI := [(.iconst 0, 1, 0, 0, [])]
def KX2_join_32 : List RI := [(.istore 6, 2, 0, 0, []), (.aload_n 0, 1, 0, 0, []), (.iload 6, 2, 0, 0, []), (.ifCond .eq 18, 3, 0, 55, [])]
def KX2_join_40 : List RI := [(.aload_n 1, 1, 0, 1, []), (.getfield 251, 3, 0, 71, []), (.lconst 0, 1, 0, 0, []), (.lcmp, 1, 0, 0, []), (.ifCond .ne 9, 3, 0, 55, [])]
def KX2_join_49 : List RI := [(.ldc2_w 158, 3, (-1), 0, []), (.goto 5, 3, 0, 57, [])]
def KX2_join_55 : List RI := [(.lload 4, 2, 0, 0, [])]
def KX2_join_57 : List RI := [(.putfield 191, 3, 0, 91, []), (.aload_n 0, 1, 0, 0, []), (.iload 6, 2, 0, 0, []), (.ifCond .eq 18, 3, 0, 81, [])]
def KX2_join_66 : List RI := [(.aload_n 1, 1, 0, 1, []), (.getfield 251, 3, 0, 71, []), (.lconst 1, 1, 0, 0, []), (.lcmp, 1, 0, 0, []), (.ifCond .ne 9, 3, 0, 81, [])]
def KX2_join_75 : List RI := [(.ldc2_w 158, 3, (-1), 0, []), (.goto 5, 3, 0, 83, [])]
def KX2_join_81 : List RI := [(.lload 4, 2, 0, 0, [])]
def KX2_join_83 : List RI := [(.putfield 188, 3, 0, 92, []), (.return_, 1, 0, 0, [])]
def KX2_join : RB := [(0, KX2_join_0), (20, KX2_join_20), (27, KX2_join_27), (31, KX2_join_31), (32, KX2_join_32), (40, KX2_join_40), (49, KX2_join_49), (55, KX2_join_55), (57, KX2_join_57), (66, KX2_join_66), (75, KX2_join_75), (81, KX2_join_81), (83, KX2_join_83)]
def rX2_join : CmC := (yX2_join, cX2_join, 7, none, 2, 3, false)
theorem hX2_join : mtC[45]? = some rX2_join := rfl
set_option maxRecDepth 100000 in
theorem okX2_join : cokMC rX2_join KX2_join = true := by sorry
def KX2_toAside_0 : List RI := [(.aload_n 0, 1, 0, 0, []), (.getfield 194, 3, 0, 94, []), (.aload_n 0, 1, 0, 0, []), (.getfield 9, 3, 0, 93, []), (.arraylength, 1, 0, 0, []), (.if_icmp .ge 23, 3, 0, 32, [])]
def KX2_toAside_12 : List RI := [(.aload_n 0, 1, 0, 0, []), (.getfield 9, 3, 0, 93, []), (.aload_n 0, 1, 0, 0, []), (.getfield 194, 3, 0, 94, []), (.lload_n 1, 1, 0, 1, []), (.lastore, 1, 0, 0, []), (.aload_n 0, 1, 0, 0, []), (.dup, 1, 0, 0, []), (.getfield 194, 3, 0, 94, []), (.iconst 1, 1, 0, 0, []), (.iadd, 1, 0, 0, []), (.putfield 194, 3, 0, 94, [])]
def KX2_toAside_32 : List RI := [(.return_, 1, 0, 0, [])]
def KX2_toAside : RB := [(0, KX2_toAside_0), (12, KX2_toAside_12), (32, KX2_toAside_32)]
def rX2_toAside : CmC := (yX2_toAside, cX2_toAside, 3, none, 1, 3, false)
theorem hX2_toAside : mtC[46]? = some rX2_toAside := rfl
set_option maxRecDepth 100000 in
theorem okX2_toAside : cokMC rX2_toAside KX2_toAside = true := by sorry
def KX2_fromAside_0 : List RI := [(.aload_n 0, 1, 0, 0, []), (.getfield 194, 3, 0, 94, []), (.ifCond .ne 7, 3, 0, 11, [])]
def KX2_fromAside_7 : List RI := [(.ldc2_w 158, 3, (-1), 0, []), (.lreturn, 1, 0, 0, [])]
def KX2_fromAside_11 : List RI := [(.aload_n 0, 1, 0, 0, []), (.dup, 1, 0, 0, []), (.getfield 194, 3, 0, 94, []), (.iconst 1, 1, 0, 0, []), (.isub, 1, 0, 0, []), (.putfield 194, 3, 0, 94, []), (.aload_n 0, 1, 0, 0, []), (.getfield 9, 3, 0, 93, []), (.aload_n 0, 1, 0, 0, []), (.getfield 194, 3, 0, 94, []), (.laload, 1, 0, 0, []), (.lreturn, 1, 0, 0, [])]
def KX2_fromAside : RB := [(0, KX2_fromAside_0), (7, KX2_fromAside_7), (11, KX2_fromAside_11)]
def rX2_fromAside : CmC := (yX2_fromAside, cX2_fromAside, 1, (some .long), 0, 3, false)
theorem hX2_fromAside : mtC[47]? = some rX2_fromAside := rfl
set_option maxRecDepth 100000 in
theorem okX2_fromAside : cokMC rX2_fromAside KX2_fromAside = true := by sorry
def KX3_init_0 : List RI := [(.aload_n 0, 1, 0, 0, []), (.invokespecial 3, 3, 0, 9999, []), (.aload_n 0, 1, 0, 0, []), (.aload_n 1, 1, 0, 1, []), (.putfield 9, 3, 0, 121, []), (.aload_n 0, 1, 0, 0, []), (.new 15, 3, 0, 3, []), (.dup, 1, 0, 0, []), (.aload_n 1, 1, 0, 1, []), (.invokespecial 17, 3, 1, 19, []), (.putfield 20, 3, 0, 120, []), (.return_, 1, 0, 0, [])]
def KX3_init : RB := [(0, KX3_init_0)]
def rX3_init : CmC := (yX3_init, cX3_init, 2, none, 1, 4, false)
theorem hX3_init : mtC[48]? = some rX3_init := rfl
set_option maxRecDepth 100000 in
theorem okX3_init : cokMC rX3_init KX3_init = true := by sorry
def KX3_judgeProgram_0 : List RI := [(.aload_n 0, 1, 0, 0, []), (.aload_n 1, 1, 0, 1, []), (.putfield 9, 3, 0, 121, []), (.iconst 0, 1, 0, 0, []), (.istore_n 2, 1, 0, 2, [])]
def KX3_judgeProgram_7 : List RI := [(.iload_n 2, 1, 0, 2, []), (.aload_n 0, 1, 0, 0, []), (.getfield 9, 3, 0, 121, []), (.getfield 24, 3, 0, 211, []), (.invokevirtual 30, 3, 0, 234, []), (.if_icmp .ge 14, 3, 0, 32, [])]
def KX3_judgeProgram_21 : List RI := [(.aload_n 0, 1, 0, 0, []), (.iload_n 2, 1, 0, 2, []), (.invokevirtual 36, 3, 1, 50, [(0, 0), (0, 0), (0, 0), (0, 0)]), (.iinc 2 1, 3, 0, 0, []), (.goto (-22), 3, 0, 7, [])]
def KX3_judgeProgram_32 : List RI := [(.iconst 0, 1, 0, 0, []), (.istore_n 2, 1, 0, 2, [])]
def KX3_judgeProgram_34 : List RI := [(.iload_n 2, 1, 0, 2, []), (.aload_n 0, 1, 0, 0, []), (.getfield 9, 3, 0, 121, []), (.getfield 40, 3, 0, 212, []), (.invokevirtual 30, 3, 0, 234, []), (.if_icmp .ge 54, 3, 0, 99, [])]
def KX3_judgeProgram_48 : List RI := [(.aload_n 0, 1, 0, 0, []), (.getfield 9, 3, 0, 121, []), (.getfield 40, 3, 0, 212, []), (.iload_n 2, 1, 0, 2, []), (.invokevirtual 43, 3, 1, 235, []), (.checkcast 47, 3, 0, 11, []), (.getfield 49, 3, 0, 334, []), (.ifCond .eq 28, 3, 0, 93, [])]
def KX3_judgeProgram_68 : List RI := [(.aload_n 0, 1, 0, 0, []), (.getfield 9, 3, 0, 121, []), (.iconst 2, 1, 0, 0, []), (.aload_n 0, 1, 0, 0, []), (.getfield 9, 3, 0, 121, []), (.getfield 40, 3, 0, 212, []), (.iload_n 2, 1, 0, 2, []), (.invokevirtual 43, 3, 1, 235, []), (.checkcast 47, 3, 0, 11, []), (.getfield 53, 3, 0, 330, []), (.invokevirtual 57, 3, 2, 118, [(0, 0), (0, 0), (0, 0), (0, 0), (0, 0), (0, 0), (0, 0)])]
def KX3_judgeProgram_93 : List RI := [(.iinc 2 1, 3, 0, 0, []), (.goto (-62), 3, 0, 34, [])]
def KX3_judgeProgram_99 : List RI := [(.iconst 0, 1, 0, 0, []), (.istore_n 2, 1, 0, 2, [])]
def KX3_judgeProgram_101 : List RI := [(.iload_n 2, 1, 0, 2, []), (.aload_n 0, 1, 0, 0, []), (.getfield 9, 3, 0, 121, []), (.getfield 61, 3, 0, 213, []), (.invokevirtual 30, 3, 0, 234, []), (.if_icmp .ge 27, 3, 0, 139, [])]
def KX3_judgeProgram_115 : List RI := [(.aload_n 0, 1, 0, 0, []), (.aload_n 0, 1, 0, 0, []), (.getfield 9, 3, 0, 121, []), (.getfield 61, 3, 0, 213, []), (.iload_n 2, 1, 0, 2, []), (.invokevirtual 43, 3, 1, 235, []), (.checkcast 64, 3, 0, 2, []), (.invokevirtual 66, 3, 1, 53, [(0, 0), (0, 0), (0, 0), (0, 0)]), (.iinc 2 1, 3, 0, 0, []), (.goto (-35), 3, 0, 101, [])]
def KX3_judgeProgram_139 : List RI := [(.iconst 0, 1, 0, 0, []), (.istore_n 2, 1, 0, 2, [])]
def KX3_judgeProgram_141 : List RI := [(.iload_n 2, 1, 0, 2, []), (.aload_n 0, 1, 0, 0, []), (.getfield 9, 3, 0, 121, []), (.getfield 70, 3, 0, 214, []), (.invokevirtual 30, 3, 0, 234, []), (.if_icmp .ge 27, 3, 0, 179, [])]
def KX3_judgeProgram_155 : List RI := [(.aload_n 0, 1, 0, 0, []), (.aload_n 0, 1, 0, 0, []), (.getfield 9, 3, 0, 121, []), (.getfield 70, 3, 0, 214, []), (.iload_n 2, 1, 0, 2, []), (.invokevirtual 43, 3, 1, 235, []), (.checkcast 73, 3, 0, 9, []), (.invokevirtual 75, 3, 1, 80, [(0, 0), (0, 0), (0, 0), (0, 0)]), (.iinc 2 1, 3, 0, 0, []), (.goto (-35), 3, 0, 141, [])]
def KX3_judgeProgram_179 : List RI := [(.aload_n 0, 1, 0, 0, []), (.getfield 9, 3, 0, 121, []), (.getfield 79, 3, 0, 217, []), (.ifCond .ne 14, 3, 0, 200, [])]
def KX3_judgeProgram_189 : List RI := [(.aload_n 0, 1, 0, 0, []), (.getfield 20, 3, 0, 120, []), (.aload_n 0, 1, 0, 0, []), (.getfield 9, 3, 0, 121, []), (.invokevirtual 82, 3, 1, 20, [(0, 0), (0, 0), (0, 0)])]
def KX3_judgeProgram_200 : List RI := [(.aload_n 0, 1, 0, 0, []), (.getfield 9, 3, 0, 121, []), (.getfield 79, 3, 0, 217, []), (.ifCond .ne 14, 3, 0, 221, [])]
def KX3_judgeProgram_210 : List RI := [(.aload_n 0, 1, 0, 0, []), (.getfield 20, 3, 0, 120, []), (.aload_n 0, 1, 0, 0, []), (.getfield 9, 3, 0, 121, []), (.invokevirtual 85, 3, 1, 28, [(0, 0), (0, 0), (0, 0)])]
def KX3_judgeProgram_221 : List RI := [(.return_, 1, 0, 0, [])]
def KX3_judgeProgram : RB := [(0, KX3_judgeProgram_0), (7, KX3_judgeProgram_7), (21, KX3_judgeProgram_21), (32, KX3_judgeProgram_32), (34, KX3_judgeProgram_34), (48, KX3_judgeProgram_48), (68, KX3_judgeProgram_68), (93, KX3_judgeProgram_93), (99, KX3_judgeProgram_99), (101, KX3_judgeProgram_101), (115, KX3_judgeProgram_115), (139, KX3_judgeProgram_139), (141, KX3_judgeProgram_141), (155, KX3_judgeProgram_155), (179, KX3_judgeProgram_179), (189, KX3_judgeProgram_189), (200, KX3_judgeProgram_200), (210, KX3_judgeProgram_210), (221, KX3_judgeProgram_221)]
def rX3_judgeProgram : CmC := (yX3_judgeProgram, cX3_judgeProgram, 3, none, 1, 4, false)
theorem hX3_judgeProgram : mtC[49]? = some rX3_judgeProgram := rfl
set_option maxRecDepth 100000 in
theorem okX3_judgeProgram : cokMC rX3_judgeProgram KX3_judgeProgram = true := by sorry
def KX3_judgeMethod_0 : List RI := [(.aload_n 0, 1, 0, 0, []), (.getfield 9, 3, 0, 121, []), (.getfield 24, 3, 0, 211, []), (.iload_n 1, 1, 0, 1, []), (.invokevirtual 43, 3, 1, 235, []), (.checkcast 88, 3, 0, 6, []), (.astore_n 2, 1, 0, 2, []), (.iconst 0, 1, 0, 0, []), (.istore_n 3, 1, 0, 3, [])]
def KX3_judgeMethod_17 : List RI := [(.iload_n 3, 1, 0, 3, []), (.bipush 11, 2, 0, 0, []), (.if_icmp .gt 73, 3, 0, 93, [])]
def KX3_judgeMethod_23 : List RI := [(.iload_n 3, 1, 0, 3, []), (.iload_n 1, 1, 0, 1, []), (.if_icmp .lt 9, 3, 0, 34, [])]
def KX3_judgeMethod_28 : List RI := [(.iload_n 3, 1, 0, 3, []), (.bipush 10, 2, 0, 0, []), (.if_icmp .lt 14, 3, 0, 45, [])]
def KX3_judgeMethod_34 : List RI := [(.aload_n 0, 1, 0, 0, []), (.getfield 9, 3, 0, 121, []), (.iload_n 3, 1, 0, 3, []), (.invokevirtual 90, 3, 1, 119, [(0, 0), (0, 0), (0, 0), (0, 0), (0, 0), (0, 0), (0, 0)]), (.goto 4, 3, 0, 46, [])]
def KX3_judgeMethod_45 : List RI := [(.aconst_null, 1, 0, 0, [])]
def KX3_judgeMethod_46 : List RI := [(.astore 4, 2, 0, 0, []), (.aload 4, 2, 0, 0, []), (.ifnull 37, 3, 0, 87, [])]
def KX3_judgeMethod_53 : List RI := [(.aload 4, 2, 0, 0, []), (.getfield 94, 3, 0, 181, []), (.aload_n 2, 1, 0, 2, []), (.getfield 94, 3, 0, 181, []), (.lcmp, 1, 0, 0, []), (.ifCond .ne 24, 3, 0, 87, [])]
def KX3_judgeMethod_66 : List RI := [(.aload 4, 2, 0, 0, []), (.aload_n 2, 1, 0, 2, []), (.invokevirtual 98, 3, 1, 113, [(0, 0), (0, 0), (0, 0), (0, 0), (0, 0), (0, 0)]), (.ifCond .eq 15, 3, 0, 87, [])]
def KX3_judgeMethod_75 : List RI := [(.aload_n 0, 1, 0, 0, []), (.getfield 9, 3, 0, 121, []), (.iconst 1, 1, 0, 0, []), (.aload_n 2, 1, 0, 2, []), (.getfield 102, 3, 0, 180, []), (.invokevirtual 57, 3, 2, 118, [(0, 0), (0, 0), (0, 0), (0, 0), (0, 0), (0, 0), (0, 0)])]
def KX3_judgeMethod_87 : List RI := [(.iinc 3 1, 3, 0, 0, []), (.goto (-73), 3, 0, 17, [])]
def KX3_judgeMethod_93 : List RI := [(.return_, 1, 0, 0, [])]
def KX3_judgeMethod : RB := [(0, KX3_judgeMethod_0), (17, KX3_judgeMethod_17), (23, KX3_judgeMethod_23), (28, KX3_judgeMethod_28), (34, KX3_judgeMethod_34), (45, KX3_judgeMethod_45), (46, KX3_judgeMethod_46), (53, KX3_judgeMethod_53), (66, KX3_judgeMethod_66), (75, KX3_judgeMethod_75), (87, KX3_judgeMethod_87), (93, KX3_judgeMethod_93)]
def rX3_judgeMethod : CmC := (yX3_judgeMethod, cX3_judgeMethod, 5, none, 1, 4, false)
theorem hX3_judgeMethod : mtC[50]? = some rX3_judgeMethod := rfl
set_option maxRecDepth 100000 in
theorem okX3_judgeMethod : cokMC rX3_judgeMethod KX3_judgeMethod = true := by sorry
def KX3_variableOf_0 : List RI := [(.aload_n 1, 1, 0, 1, []), (.getfield 103, 3, 0, 67, []), (.ifCond .lt 40, 3, 0, 44, [])]
def KX3_variableOf_7 : List RI := [(.aload_n 1, 1, 0, 1, []), (.getfield 103, 3, 0, 67, []), (.aload_n 0, 1, 0, 0, []), (.getfield 9, 3, 0, 121, []), (.getfield 40, 3, 0, 212, []), (.invokevirtual 30, 3, 0, 234, []), (.if_icmp .ge 23, 3, 0, 44, [])]
def KX3_variableOf_24 : List RI := [(.aload_n 0, 1, 0, 0, []), (.getfield 9, 3, 0, 121, []), (.getfield 40, 3, 0, 212, []), (.aload_n 1, 1, 0, 1, []), (.getfield 103, 3, 0, 67, []), (.invokevirtual 43, 3, 1, 235, []), (.checkcast 47, 3, 0, 11, []), (.goto 4, 3, 0, 45, [])]
def KX3_variableOf_44 : List RI := [(.aconst_null, 1, 0, 0, [])]
def KX3_variableOf_45 : List RI := [(.areturn, 1, 0, 0, [])]
def KX3_variableOf : RB := [(0, KX3_variableOf_0), (7, KX3_variableOf_7), (24, KX3_variableOf_24), (44, KX3_variableOf_44), (45, KX3_variableOf_45)]
def rX3_variableOf : CmC := (yX3_variableOf, cX3_variableOf, 2, (some (.object "PlainJava$Variable")), 1, 4, false)
theorem hX3_variableOf : mtC[51]? = some rX3_variableOf := rfl
set_option maxRecDepth 100000 in
theorem okX3_variableOf : cokMC rX3_variableOf KX3_variableOf = true := by sorry
def KX3_isFaulty_0 : List RI := [(.aload_n 0, 1, 0, 0, []), (.ifnull 11, 3, 0, 12, [])]
def KX3_isFaulty_4 : List RI := [(.aload_n 0, 1, 0, 0, []), (.getfield 106, 3, 0, 68, []), (.iconst (-1), 1, 0, 0, []), (.if_icmp .ne 7, 3, 0, 16, [])]
def KX3_isFaulty_12 : List RI := [(.iconst 1, 1, 0, 0, []), (.goto 4, 3, 0, 17, [])]
def KX3_isFaulty_16 : List RI := [(.iconst 0, 1, 0, 0, [])]
def KX3_isFaulty_17 : List RI := [(.ireturn, 1, 2, 0, [])]
def KX3_isFaulty : RB := [(0, KX3_isFaulty_0), (4, KX3_isFaulty_4), (12, KX3_isFaulty_12), (16, KX3_isFaulty_16), (17, KX3_isFaulty_17)]
def rX3_isFaulty : CmC := (yX3_isFaulty, cX3_isFaulty, 1, (some .boolean), 1, 4, true)
theorem hX3_isFaulty : mtC[52]? = some rX3_isFaulty := rfl
set_option maxRecDepth 100000 in
theorem okX3_isFaulty : cokMC rX3_isFaulty KX3_isFaulty = true := by sorry
def KX3_judgeExp_0 : List RI := [(.aload_n 1, 1, 0, 1, []), (.getfield 109, 3, 0, 60, []), (.tableswitch 152 0 15 #[80, 152, 88, 96, 96, 96, 104, 112, 120, 128, 136, 152, 152, 152, 152, 144], 80, 0, 156, [(0, 84), (1, 156), (2, 92), (3, 100), (4, 100), (5, 100), (6, 108), (7, 116), (8, 124), (9, 132), (10, 140), (11, 156), (12, 156), (13, 156), (14, 156), (15, 148)])]
def KX3_judgeExp_84 : List RI := [(.aload_n 0, 1, 0, 0, []), (.aload_n 1, 1, 0, 1, []), (.invokevirtual 112, 3, 1, 54, [(0, 0), (0, 0), (0, 0), (0, 0)]), (.goto 67, 3, 0, 156, [])]
def KX3_judgeExp_92 : List RI := [(.aload_n 0, 1, 0, 0, []), (.aload_n 1, 1, 0, 1, []), (.invokevirtual 115, 3, 1, 55, [(0, 0), (0, 0), (0, 0), (0, 0)]), (.goto 59, 3, 0, 156, [])]
def KX3_judgeExp_100 : List RI := [(.aload_n 0, 1, 0, 0, []), (.aload_n 1, 1, 0, 1, []), (.invokevirtual 118, 3, 1, 56, [(0, 0), (0, 0), (0, 0), (0, 0)]), (.goto 51, 3, 0, 156, [])]
def KX3_judgeExp_108 : List RI := [(.aload_n 0, 1, 0, 0, []), (.aload_n 1, 1, 0, 1, []), (.invokevirtual 121, 3, 1, 60, [(0, 0), (0, 0), (0, 0), (0, 0)]), (.goto 43, 3, 0, 156, [])]
def KX3_judgeExp_116 : List RI := [(.aload_n 0, 1, 0, 0, []), (.aload_n 1, 1, 0, 1, []), (.invokevirtual 124, 3, 1, 69, [(0, 0), (0, 0), (0, 0), (0, 0)]), (.goto 35, 3, 0, 156, [])]
def KX3_judgeExp_124 : List RI := [(.aload_n 0, 1, 0, 0, []), (.aload_n 1, 1, 0, 1, []), (.invokevirtual 127, 3, 1, 71, [(0, 0), (0, 0), (0, 0), (0, 0)]), (.goto 27, 3, 0, 156, [])]
def KX3_judgeExp_132 : List RI := [(.aload_n 0, 1, 0, 0, []), (.aload_n 1, 1, 0, 1, []), (.invokevirtual 130, 3, 1, 61, [(0, 0), (0, 0), (0, 0), (0, 0)]), (.goto 19, 3, 0, 156, [])]
def KX3_judgeExp_140 : List RI := [(.aload_n 0, 1, 0, 0, []), (.aload_n 1, 1, 0, 1, []), (.invokevirtual 133, 3, 1, 76, [(0, 0), (0, 0), (0, 0), (0, 0)]), (.goto 11, 3, 0, 156, [])]
def KX3_judgeExp_148 : List RI := [(.aload_n 0, 1, 0, 0, []), (.aload_n 1, 1, 0, 1, []), (.invokevirtual 136, 3, 1, 79, [(0, 0), (0, 0), (0, 0), (0, 0)]), (.goto 3, 3, 0, 156, [])]
def KX3_judgeExp_156 : List RI := [(.return_, 1, 0, 0, [])]
def KX3_judgeExp : RB := [(0, KX3_judgeExp_0), (84, KX3_judgeExp_84), (92, KX3_judgeExp_92), (100, KX3_judgeExp_100), (108, KX3_judgeExp_108), (116, KX3_judgeExp_116), (124, KX3_judgeExp_124), (132, KX3_judgeExp_132), (140, KX3_judgeExp_140), (148, KX3_judgeExp_148), (156, KX3_judgeExp_156)]
def rX3_judgeExp : CmC := (yX3_judgeExp, cX3_judgeExp, 2, none, 1, 4, false)
theorem hX3_judgeExp : mtC[53]? = some rX3_judgeExp := rfl
set_option maxRecDepth 100000 in
theorem swX3_judgeExp_4 : decode cX3_judgeExp 4 = .ok (.tableswitch 152 0 15 #[80, 152, 88, 96, 96, 96, 104, 112, 120, 128, 136, 152, 152, 152, 152, 144], 80) := by sorry
set_option maxRecDepth 100000 in
theorem okX3_judgeExp : cokMC rX3_judgeExp KX3_judgeExp = true := by sorry
def KX3_judgeNumber_0 : List RI := [(.aload_n 1, 1, 0, 1, []), (.getfield 139, 3, 0, 61, []), (.bipush 82, 2, 0, 0, []), (.if_icmp .ne 7, 3, 0, 13, [])]
def KX3_judgeNumber_9 : List RI := [(.iconst 1, 1, 0, 0, []), (.goto 4, 3, 0, 14, [])]
def KX3_judgeNumber_13 : List RI := [(.iconst 0, 1, 0, 0, [])]
def KX3_judgeNumber_14 : List RI := [(.istore_n 2, 1, 0, 2, []), (.iload_n 2, 1, 0, 2, []), (.ifCond .eq 9, 3, 0, 25, [])]
def KX3_judgeNumber_19 : List RI := [(.ldc2_w 142, 3, 9223372036854775807, 0, []), (.goto 6, 3, 0, 28, [])]
def KX3_judgeNumber_25 : List RI := [(.ldc2_w 144, 3, 2147483647, 0, [])]
def KX3_judgeNumber_28 : List RI := [(.lstore_n 3, 1, 0, 3, []), (.aload_n 1, 1, 0, 1, []), (.getfield 146, 3, 0, 71, []), (.lload_n 3, 1, 0, 3, []), (.lconst 1, 1, 0, 0, []), (.ladd, 1, 0, 0, []), (.lcmp, 1, 0, 0, []), (.ifCond .ne 15, 3, 0, 52, [])]
def KX3_judgeNumber_40 : List RI := [(.aload_n 1, 1, 0, 1, []), (.getfield 103, 3, 0, 67, []), (.iconst 1, 1, 0, 0, []), (.if_icmp .ne 7, 3, 0, 52, [])]
def KX3_judgeNumber_48 : List RI := [(.iconst 1, 1, 0, 0, []), (.goto 4, 3, 0, 53, [])]
def KX3_judgeNumber_52 : List RI := [(.iconst 0, 1, 0, 0, [])]
def KX3_judgeNumber_53 : List RI := [(.istore 5, 2, 0, 0, []), (.aload_n 1, 1, 0, 1, []), (.getfield 146, 3, 0, 71, []), (.lconst 0, 1, 0, 0, []), (.lcmp, 1, 0, 0, []), (.ifCond .lt 12, 3, 0, 73, [])]
def KX3_judgeNumber_64 : List RI := [(.aload_n 1, 1, 0, 1, []), (.getfield 146, 3, 0, 71, []), (.lload_n 3, 1, 0, 3, []), (.lcmp, 1, 0, 0, []), (.ifCond .le 21, 3, 0, 91, [])]
def KX3_judgeNumber_73 : List RI := [(.iload 5, 2, 0, 0, []), (.ifCond .ne 16, 3, 0, 91, [])]
def KX3_judgeNumber_78 : List RI := [(.aload_n 0, 1, 0, 0, []), (.getfield 9, 3, 0, 121, []), (.iconst 4, 1, 0, 0, []), (.aload_n 1, 1, 0, 1, []), (.getfield 149, 3, 0, 62, []), (.invokevirtual 57, 3, 2, 118, [(0, 0), (0, 0), (0, 0), (0, 0), (0, 0), (0, 0), (0, 0)]), (.return_, 1, 0, 0, [])]
def KX3_judgeNumber_91 : List RI := [(.aload_n 1, 1, 0, 1, []), (.iload_n 2, 1, 0, 2, []), (.ifCond .eq 7, 3, 0, 100, [])]
def KX3_judgeNumber_96 : List RI := [(.iconst 4, 1, 0, 0, []), (.goto 4, 3, 0, 101, [])]
def KX3_judgeNumber_100 : List RI := [(.iconst 3, 1, 0, 0, [])]
def KX3_judgeNumber_101 : List RI := [(.putfield 106, 3, 0, 68, []), (.aload_n 1, 1, 0, 1, []), (.aload_n 1, 1, 0, 1, []), (.getfield 106, 3, 0, 68, []), (.aload_n 1, 1, 0, 1, []), (.getfield 146, 3, 0, 71, []), (.invokestatic 152, 3, 2, 228, []), (.putfield 146, 3, 0, 71, []), (.return_, 1, 0, 0, [])]
def KX3_judgeNumber : RB := [(0, KX3_judgeNumber_0), (9, KX3_judgeNumber_9), (13, KX3_judgeNumber_13), (14, KX3_judgeNumber_14), (19, KX3_judgeNumber_19), (25, KX3_judgeNumber_25), (28, KX3_judgeNumber_28), (40, KX3_judgeNumber_40), (48, KX3_judgeNumber_48), (52, KX3_judgeNumber_52), (53, KX3_judgeNumber_53), (64, KX3_judgeNumber_64), (73, KX3_judgeNumber_73), (78, KX3_judgeNumber_78), (91, KX3_judgeNumber_91), (96, KX3_judgeNumber_96), (100, KX3_judgeNumber_100), (101, KX3_judgeNumber_101)]
def rX3_judgeNumber : CmC := (yX3_judgeNumber, cX3_judgeNumber, 6, none, 1, 4, false)
theorem hX3_judgeNumber : mtC[54]? = some rX3_judgeNumber := rfl
set_option maxRecDepth 100000 in
theorem okX3_judgeNumber : cokMC rX3_judgeNumber KX3_judgeNumber = true := by sorry
def KX3_judgeName_0 : List RI := [(.aload_n 0, 1, 0, 0, []), (.aload_n 1, 1, 0, 1, []), (.invokevirtual 156, 3, 1, 51, [(0, 0), (0, 0), (0, 0), (0, 0)]), (.astore_n 2, 1, 0, 2, []), (.aload_n 2, 1, 0, 2, []), (.ifnonnull 16, 3, 0, 23, [])]
def KX3_judgeName_10 : List RI := [(.aload_n 0, 1, 0, 0, []), (.getfield 9, 3, 0, 121, []), (.iconst 3, 1, 0, 0, []), (.aload_n 1, 1, 0, 1, []), (.getfield 149, 3, 0, 62, []), (.invokevirtual 57, 3, 2, 118, [(0, 0), (0, 0), (0, 0), (0, 0), (0, 0), (0, 0), (0, 0)]), (.return_, 1, 0, 0, [])]
def KX3_judgeName_23 : List RI := [(.aload_n 1, 1, 0, 1, []), (.aload_n 2, 1, 0, 2, []), (.getfield 160, 3, 0, 331, []), (.putfield 106, 3, 0, 68, []), (.aload_n 2, 1, 0, 2, []), (.getfield 161, 3, 0, 335, []), (.ifCond .eq 16, 3, 0, 51, [])]
def KX3_judgeName_38 : List RI := [(.aload_n 1, 1, 0, 1, []), (.iconst 1, 1, 0, 0, []), (.putfield 164, 3, 0, 70, []), (.aload_n 1, 1, 0, 1, []), (.aload_n 2, 1, 0, 2, []), (.getfield 165, 3, 0, 336, []), (.putfield 146, 3, 0, 71, [])]
def KX3_judgeName_51 : List RI := [(.return_, 1, 0, 0, [])]
def KX3_judgeName : RB := [(0, KX3_judgeName_0), (10, KX3_judgeName_10), (23, KX3_judgeName_23), (38, KX3_judgeName_38), (51, KX3_judgeName_51)]
def rX3_judgeName : CmC := (yX3_judgeName, cX3_judgeName, 3, none, 1, 4, false)
theorem hX3_judgeName : mtC[55]? = some rX3_judgeName := rfl
set_option maxRecDepth 100000 in
theorem okX3_judgeName : cokMC rX3_judgeName KX3_judgeName = true := by sorry
def KX3_judgeOfOne_0 : List RI := [(.aload_n 1, 1, 0, 1, []), (.getfield 166, 3, 0, 72, []), (.astore_n 2, 1, 0, 2, []), (.aload_n 2, 1, 0, 2, []), (.invokestatic 170, 3, 1, 52, []), (.ifCond .eq 4, 3, 0, 13, [])]
def KX3_judgeOfOne_12 : List RI := [(.return_, 1, 0, 0, [])]
def KX3_judgeOfOne_13 : List RI := [(.aload_n 1, 1, 0, 1, []), (.getfield 109, 3, 0, 60, []), (.iconst 3, 1, 0, 0, []), (.if_icmp .eq 27, 3, 0, 45, [])]
def KX3_judgeOfOne_21 : List RI := [(.aload_n 1, 1, 0, 1, []), (.aload_n 2, 1, 0, 2, []), (.getfield 106, 3, 0, 68, []), (.invokestatic 174, 3, 2, 57, []), (.ifCond .ne 16, 3, 0, 45, [])]
def KX3_judgeOfOne_32 : List RI := [(.aload_n 0, 1, 0, 0, []), (.getfield 9, 3, 0, 121, []), (.iconst 5, 1, 0, 0, []), (.aload_n 2, 1, 0, 2, []), (.getfield 149, 3, 0, 62, []), (.invokevirtual 57, 3, 2, 118, [(0, 0), (0, 0), (0, 0), (0, 0), (0, 0), (0, 0), (0, 0)]), (.return_, 1, 0, 0, [])]
def KX3_judgeOfOne_45 : List RI := [(.aload_n 1, 1, 0, 1, []), (.getfield 109, 3, 0, 60, []), (.iconst 5, 1, 0, 0, []), (.if_icmp .ne 14, 3, 0, 64, [])]
def KX3_judgeOfOne_53 : List RI := [(.aload_n 1, 1, 0, 1, []), (.aload_n 1, 1, 0, 1, []), (.getfield 178, 3, 0, 69, []), (.putfield 106, 3, 0, 68, []), (.goto 38, 3, 0, 99, [])]
def KX3_judgeOfOne_64 : List RI := [(.aload_n 1, 1, 0, 1, []), (.aload_n 1, 1, 0, 1, []), (.getfield 109, 3, 0, 60, []), (.iconst 3, 1, 0, 0, []), (.if_icmp .eq 12, 3, 0, 82, [])]
def KX3_judgeOfOne_73 : List RI := [(.aload_n 1, 1, 0, 1, []), (.getfield 139, 3, 0, 61, []), (.bipush 39, 2, 0, 0, []), (.if_icmp .ne 10, 3, 0, 89, [])]
def KX3_judgeOfOne_82 : List RI := [(.aload_n 2, 1, 0, 2, []), (.getfield 106, 3, 0, 68, []), (.goto 10, 3, 0, 96, [])]
def KX3_judgeOfOne_89 : List RI := [(.aload_n 2, 1, 0, 2, []), (.getfield 106, 3, 0, 68, []), (.invokestatic 181, 3, 1, 58, [])]
def KX3_judgeOfOne_96 : List RI := [(.putfield 106, 3, 0, 68, [])]
def KX3_judgeOfOne_99 : List RI := [(.aload_n 1, 1, 0, 1, []), (.aload_n 2, 1, 0, 2, []), (.getfield 164, 3, 0, 70, []), (.putfield 164, 3, 0, 70, []), (.aload_n 1, 1, 0, 1, []), (.aload_n 1, 1, 0, 1, []), (.getfield 109, 3, 0, 60, []), (.iconst 4, 1, 0, 0, []), (.if_icmp .ne 21, 3, 0, 134, [])]
def KX3_judgeOfOne_116 : List RI := [(.aload_n 1, 1, 0, 1, []), (.getfield 139, 3, 0, 61, []), (.aload_n 1, 1, 0, 1, []), (.getfield 106, 3, 0, 68, []), (.aload_n 2, 1, 0, 2, []), (.getfield 146, 3, 0, 71, []), (.invokestatic 185, 3, 3, 232, []), (.goto 14, 3, 0, 145, [])]
def KX3_judgeOfOne_134 : List RI := [(.aload_n 1, 1, 0, 1, []), (.getfield 106, 3, 0, 68, []), (.aload_n 2, 1, 0, 2, []), (.getfield 146, 3, 0, 71, []), (.invokestatic 152, 3, 2, 228, [])]
def KX3_judgeOfOne_145 : List RI := [(.putfield 146, 3, 0, 71, []), (.return_, 1, 0, 0, [])]
def KX3_judgeOfOne : RB := [(0, KX3_judgeOfOne_0), (12, KX3_judgeOfOne_12), (13, KX3_judgeOfOne_13), (21, KX3_judgeOfOne_21), (32, KX3_judgeOfOne_32), (45, KX3_judgeOfOne_45), (53, KX3_judgeOfOne_53), (64, KX3_judgeOfOne_64), (73, KX3_judgeOfOne_73), (82, KX3_judgeOfOne_82), (89, KX3_judgeOfOne_89), (96, KX3_judgeOfOne_96), (99, KX3_judgeOfOne_99), (116, KX3_judgeOfOne_116), (134, KX3_judgeOfOne_134), (145, KX3_judgeOfOne_145)]
def rX3_judgeOfOne : CmC := (yX3_judgeOfOne, cX3_judgeOfOne, 3, none, 1, 4, false)
theorem hX3_judgeOfOne : mtC[56]? = some rX3_judgeOfOne := rfl
set_option maxRecDepth 100000 in
theorem okX3_judgeOfOne : cokMC rX3_judgeOfOne KX3_judgeOfOne = true := by sorry
def KX3_isTakenAlone_0 : List RI := [(.aload_n 0, 1, 0, 0, []), (.getfield 109, 3, 0, 60, []), (.iconst 5, 1, 0, 0, []), (.if_icmp .ne 37, 3, 0, 42, [])]
def KX3_isTakenAlone_8 : List RI := [(.iload_n 1, 1, 0, 1, []), (.invokestatic 189, 3, 1, 223, []), (.ifCond .eq 13, 3, 0, 25, [])]
def KX3_isTakenAlone_15 : List RI := [(.aload_n 0, 1, 0, 0, []), (.getfield 178, 3, 0, 69, []), (.invokestatic 189, 3, 1, 223, []), (.ifCond .ne 14, 3, 0, 36, [])]
def KX3_isTakenAlone_25 : List RI := [(.iload_n 1, 1, 0, 1, []), (.ifCond .ne 14, 3, 0, 40, [])]
def KX3_isTakenAlone_29 : List RI := [(.aload_n 0, 1, 0, 0, []), (.getfield 178, 3, 0, 69, []), (.ifCond .ne 7, 3, 0, 40, [])]
def KX3_isTakenAlone_36 : List RI := [(.iconst 1, 1, 0, 0, []), (.goto 4, 3, 0, 41, [])]
def KX3_isTakenAlone_40 : List RI := [(.iconst 0, 1, 0, 0, [])]
def KX3_isTakenAlone_41 : List RI := [(.ireturn, 1, 2, 0, [])]
def KX3_isTakenAlone_42 : List RI := [(.aload_n 0, 1, 0, 0, []), (.getfield 139, 3, 0, 61, []), (.bipush 39, 2, 0, 0, []), (.if_icmp .ne 15, 3, 0, 63, [])]
def KX3_isTakenAlone_51 : List RI := [(.iload_n 1, 1, 0, 1, []), (.ifCond .ne 7, 3, 0, 59, [])]
def KX3_isTakenAlone_55 : List RI := [(.iconst 1, 1, 0, 0, []), (.goto 11, 3, 0, 67, [])]
def KX3_isTakenAlone_59 : List RI := [(.iconst 0, 1, 0, 0, []), (.goto 7, 3, 0, 67, [])]
def KX3_isTakenAlone_63 : List RI := [(.iload_n 1, 1, 0, 1, []), (.invokestatic 189, 3, 1, 223, [])]
def KX3_isTakenAlone_67 : List RI := [(.ireturn, 1, 2, 0, [])]
def KX3_isTakenAlone : RB := [(0, KX3_isTakenAlone_0), (8, KX3_isTakenAlone_8), (15, KX3_isTakenAlone_15), (25, KX3_isTakenAlone_25), (29, KX3_isTakenAlone_29), (36, KX3_isTakenAlone_36), (40, KX3_isTakenAlone_40), (41, KX3_isTakenAlone_41), (42, KX3_isTakenAlone_42), (51, KX3_isTakenAlone_51), (55, KX3_isTakenAlone_55), (59, KX3_isTakenAlone_59), (63, KX3_isTakenAlone_63), (67, KX3_isTakenAlone_67)]
def rX3_isTakenAlone : CmC := (yX3_isTakenAlone, cX3_isTakenAlone, 2, (some .boolean), 2, 4, true)
theorem hX3_isTakenAlone : mtC[57]? = some rX3_isTakenAlone := rfl
set_option maxRecDepth 100000 in
theorem okX3_isTakenAlone : cokMC rX3_isTakenAlone KX3_isTakenAlone = true := by sorry
def KX3_promoted_0 : List RI := [(.iload_n 0, 1, 0, 0, []), (.iconst 4, 1, 0, 0, []), (.if_icmp .ne 7, 3, 0, 9, [])]
def KX3_promoted_5 : List RI := [(.iconst 4, 1, 0, 0, []), (.goto 4, 3, 0, 10, [])]
def KX3_promoted_9 : List RI := [(.iconst 3, 1, 0, 0, [])]
def KX3_promoted_10 : List RI := [(.ireturn, 1, 1, 0, [])]
def KX3_promoted : RB := [(0, KX3_promoted_0), (5, KX3_promoted_5), (9, KX3_promoted_9), (10, KX3_promoted_10)]
def rX3_promoted : CmC := (yX3_promoted, cX3_promoted, 1, (some .int), 1, 4, true)
theorem hX3_promoted : mtC[58]? = some rX3_promoted := rfl
set_option maxRecDepth 100000 in
theorem okX3_promoted : cokMC rX3_promoted KX3_promoted = true := by sorry
def KX3_mayChange_0 : List RI := [(.aload_n 2, 1, 0, 2, []), (.ifnonnull 17, 3, 0, 18, [])]
def KX3_mayChange_4 : List RI := [(.aload_n 0, 1, 0, 0, []), (.getfield 9, 3, 0, 121, []), (.iconst 3, 1, 0, 0, []), (.aload_n 1, 1, 0, 1, []), (.getfield 193, 3, 0, 66, []), (.invokevirtual 57, 3, 2, 118, [(0, 0), (0, 0), (0, 0), (0, 0), (0, 0), (0, 0), (0, 0)]), (.iconst 0, 1, 0, 0, []), (.ireturn, 1, 2, 0, [])]
def KX3_mayChange_18 : List RI := [(.aload_n 2, 1, 0, 2, []), (.getfield 194, 3, 0, 332, []), (.ifCond .eq 16, 3, 0, 38, [])]
def KX3_mayChange_25 : List RI := [(.aload_n 0, 1, 0, 0, []), (.getfield 9, 3, 0, 121, []), (.bipush 7, 2, 0, 0, []), (.aload_n 1, 1, 0, 1, []), (.getfield 193, 3, 0, 66, []), (.invokevirtual 57, 3, 2, 118, [(0, 0), (0, 0), (0, 0), (0, 0), (0, 0), (0, 0), (0, 0)])]
def KX3_mayChange_38 : List RI := [(.aload_n 2, 1, 0, 2, []), (.getfield 194, 3, 0, 332, []), (.ifCond .ne 7, 3, 0, 49, [])]
def KX3_mayChange_45 : List RI := [(.iconst 1, 1, 0, 0, []), (.goto 4, 3, 0, 50, [])]
def KX3_mayChange_49 : List RI := [(.iconst 0, 1, 0, 0, [])]
def KX3_mayChange_50 : List RI := [(.ireturn, 1, 2, 0, [])]
def KX3_mayChange : RB := [(0, KX3_mayChange_0), (4, KX3_mayChange_4), (18, KX3_mayChange_18), (25, KX3_mayChange_25), (38, KX3_mayChange_38), (45, KX3_mayChange_45), (49, KX3_mayChange_49), (50, KX3_mayChange_50)]
def rX3_mayChange : CmC := (yX3_mayChange, cX3_mayChange, 3, (some .boolean), 2, 4, false)
theorem hX3_mayChange : mtC[59]? = some rX3_mayChange := rfl
set_option maxRecDepth 100000 in
theorem okX3_mayChange : cokMC rX3_mayChange KX3_mayChange = true := by sorry
def KX3_judgeCount_0 : List RI := [(.aload_n 0, 1, 0, 0, []), (.aload_n 1, 1, 0, 1, []), (.invokevirtual 156, 3, 1, 51, [(0, 0), (0, 0), (0, 0), (0, 0)]), (.astore_n 2, 1, 0, 2, []), (.aload_n 0, 1, 0, 0, []), (.aload_n 1, 1, 0, 1, []), (.aload_n 2, 1, 0, 2, []), (.invokevirtual 197, 3, 2, 59, [(0, 0), (0, 0), (0, 0), (0, 0)]), (.istore_n 3, 1, 0, 3, []), (.aload_n 2, 1, 0, 2, []), (.ifnonnull 4, 3, 0, 18, [])]
def KX3_judgeCount_17 : List RI := [(.return_, 1, 0, 0, [])]
def KX3_judgeCount_18 : List RI := [(.aload_n 2, 1, 0, 2, []), (.getfield 160, 3, 0, 331, []), (.invokestatic 189, 3, 1, 223, []), (.ifCond .ne 18, 3, 0, 43, [])]
def KX3_judgeCount_28 : List RI := [(.aload_n 0, 1, 0, 0, []), (.getfield 9, 3, 0, 121, []), (.iconst 5, 1, 0, 0, []), (.aload_n 1, 1, 0, 1, []), (.getfield 149, 3, 0, 62, []), (.invokevirtual 57, 3, 2, 118, [(0, 0), (0, 0), (0, 0), (0, 0), (0, 0), (0, 0), (0, 0)]), (.goto 15, 3, 0, 55, [])]
def KX3_judgeCount_43 : List RI := [(.iload_n 3, 1, 0, 3, []), (.ifCond .eq 11, 3, 0, 55, [])]
def KX3_judgeCount_47 : List RI := [(.aload_n 1, 1, 0, 1, []), (.aload_n 2, 1, 0, 2, []), (.getfield 160, 3, 0, 331, []), (.putfield 106, 3, 0, 68, [])]
def KX3_judgeCount_55 : List RI := [(.return_, 1, 0, 0, [])]
def KX3_judgeCount : RB := [(0, KX3_judgeCount_0), (17, KX3_judgeCount_17), (18, KX3_judgeCount_18), (28, KX3_judgeCount_28), (43, KX3_judgeCount_43), (47, KX3_judgeCount_47), (55, KX3_judgeCount_55)]
def rX3_judgeCount : CmC := (yX3_judgeCount, cX3_judgeCount, 4, none, 1, 4, false)
theorem hX3_judgeCount : mtC[60]? = some rX3_judgeCount := rfl
set_option maxRecDepth 100000 in
theorem okX3_judgeCount : cokMC rX3_judgeCount KX3_judgeCount = true := by sorry
def KX3_judgeAssignment_0 : List RI := [(.aload_n 0, 1, 0, 0, []), (.aload_n 1, 1, 0, 1, []), (.invokevirtual 156, 3, 1, 51, [(0, 0), (0, 0), (0, 0), (0, 0)]), (.astore_n 2, 1, 0, 2, []), (.aload_n 0, 1, 0, 0, []), (.aload_n 1, 1, 0, 1, []), (.aload_n 2, 1, 0, 2, []), (.invokevirtual 197, 3, 2, 59, [(0, 0), (0, 0), (0, 0), (0, 0)]), (.istore_n 3, 1, 0, 3, []), (.aload_n 2, 1, 0, 2, []), (.ifnonnull 4, 3, 0, 18, [])]
def KX3_judgeAssignment_17 : List RI := [(.return_, 1, 0, 0, [])]
def KX3_judgeAssignment_18 : List RI := [(.aload_n 1, 1, 0, 1, []), (.getfield 139, 3, 0, 61, []), (.bipush 8, 2, 0, 0, []), (.if_icmp .ne 49, 3, 0, 73, [])]
def KX3_judgeAssignment_27 : List RI := [(.iload_n 3, 1, 0, 3, []), (.aload_n 1, 1, 0, 1, []), (.getfield 201, 3, 0, 73, []), (.invokestatic 170, 3, 1, 52, []), (.ifCond .ne 32, 3, 0, 67, [])]
def KX3_judgeAssignment_38 : List RI := [(.aload_n 0, 1, 0, 0, []), (.aload_n 1, 1, 0, 1, []), (.getfield 201, 3, 0, 73, []), (.aload_n 2, 1, 0, 2, []), (.getfield 160, 3, 0, 331, []), (.invokestatic 204, 3, 2, 75, []), (.aload_n 1, 1, 0, 1, []), (.getfield 201, 3, 0, 73, []), (.getfield 149, 3, 0, 62, []), (.invokevirtual 207, 3, 2, 62, [(0, 0), (0, 0), (0, 0), (0, 0)]), (.ifCond .eq 7, 3, 0, 67, [])]
def KX3_judgeAssignment_63 : List RI := [(.iconst 1, 1, 0, 0, []), (.goto 4, 3, 0, 68, [])]
def KX3_judgeAssignment_67 : List RI := [(.iconst 0, 1, 0, 0, [])]
def KX3_judgeAssignment_68 : List RI := [(.iand, 1, 0, 0, []), (.istore_n 3, 1, 0, 3, []), (.goto 19, 3, 0, 89, [])]
def KX3_judgeAssignment_73 : List RI := [(.iload_n 3, 1, 0, 3, []), (.aload_n 0, 1, 0, 0, []), (.aload_n 1, 1, 0, 1, []), (.aload_n 2, 1, 0, 2, []), (.getfield 160, 3, 0, 331, []), (.aload_n 1, 1, 0, 1, []), (.getfield 201, 3, 0, 73, []), (.invokevirtual 211, 3, 3, 63, [(0, 0), (0, 0), (0, 0), (0, 0)]), (.iand, 1, 0, 0, []), (.istore_n 3, 1, 0, 3, [])]
def KX3_judgeAssignment_89 : List RI := [(.iload_n 3, 1, 0, 3, []), (.ifCond .eq 33, 3, 0, 123, [])]
def KX3_judgeAssignment_93 : List RI := [(.aload_n 1, 1, 0, 1, []), (.aload_n 2, 1, 0, 2, []), (.getfield 160, 3, 0, 331, []), (.putfield 106, 3, 0, 68, []), (.aload_n 1, 1, 0, 1, []), (.aload_n 1, 1, 0, 1, []), (.getfield 139, 3, 0, 61, []), (.aload_n 2, 1, 0, 2, []), (.getfield 160, 3, 0, 331, []), (.aload_n 1, 1, 0, 1, []), (.getfield 201, 3, 0, 73, []), (.getfield 106, 3, 0, 68, []), (.invokestatic 215, 3, 3, 68, []), (.putfield 178, 3, 0, 69, [])]
def KX3_judgeAssignment_123 : List RI := [(.return_, 1, 0, 0, [])]
def KX3_judgeAssignment : RB := [(0, KX3_judgeAssignment_0), (17, KX3_judgeAssignment_17), (18, KX3_judgeAssignment_18), (27, KX3_judgeAssignment_27), (38, KX3_judgeAssignment_38), (63, KX3_judgeAssignment_63), (67, KX3_judgeAssignment_67), (68, KX3_judgeAssignment_68), (73, KX3_judgeAssignment_73), (89, KX3_judgeAssignment_89), (93, KX3_judgeAssignment_93), (123, KX3_judgeAssignment_123)]
def rX3_judgeAssignment : CmC := (yX3_judgeAssignment, cX3_judgeAssignment, 4, none, 1, 4, false)
theorem hX3_judgeAssignment : mtC[61]? = some rX3_judgeAssignment := rfl
set_option maxRecDepth 100000 in
theorem okX3_judgeAssignment : cokMC rX3_judgeAssignment KX3_judgeAssignment = true := by sorry
def KX3_isWanted_0 : List RI := [(.iload_n 1, 1, 0, 1, []), (.ifCond .ne 12, 3, 0, 13, [])]
def KX3_isWanted_4 : List RI := [(.aload_n 0, 1, 0, 0, []), (.getfield 9, 3, 0, 121, []), (.iconst 5, 1, 0, 0, []), (.iload_n 2, 1, 0, 2, []), (.invokevirtual 57, 3, 2, 118, [(0, 0), (0, 0), (0, 0), (0, 0), (0, 0), (0, 0), (0, 0)])]
def KX3_isWanted_13 : List RI := [(.iload_n 1, 1, 0, 1, []), (.ireturn, 1, 2, 0, [])]
def KX3_isWanted : RB := [(0, KX3_isWanted_0), (4, KX3_isWanted_4), (13, KX3_isWanted_13)]
def rX3_isWanted : CmC := (yX3_isWanted, cX3_isWanted, 3, (some .boolean), 2, 4, false)
theorem hX3_isWanted : mtC[62]? = some rX3_isWanted := rfl
set_option maxRecDepth 100000 in
theorem okX3_isWanted : cokMC rX3_isWanted KX3_isWanted = true := by sorry
def KX3_areTaken_0 : List RI := [(.aload_n 0, 1, 0, 0, []), (.aload_n 1, 1, 0, 1, []), (.getfield 139, 3, 0, 61, []), (.iload_n 2, 1, 0, 2, []), (.invokestatic 219, 3, 2, 66, []), (.aload_n 1, 1, 0, 1, []), (.getfield 149, 3, 0, 62, []), (.invokevirtual 207, 3, 2, 62, [(0, 0), (0, 0), (0, 0), (0, 0)]), (.ifCond .eq 37, 3, 0, 53, [])]
def KX3_areTaken_19 : List RI := [(.aload_n 3, 1, 0, 3, []), (.invokestatic 170, 3, 1, 52, []), (.ifCond .ne 30, 3, 0, 53, [])]
def KX3_areTaken_26 : List RI := [(.aload_n 0, 1, 0, 0, []), (.aload_n 1, 1, 0, 1, []), (.getfield 139, 3, 0, 61, []), (.iload_n 2, 1, 0, 2, []), (.aload_n 3, 1, 0, 3, []), (.getfield 106, 3, 0, 68, []), (.invokestatic 223, 3, 3, 67, []), (.aload_n 3, 1, 0, 3, []), (.getfield 149, 3, 0, 62, []), (.invokevirtual 207, 3, 2, 62, [(0, 0), (0, 0), (0, 0), (0, 0)]), (.ifCond .eq 7, 3, 0, 53, [])]
def KX3_areTaken_49 : List RI := [(.iconst 1, 1, 0, 0, []), (.goto 4, 3, 0, 54, [])]
def KX3_areTaken_53 : List RI := [(.iconst 0, 1, 0, 0, [])]
def KX3_areTaken_54 : List RI := [(.ireturn, 1, 2, 0, [])]
def KX3_areTaken : RB := [(0, KX3_areTaken_0), (19, KX3_areTaken_19), (26, KX3_areTaken_26), (49, KX3_areTaken_49), (53, KX3_areTaken_53), (54, KX3_areTaken_54)]
def rX3_areTaken : CmC := (yX3_areTaken, cX3_areTaken, 4, (some .boolean), 3, 4, false)
theorem hX3_areTaken : mtC[63]? = some rX3_areTaken := rfl
set_option maxRecDepth 100000 in
theorem okX3_areTaken : cokMC rX3_areTaken KX3_areTaken = true := by sorry
def KX3_isLogical_0 : List RI := [(.iload_n 0, 1, 0, 0, []), (.bipush 21, 2, 0, 0, []), (.if_icmp .eq 9, 3, 0, 12, [])]
def KX3_isLogical_6 : List RI := [(.iload_n 0, 1, 0, 0, []), (.bipush 20, 2, 0, 0, []), (.if_icmp .ne 7, 3, 0, 16, [])]
def KX3_isLogical_12 : List RI := [(.iconst 1, 1, 0, 0, []), (.goto 4, 3, 0, 17, [])]
def KX3_isLogical_16 : List RI := [(.iconst 0, 1, 0, 0, [])]
def KX3_isLogical_17 : List RI := [(.ireturn, 1, 2, 0, [])]
def KX3_isLogical : RB := [(0, KX3_isLogical_0), (6, KX3_isLogical_6), (12, KX3_isLogical_12), (16, KX3_isLogical_16), (17, KX3_isLogical_17)]
def rX3_isLogical : CmC := (yX3_isLogical, cX3_isLogical, 1, (some .boolean), 1, 4, true)
theorem hX3_isLogical : mtC[64]? = some rX3_isLogical := rfl
set_option maxRecDepth 100000 in
theorem okX3_isLogical : cokMC rX3_isLogical KX3_isLogical = true := by sorry
def KX3_takesBoth_0 : List RI := [(.iload_n 0, 1, 0, 0, []), (.bipush 22, 2, 0, 0, []), (.if_icmp .lt 13, 3, 0, 16, [])]
def KX3_takesBoth_6 : List RI := [(.iload_n 0, 1, 0, 0, []), (.bipush 26, 2, 0, 0, []), (.if_icmp .gt 7, 3, 0, 16, [])]
def KX3_takesBoth_12 : List RI := [(.iconst 1, 1, 0, 0, []), (.goto 4, 3, 0, 17, [])]
def KX3_takesBoth_16 : List RI := [(.iconst 0, 1, 0, 0, [])]
def KX3_takesBoth_17 : List RI := [(.ireturn, 1, 2, 0, [])]
def KX3_takesBoth : RB := [(0, KX3_takesBoth_0), (6, KX3_takesBoth_6), (12, KX3_takesBoth_12), (16, KX3_takesBoth_16), (17, KX3_takesBoth_17)]
def rX3_takesBoth : CmC := (yX3_takesBoth, cX3_takesBoth, 1, (some .boolean), 1, 4, true)
theorem hX3_takesBoth : mtC[65]? = some rX3_takesBoth := rfl
set_option maxRecDepth 100000 in
theorem okX3_takesBoth : cokMC rX3_takesBoth KX3_takesBoth = true := by sorry
def KX3_isLeftTaken_0 : List RI := [(.iload_n 0, 1, 0, 0, []), (.invokestatic 227, 3, 1, 64, []), (.ifCond .eq 13, 3, 0, 17, [])]
def KX3_isLeftTaken_7 : List RI := [(.iload_n 1, 1, 0, 1, []), (.ifCond .ne 7, 3, 0, 15, [])]
def KX3_isLeftTaken_11 : List RI := [(.iconst 1, 1, 0, 0, []), (.goto 4, 3, 0, 16, [])]
def KX3_isLeftTaken_15 : List RI := [(.iconst 0, 1, 0, 0, [])]
def KX3_isLeftTaken_16 : List RI := [(.ireturn, 1, 2, 0, [])]
def KX3_isLeftTaken_17 : List RI := [(.iload_n 1, 1, 0, 1, []), (.invokestatic 189, 3, 1, 223, []), (.ifCond .ne 14, 3, 0, 35, [])]
def KX3_isLeftTaken_24 : List RI := [(.iload_n 0, 1, 0, 0, []), (.invokestatic 230, 3, 1, 65, []), (.ifCond .eq 11, 3, 0, 39, [])]
def KX3_isLeftTaken_31 : List RI := [(.iload_n 1, 1, 0, 1, []), (.ifCond .ne 7, 3, 0, 39, [])]
def KX3_isLeftTaken_35 : List RI := [(.iconst 1, 1, 0, 0, []), (.goto 4, 3, 0, 40, [])]
def KX3_isLeftTaken_39 : List RI := [(.iconst 0, 1, 0, 0, [])]
def KX3_isLeftTaken_40 : List RI := [(.ireturn, 1, 2, 0, [])]
def KX3_isLeftTaken : RB := [(0, KX3_isLeftTaken_0), (7, KX3_isLeftTaken_7), (11, KX3_isLeftTaken_11), (15, KX3_isLeftTaken_15), (16, KX3_isLeftTaken_16), (17, KX3_isLeftTaken_17), (24, KX3_isLeftTaken_24), (31, KX3_isLeftTaken_31), (35, KX3_isLeftTaken_35), (39, KX3_isLeftTaken_39), (40, KX3_isLeftTaken_40)]
def rX3_isLeftTaken : CmC := (yX3_isLeftTaken, cX3_isLeftTaken, 2, (some .boolean), 2, 4, true)
theorem hX3_isLeftTaken : mtC[66]? = some rX3_isLeftTaken := rfl
set_option maxRecDepth 100000 in
theorem okX3_isLeftTaken : cokMC rX3_isLeftTaken KX3_isLeftTaken = true := by sorry
def KX3_isRightTaken_0 : List RI := [(.iload_n 1, 1, 0, 1, []), (.ifCond .ne 15, 3, 0, 16, [])]
def KX3_isRightTaken_4 : List RI := [(.iload_n 2, 1, 0, 2, []), (.ifCond .ne 7, 3, 0, 12, [])]
def KX3_isRightTaken_8 : List RI := [(.iconst 1, 1, 0, 0, []), (.goto 11, 3, 0, 20, [])]
def KX3_isRightTaken_12 : List RI := [(.iconst 0, 1, 0, 0, []), (.goto 7, 3, 0, 20, [])]
def KX3_isRightTaken_16 : List RI := [(.iload_n 2, 1, 0, 2, []), (.invokestatic 189, 3, 1, 223, [])]
def KX3_isRightTaken_20 : List RI := [(.ireturn, 1, 2, 0, [])]
def KX3_isRightTaken : RB := [(0, KX3_isRightTaken_0), (4, KX3_isRightTaken_4), (8, KX3_isRightTaken_8), (12, KX3_isRightTaken_12), (16, KX3_isRightTaken_16), (20, KX3_isRightTaken_20)]
def rX3_isRightTaken : CmC := (yX3_isRightTaken, cX3_isRightTaken, 3, (some .boolean), 3, 4, true)
theorem hX3_isRightTaken : mtC[67]? = some rX3_isRightTaken := rfl
set_option maxRecDepth 100000 in
theorem okX3_isRightTaken : cokMC rX3_isRightTaken KX3_isRightTaken = true := by sorry
def KX3_workType_0 : List RI := [(.iload_n 1, 1, 0, 1, []), (.ifCond .ne 5, 3, 0, 6, [])]
def KX3_workType_4 : List RI := [(.iconst 0, 1, 0, 0, []), (.ireturn, 1, 1, 0, [])]
def KX3_workType_6 : List RI := [(.iload_n 0, 1, 0, 0, []), (.bipush 31, 2, 0, 0, []), (.if_icmp .lt 14, 3, 0, 23, [])]
def KX3_workType_12 : List RI := [(.iload_n 0, 1, 0, 0, []), (.bipush 33, 2, 0, 0, []), (.if_icmp .gt 8, 3, 0, 23, [])]
def KX3_workType_18 : List RI := [(.iload_n 1, 1, 0, 1, []), (.invokestatic 181, 3, 1, 58, []), (.ireturn, 1, 1, 0, [])]
def KX3_workType_23 : List RI := [(.iload_n 1, 1, 0, 1, []), (.iconst 4, 1, 0, 0, []), (.if_icmp .eq 8, 3, 0, 33, [])]
def KX3_workType_28 : List RI := [(.iload_n 2, 1, 0, 2, []), (.iconst 4, 1, 0, 0, []), (.if_icmp .ne 7, 3, 0, 37, [])]
def KX3_workType_33 : List RI := [(.iconst 4, 1, 0, 0, []), (.goto 4, 3, 0, 38, [])]
def KX3_workType_37 : List RI := [(.iconst 3, 1, 0, 0, [])]
def KX3_workType_38 : List RI := [(.ireturn, 1, 1, 0, [])]
def KX3_workType : RB := [(0, KX3_workType_0), (4, KX3_workType_4), (6, KX3_workType_6), (12, KX3_workType_12), (18, KX3_workType_18), (23, KX3_workType_23), (28, KX3_workType_28), (33, KX3_workType_33), (37, KX3_workType_37), (38, KX3_workType_38)]
def rX3_workType : CmC := (yX3_workType, cX3_workType, 3, (some .int), 3, 4, true)
theorem hX3_workType : mtC[68]? = some rX3_workType := rfl
set_option maxRecDepth 100000 in
theorem okX3_workType : cokMC rX3_workType KX3_workType = true := by sorry
def KX3_judgeChain_0 : List RI := [(.aload_n 1, 1, 0, 1, []), (.getfield 166, 3, 0, 72, []), (.astore_n 2, 1, 0, 2, []), (.aload_n 1, 1, 0, 1, []), (.getfield 201, 3, 0, 73, []), (.astore_n 3, 1, 0, 3, []), (.aload_n 2, 1, 0, 2, []), (.invokestatic 170, 3, 1, 52, []), (.ifCond .ne 16, 3, 0, 30, [])]
def KX3_judgeChain_17 : List RI := [(.aload_n 0, 1, 0, 0, []), (.aload_n 1, 1, 0, 1, []), (.aload_n 2, 1, 0, 2, []), (.getfield 106, 3, 0, 68, []), (.aload_n 3, 1, 0, 3, []), (.invokevirtual 211, 3, 3, 63, [(0, 0), (0, 0), (0, 0), (0, 0)]), (.ifCond .ne 4, 3, 0, 31, [])]
def KX3_judgeChain_30 : List RI := [(.return_, 1, 0, 0, [])]
def KX3_judgeChain_31 : List RI := [(.aload_n 1, 1, 0, 1, []), (.aload_n 1, 1, 0, 1, []), (.getfield 139, 3, 0, 61, []), (.aload_n 2, 1, 0, 2, []), (.getfield 106, 3, 0, 68, []), (.aload_n 3, 1, 0, 3, []), (.getfield 106, 3, 0, 68, []), (.invokestatic 215, 3, 3, 68, []), (.putfield 178, 3, 0, 69, []), (.aload_n 1, 1, 0, 1, []), (.aload_n 1, 1, 0, 1, []), (.getfield 139, 3, 0, 61, []), (.bipush 25, 2, 0, 0, []), (.if_icmp .lt 16, 3, 0, 73, [])]
def KX3_judgeChain_60 : List RI := [(.aload_n 1, 1, 0, 1, []), (.getfield 139, 3, 0, 61, []), (.bipush 30, 2, 0, 0, []), (.if_icmp .gt 7, 3, 0, 73, [])]
def KX3_judgeChain_69 : List RI := [(.iconst 0, 1, 0, 0, []), (.goto 7, 3, 0, 77, [])]
def KX3_judgeChain_73 : List RI := [(.aload_n 1, 1, 0, 1, []), (.getfield 178, 3, 0, 69, [])]
def KX3_judgeChain_77 : List RI := [(.putfield 106, 3, 0, 68, []), (.aload_n 1, 1, 0, 1, []), (.aload_n 2, 1, 0, 2, []), (.getfield 164, 3, 0, 70, []), (.ifCond .eq 33, 3, 0, 118, [])]
def KX3_judgeChain_88 : List RI := [(.aload_n 3, 1, 0, 3, []), (.getfield 164, 3, 0, 70, []), (.ifCond .eq 26, 3, 0, 118, [])]
def KX3_judgeChain_95 : List RI := [(.aload_n 1, 1, 0, 1, []), (.getfield 139, 3, 0, 61, []), (.invokestatic 233, 3, 1, 227, []), (.ifCond .eq 12, 3, 0, 114, [])]
def KX3_judgeChain_105 : List RI := [(.aload_n 3, 1, 0, 3, []), (.getfield 146, 3, 0, 71, []), (.lconst 0, 1, 0, 0, []), (.lcmp, 1, 0, 0, []), (.ifCond .eq 7, 3, 0, 118, [])]
def KX3_judgeChain_114 : List RI := [(.iconst 1, 1, 0, 0, []), (.goto 4, 3, 0, 119, [])]
def KX3_judgeChain_118 : List RI := [(.iconst 0, 1, 0, 0, [])]
def KX3_judgeChain_119 : List RI := [(.putfield 164, 3, 0, 70, []), (.aload_n 1, 1, 0, 1, []), (.getfield 164, 3, 0, 70, []), (.ifCond .eq 19, 3, 0, 145, [])]
def KX3_judgeChain_129 : List RI := [(.aload_n 1, 1, 0, 1, []), (.aload_n 1, 1, 0, 1, []), (.aload_n 2, 1, 0, 2, []), (.getfield 146, 3, 0, 71, []), (.aload_n 3, 1, 0, 3, []), (.getfield 146, 3, 0, 71, []), (.invokestatic 236, 3, 3, 70, []), (.putfield 146, 3, 0, 71, [])]
def KX3_judgeChain_145 : List RI := [(.return_, 1, 0, 0, [])]
def KX3_judgeChain : RB := [(0, KX3_judgeChain_0), (17, KX3_judgeChain_17), (30, KX3_judgeChain_30), (31, KX3_judgeChain_31), (60, KX3_judgeChain_60), (69, KX3_judgeChain_69), (73, KX3_judgeChain_73), (77, KX3_judgeChain_77), (88, KX3_judgeChain_88), (95, KX3_judgeChain_95), (105, KX3_judgeChain_105), (114, KX3_judgeChain_114), (118, KX3_judgeChain_118), (119, KX3_judgeChain_119), (129, KX3_judgeChain_129), (145, KX3_judgeChain_145)]
def rX3_judgeChain : CmC := (yX3_judgeChain, cX3_judgeChain, 4, none, 1, 4, false)
theorem hX3_judgeChain : mtC[69]? = some rX3_judgeChain := rfl
set_option maxRecDepth 100000 in
theorem okX3_judgeChain : cokMC rX3_judgeChain KX3_judgeChain = true := by sorry
def KX3_workedChain_0 : List RI := [(.aload_n 0, 1, 0, 0, []), (.getfield 139, 3, 0, 61, []), (.lookupswitch 36 #[(20, 32), (21, 28)], 28, 0, 40, [(20, 36), (21, 32)])]
def KX3_workedChain_32 : List RI := [(.lload_n 1, 1, 0, 1, []), (.lload_n 3, 1, 0, 3, []), (.land, 1, 0, 0, []), (.lreturn, 1, 0, 0, [])]
def KX3_workedChain_36 : List RI := [(.lload_n 1, 1, 0, 1, []), (.lload_n 3, 1, 0, 3, []), (.lor, 1, 0, 0, []), (.lreturn, 1, 0, 0, [])]
def KX3_workedChain_40 : List RI := [(.aload_n 0, 1, 0, 0, []), (.getfield 139, 3, 0, 61, []), (.aload_n 0, 1, 0, 0, []), (.getfield 178, 3, 0, 69, []), (.lload_n 1, 1, 0, 1, []), (.lload_n 3, 1, 0, 3, []), (.invokestatic 240, 3, 4, 229, []), (.lreturn, 1, 0, 0, [])]
def KX3_workedChain : RB := [(0, KX3_workedChain_0), (32, KX3_workedChain_32), (36, KX3_workedChain_36), (40, KX3_workedChain_40)]
def rX3_workedChain : CmC := (yX3_workedChain, cX3_workedChain, 5, (some .long), 3, 4, true)
theorem hX3_workedChain : mtC[70]? = some rX3_workedChain := rfl
set_option maxRecDepth 100000 in
theorem swX3_workedChain_4 : decode cX3_workedChain 4 = .ok (.lookupswitch 36 #[(20, 32), (21, 28)], 28) := by sorry
set_option maxRecDepth 100000 in
theorem okX3_workedChain : cokMC rX3_workedChain KX3_workedChain = true := by sorry
def KX3_judgeChoice_0 : List RI := [(.aload_n 1, 1, 0, 1, []), (.getfield 166, 3, 0, 72, []), (.invokestatic 170, 3, 1, 52, []), (.ifCond .ne 119, 3, 0, 126, [])]
def KX3_judgeChoice_10 : List RI := [(.aload_n 0, 1, 0, 0, []), (.aload_n 1, 1, 0, 1, []), (.getfield 166, 3, 0, 72, []), (.getfield 106, 3, 0, 68, []), (.ifCond .ne 7, 3, 0, 25, [])]
def KX3_judgeChoice_21 : List RI := [(.iconst 1, 1, 0, 0, []), (.goto 4, 3, 0, 26, [])]
def KX3_judgeChoice_25 : List RI := [(.iconst 0, 1, 0, 0, [])]
def KX3_judgeChoice_26 : List RI := [(.aload_n 1, 1, 0, 1, []), (.getfield 166, 3, 0, 72, []), (.getfield 149, 3, 0, 62, []), (.invokevirtual 207, 3, 2, 62, [(0, 0), (0, 0), (0, 0), (0, 0)]), (.ifCond .eq 90, 3, 0, 126, [])]
def KX3_judgeChoice_39 : List RI := [(.aload_n 1, 1, 0, 1, []), (.getfield 201, 3, 0, 73, []), (.invokestatic 170, 3, 1, 52, []), (.ifCond .ne 80, 3, 0, 126, [])]
def KX3_judgeChoice_49 : List RI := [(.aload_n 0, 1, 0, 0, []), (.aload_n 1, 1, 0, 1, []), (.getfield 201, 3, 0, 73, []), (.getfield 106, 3, 0, 68, []), (.iconst 5, 1, 0, 0, []), (.if_icmp .eq 7, 3, 0, 65, [])]
def KX3_judgeChoice_61 : List RI := [(.iconst 1, 1, 0, 0, []), (.goto 4, 3, 0, 66, [])]
def KX3_judgeChoice_65 : List RI := [(.iconst 0, 1, 0, 0, [])]
def KX3_judgeChoice_66 : List RI := [(.aload_n 1, 1, 0, 1, []), (.getfield 201, 3, 0, 73, []), (.getfield 149, 3, 0, 62, []), (.invokevirtual 207, 3, 2, 62, [(0, 0), (0, 0), (0, 0), (0, 0)]), (.ifCond .eq 50, 3, 0, 126, [])]
def KX3_judgeChoice_79 : List RI := [(.aload_n 1, 1, 0, 1, []), (.getfield 244, 3, 0, 74, []), (.invokestatic 170, 3, 1, 52, []), (.ifCond .ne 40, 3, 0, 126, [])]
def KX3_judgeChoice_89 : List RI := [(.aload_n 0, 1, 0, 0, []), (.bipush 7, 2, 0, 0, []), (.aload_n 1, 1, 0, 1, []), (.getfield 201, 3, 0, 73, []), (.getfield 106, 3, 0, 68, []), (.aload_n 1, 1, 0, 1, []), (.getfield 244, 3, 0, 74, []), (.getfield 106, 3, 0, 68, []), (.invokestatic 223, 3, 3, 67, []), (.aload_n 1, 1, 0, 1, []), (.getfield 244, 3, 0, 74, []), (.getfield 149, 3, 0, 62, []), (.invokevirtual 207, 3, 2, 62, [(0, 0), (0, 0), (0, 0), (0, 0)]), (.ifCond .eq 7, 3, 0, 126, [])]
def KX3_judgeChoice_122 : List RI := [(.iconst 1, 1, 0, 0, []), (.goto 4, 3, 0, 127, [])]
def KX3_judgeChoice_126 : List RI := [(.iconst 0, 1, 0, 0, [])]
def KX3_judgeChoice_127 : List RI := [(.istore_n 2, 1, 0, 2, []), (.iload_n 2, 1, 0, 2, []), (.ifCond .ne 4, 3, 0, 133, [])]
def KX3_judgeChoice_132 : List RI := [(.return_, 1, 0, 0, [])]
def KX3_judgeChoice_133 : List RI := [(.aload_n 1, 1, 0, 1, []), (.aload_n 1, 1, 0, 1, []), (.getfield 201, 3, 0, 73, []), (.aload_n 1, 1, 0, 1, []), (.getfield 244, 3, 0, 74, []), (.invokestatic 247, 3, 2, 72, []), (.putfield 106, 3, 0, 68, []), (.aload_n 1, 1, 0, 1, []), (.aload_n 1, 1, 0, 1, []), (.getfield 166, 3, 0, 72, []), (.getfield 164, 3, 0, 70, []), (.ifCond .eq 27, 3, 0, 183, [])]
def KX3_judgeChoice_159 : List RI := [(.aload_n 1, 1, 0, 1, []), (.getfield 201, 3, 0, 73, []), (.getfield 164, 3, 0, 70, []), (.ifCond .eq 17, 3, 0, 183, [])]
def KX3_judgeChoice_169 : List RI := [(.aload_n 1, 1, 0, 1, []), (.getfield 244, 3, 0, 74, []), (.getfield 164, 3, 0, 70, []), (.ifCond .eq 7, 3, 0, 183, [])]
def KX3_judgeChoice_179 : List RI := [(.iconst 1, 1, 0, 0, []), (.goto 4, 3, 0, 184, [])]
def KX3_judgeChoice_183 : List RI := [(.iconst 0, 1, 0, 0, [])]
def KX3_judgeChoice_184 : List RI := [(.putfield 164, 3, 0, 70, []), (.aload_n 1, 1, 0, 1, []), (.aload_n 1, 1, 0, 1, []), (.getfield 166, 3, 0, 72, []), (.getfield 146, 3, 0, 71, []), (.lconst 1, 1, 0, 0, []), (.lcmp, 1, 0, 0, []), (.ifCond .ne 13, 3, 0, 210, [])]
def KX3_judgeChoice_200 : List RI := [(.aload_n 1, 1, 0, 1, []), (.getfield 201, 3, 0, 73, []), (.getfield 146, 3, 0, 71, []), (.goto 10, 3, 0, 217, [])]
def KX3_judgeChoice_210 : List RI := [(.aload_n 1, 1, 0, 1, []), (.getfield 244, 3, 0, 74, []), (.getfield 146, 3, 0, 71, [])]
def KX3_judgeChoice_217 : List RI := [(.putfield 146, 3, 0, 71, []), (.return_, 1, 0, 0, [])]
def KX3_judgeChoice : RB := [(0, KX3_judgeChoice_0), (10, KX3_judgeChoice_10), (21, KX3_judgeChoice_21), (25, KX3_judgeChoice_25), (26, KX3_judgeChoice_26), (39, KX3_judgeChoice_39), (49, KX3_judgeChoice_49), (61, KX3_judgeChoice_61), (65, KX3_judgeChoice_65), (66, KX3_judgeChoice_66), (79, KX3_judgeChoice_79), (89, KX3_judgeChoice_89), (122, KX3_judgeChoice_122), (126, KX3_judgeChoice_126), (127, KX3_judgeChoice_127), (132, KX3_judgeChoice_132), (133, KX3_judgeChoice_133), (159, KX3_judgeChoice_159), (169, KX3_judgeChoice_169), (179, KX3_judgeChoice_179), (183, KX3_judgeChoice_183), (184, KX3_judgeChoice_184), (200, KX3_judgeChoice_200), (210, KX3_judgeChoice_210), (217, KX3_judgeChoice_217)]
def rX3_judgeChoice : CmC := (yX3_judgeChoice, cX3_judgeChoice, 3, none, 1, 4, false)
theorem hX3_judgeChoice : mtC[71]? = some rX3_judgeChoice := rfl
set_option maxRecDepth 100000 in
theorem okX3_judgeChoice : cokMC rX3_judgeChoice KX3_judgeChoice = true := by sorry
def KX3_choiceType_0 : List RI := [(.aload_n 0, 1, 0, 0, []), (.getfield 106, 3, 0, 68, []), (.aload_n 1, 1, 0, 1, []), (.getfield 106, 3, 0, 68, []), (.if_icmp .ne 8, 3, 0, 16, [])]
def KX3_choiceType_11 : List RI := [(.aload_n 0, 1, 0, 0, []), (.getfield 106, 3, 0, 68, []), (.ireturn, 1, 1, 0, [])]
def KX3_choiceType_16 : List RI := [(.aload_n 0, 1, 0, 0, []), (.getfield 106, 3, 0, 68, []), (.invokestatic 251, 3, 1, 73, []), (.ifCond .eq 27, 3, 0, 50, [])]
def KX3_choiceType_26 : List RI := [(.aload_n 1, 1, 0, 1, []), (.getfield 106, 3, 0, 68, []), (.iconst 3, 1, 0, 0, []), (.if_icmp .ne 19, 3, 0, 50, [])]
def KX3_choiceType_34 : List RI := [(.aload_n 1, 1, 0, 1, []), (.aload_n 0, 1, 0, 0, []), (.getfield 106, 3, 0, 68, []), (.invokestatic 254, 3, 2, 74, []), (.ifCond .eq 8, 3, 0, 50, [])]
def KX3_choiceType_45 : List RI := [(.aload_n 0, 1, 0, 0, []), (.getfield 106, 3, 0, 68, []), (.ireturn, 1, 1, 0, [])]
def KX3_choiceType_50 : List RI := [(.aload_n 1, 1, 0, 1, []), (.getfield 106, 3, 0, 68, []), (.invokestatic 251, 3, 1, 73, []), (.ifCond .eq 27, 3, 0, 84, [])]
def KX3_choiceType_60 : List RI := [(.aload_n 0, 1, 0, 0, []), (.getfield 106, 3, 0, 68, []), (.iconst 3, 1, 0, 0, []), (.if_icmp .ne 19, 3, 0, 84, [])]
def KX3_choiceType_68 : List RI := [(.aload_n 0, 1, 0, 0, []), (.aload_n 1, 1, 0, 1, []), (.getfield 106, 3, 0, 68, []), (.invokestatic 254, 3, 2, 74, []), (.ifCond .eq 8, 3, 0, 84, [])]
def KX3_choiceType_79 : List RI := [(.aload_n 1, 1, 0, 1, []), (.getfield 106, 3, 0, 68, []), (.ireturn, 1, 1, 0, [])]
def KX3_choiceType_84 : List RI := [(.aload_n 0, 1, 0, 0, []), (.getfield 106, 3, 0, 68, []), (.iconst 4, 1, 0, 0, []), (.if_icmp .eq 11, 3, 0, 100, [])]
def KX3_choiceType_92 : List RI := [(.aload_n 1, 1, 0, 1, []), (.getfield 106, 3, 0, 68, []), (.iconst 4, 1, 0, 0, []), (.if_icmp .ne 7, 3, 0, 104, [])]
def KX3_choiceType_100 : List RI := [(.iconst 4, 1, 0, 0, []), (.goto 4, 3, 0, 105, [])]
def KX3_choiceType_104 : List RI := [(.iconst 3, 1, 0, 0, [])]
def KX3_choiceType_105 : List RI := [(.ireturn, 1, 1, 0, [])]
def KX3_choiceType : RB := [(0, KX3_choiceType_0), (11, KX3_choiceType_11), (16, KX3_choiceType_16), (26, KX3_choiceType_26), (34, KX3_choiceType_34), (45, KX3_choiceType_45), (50, KX3_choiceType_50), (60, KX3_choiceType_60), (68, KX3_choiceType_68), (79, KX3_choiceType_79), (84, KX3_choiceType_84), (92, KX3_choiceType_92), (100, KX3_choiceType_100), (104, KX3_choiceType_104), (105, KX3_choiceType_105)]
def rX3_choiceType : CmC := (yX3_choiceType, cX3_choiceType, 2, (some .int), 2, 4, true)
theorem hX3_choiceType : mtC[72]? = some rX3_choiceType := rfl
set_option maxRecDepth 100000 in
theorem okX3_choiceType : cokMC rX3_choiceType KX3_choiceType = true := by sorry
def KX3_isSmall_0 : List RI := [(.iload_n 0, 1, 0, 0, []), (.iconst 1, 1, 0, 0, []), (.if_icmp .eq 8, 3, 0, 10, [])]
def KX3_isSmall_5 : List RI := [(.iload_n 0, 1, 0, 0, []), (.iconst 2, 1, 0, 0, []), (.if_icmp .ne 7, 3, 0, 14, [])]
def KX3_isSmall_10 : List RI := [(.iconst 1, 1, 0, 0, []), (.goto 4, 3, 0, 15, [])]
def KX3_isSmall_14 : List RI := [(.iconst 0, 1, 0, 0, [])]
def KX3_isSmall_15 : List RI := [(.ireturn, 1, 2, 0, [])]
def KX3_isSmall : RB := [(0, KX3_isSmall_0), (5, KX3_isSmall_5), (10, KX3_isSmall_10), (14, KX3_isSmall_14), (15, KX3_isSmall_15)]
def rX3_isSmall : CmC := (yX3_isSmall, cX3_isSmall, 1, (some .boolean), 1, 4, true)
theorem hX3_isSmall : mtC[73]? = some rX3_isSmall := rfl
set_option maxRecDepth 100000 in
theorem okX3_isSmall : cokMC rX3_isSmall KX3_isSmall = true := by sorry
def KX3_isHeld_0 : List RI := [(.aload_n 0, 1, 0, 0, []), (.getfield 164, 3, 0, 70, []), (.ifCond .eq 23, 3, 0, 27, [])]
def KX3_isHeld_7 : List RI := [(.iload_n 1, 1, 0, 1, []), (.aload_n 0, 1, 0, 0, []), (.getfield 146, 3, 0, 71, []), (.invokestatic 152, 3, 2, 228, []), (.aload_n 0, 1, 0, 0, []), (.getfield 146, 3, 0, 71, []), (.lcmp, 1, 0, 0, []), (.ifCond .ne 7, 3, 0, 27, [])]
def KX3_isHeld_23 : List RI := [(.iconst 1, 1, 0, 0, []), (.goto 4, 3, 0, 28, [])]
def KX3_isHeld_27 : List RI := [(.iconst 0, 1, 0, 0, [])]
def KX3_isHeld_28 : List RI := [(.ireturn, 1, 2, 0, [])]
def KX3_isHeld : RB := [(0, KX3_isHeld_0), (7, KX3_isHeld_7), (23, KX3_isHeld_23), (27, KX3_isHeld_27), (28, KX3_isHeld_28)]
def rX3_isHeld : CmC := (yX3_isHeld, cX3_isHeld, 2, (some .boolean), 2, 4, true)
theorem hX3_isHeld : mtC[74]? = some rX3_isHeld := rfl
set_option maxRecDepth 100000 in
theorem okX3_isHeld : cokMC rX3_isHeld KX3_isHeld = true := by sorry
def KX3_fits_0 : List RI := [(.aload_n 0, 1, 0, 0, []), (.getfield 106, 3, 0, 68, []), (.iload_n 1, 1, 0, 1, []), (.invokestatic 257, 3, 2, 224, []), (.ifCond .eq 5, 3, 0, 13, [])]
def KX3_fits_11 : List RI := [(.iconst 1, 1, 0, 0, []), (.ireturn, 1, 2, 0, [])]
def KX3_fits_13 : List RI := [(.iload_n 1, 1, 0, 1, []), (.invokestatic 251, 3, 1, 73, []), (.ifCond .eq 33, 3, 0, 50, [])]
def KX3_fits_20 : List RI := [(.aload_n 0, 1, 0, 0, []), (.getfield 106, 3, 0, 68, []), (.invokestatic 251, 3, 1, 73, []), (.ifCond .ne 11, 3, 0, 38, [])]
def KX3_fits_30 : List RI := [(.aload_n 0, 1, 0, 0, []), (.getfield 106, 3, 0, 68, []), (.iconst 3, 1, 0, 0, []), (.if_icmp .ne 15, 3, 0, 50, [])]
def KX3_fits_38 : List RI := [(.aload_n 0, 1, 0, 0, []), (.iload_n 1, 1, 0, 1, []), (.invokestatic 254, 3, 2, 74, []), (.ifCond .eq 7, 3, 0, 50, [])]
def KX3_fits_46 : List RI := [(.iconst 1, 1, 0, 0, []), (.goto 4, 3, 0, 51, [])]
def KX3_fits_50 : List RI := [(.iconst 0, 1, 0, 0, [])]
def KX3_fits_51 : List RI := [(.ireturn, 1, 2, 0, [])]
def KX3_fits : RB := [(0, KX3_fits_0), (11, KX3_fits_11), (13, KX3_fits_13), (20, KX3_fits_20), (30, KX3_fits_30), (38, KX3_fits_38), (46, KX3_fits_46), (50, KX3_fits_50), (51, KX3_fits_51)]
def rX3_fits : CmC := (yX3_fits, cX3_fits, 2, (some .boolean), 2, 4, true)
theorem hX3_fits : mtC[75]? = some rX3_fits := rfl
set_option maxRecDepth 100000 in
theorem okX3_fits : cokMC rX3_fits KX3_fits = true := by sorry
def KX3_judgeCall_0 : List RI := [(.iconst 0, 1, 0, 0, []), (.istore_n 2, 1, 0, 2, []), (.iconst 1, 1, 0, 0, []), (.istore_n 3, 1, 0, 3, []), (.aload_n 1, 1, 0, 1, []), (.getfield 166, 3, 0, 72, []), (.astore 4, 2, 0, 0, [])]
def KX3_judgeCall_10 : List RI := [(.aload 4, 2, 0, 0, []), (.ifnull 58, 3, 0, 70, [])]
def KX3_judgeCall_15 : List RI := [(.iload_n 3, 1, 0, 3, []), (.aload 4, 2, 0, 0, []), (.invokestatic 170, 3, 1, 52, []), (.ifCond .ne 33, 3, 0, 54, [])]
def KX3_judgeCall_24 : List RI := [(.aload_n 0, 1, 0, 0, []), (.aload 4, 2, 0, 0, []), (.getfield 106, 3, 0, 68, []), (.iconst 5, 1, 0, 0, []), (.if_icmp .eq 7, 3, 0, 38, [])]
def KX3_judgeCall_34 : List RI := [(.iconst 1, 1, 0, 0, []), (.goto 4, 3, 0, 39, [])]
def KX3_judgeCall_38 : List RI := [(.iconst 0, 1, 0, 0, [])]
def KX3_judgeCall_39 : List RI := [(.aload 4, 2, 0, 0, []), (.getfield 149, 3, 0, 62, []), (.invokevirtual 207, 3, 2, 62, [(0, 0), (0, 0), (0, 0), (0, 0)]), (.ifCond .eq 7, 3, 0, 54, [])]
def KX3_judgeCall_50 : List RI := [(.iconst 1, 1, 0, 0, []), (.goto 4, 3, 0, 55, [])]
def KX3_judgeCall_54 : List RI := [(.iconst 0, 1, 0, 0, [])]
def KX3_judgeCall_55 : List RI := [(.iand, 1, 0, 0, []), (.istore_n 3, 1, 0, 3, []), (.iinc 2 1, 3, 0, 0, []), (.aload 4, 2, 0, 0, []), (.getfield 260, 3, 0, 75, []), (.astore 4, 2, 0, 0, []), (.goto (-57), 3, 0, 10, [])]
def KX3_judgeCall_70 : List RI := [(.iload_n 3, 1, 0, 3, []), (.ifCond .ne 4, 3, 0, 75, [])]
def KX3_judgeCall_74 : List RI := [(.return_, 1, 0, 0, [])]
def KX3_judgeCall_75 : List RI := [(.aload_n 1, 1, 0, 1, []), (.aload_n 0, 1, 0, 0, []), (.aload_n 1, 1, 0, 1, []), (.iload_n 2, 1, 0, 2, []), (.invokevirtual 263, 3, 2, 77, [(0, 0), (0, 0), (0, 0), (0, 0)]), (.putfield 103, 3, 0, 67, []), (.aload_n 0, 1, 0, 0, []), (.getfield 9, 3, 0, 121, []), (.aload_n 1, 1, 0, 1, []), (.getfield 103, 3, 0, 67, []), (.invokevirtual 90, 3, 1, 119, [(0, 0), (0, 0), (0, 0), (0, 0), (0, 0), (0, 0), (0, 0)]), (.astore 4, 2, 0, 0, []), (.aload 4, 2, 0, 0, []), (.ifnonnull 17, 3, 0, 117, [])]
def KX3_judgeCall_103 : List RI := [(.aload_n 0, 1, 0, 0, []), (.getfield 9, 3, 0, 121, []), (.bipush 6, 2, 0, 0, []), (.aload_n 1, 1, 0, 1, []), (.getfield 149, 3, 0, 62, []), (.invokevirtual 57, 3, 2, 118, [(0, 0), (0, 0), (0, 0), (0, 0), (0, 0), (0, 0), (0, 0)]), (.return_, 1, 0, 0, [])]
def KX3_judgeCall_117 : List RI := [(.aload_n 1, 1, 0, 1, []), (.aload 4, 2, 0, 0, []), (.getfield 267, 3, 0, 182, []), (.putfield 106, 3, 0, 68, []), (.aload_n 0, 1, 0, 0, []), (.getfield 9, 3, 0, 121, []), (.getfield 268, 3, 0, 210, []), (.getfield 272, 3, 0, 303, []), (.aload_n 1, 1, 0, 1, []), (.getfield 149, 3, 0, 62, []), (.bipush 100, 2, 0, 0, []), (.aload_n 1, 1, 0, 1, []), (.getfield 103, 3, 0, 67, []), (.iadd, 1, 0, 0, []), (.iastore, 1, 0, 0, []), (.return_, 1, 0, 0, [])]
def KX3_judgeCall : RB := [(0, KX3_judgeCall_0), (10, KX3_judgeCall_10), (15, KX3_judgeCall_15), (24, KX3_judgeCall_24), (34, KX3_judgeCall_34), (38, KX3_judgeCall_38), (39, KX3_judgeCall_39), (50, KX3_judgeCall_50), (54, KX3_judgeCall_54), (55, KX3_judgeCall_55), (70, KX3_judgeCall_70), (74, KX3_judgeCall_74), (75, KX3_judgeCall_75), (103, KX3_judgeCall_103), (117, KX3_judgeCall_117)]
def rX3_judgeCall : CmC := (yX3_judgeCall, cX3_judgeCall, 5, none, 1, 4, false)
theorem hX3_judgeCall : mtC[76]? = some rX3_judgeCall := rfl
set_option maxRecDepth 100000 in
theorem okX3_judgeCall : cokMC rX3_judgeCall KX3_judgeCall = true := by sorry
def KX3_calledMethod_0 : List RI := [(.aload_n 0, 1, 0, 0, []), (.getfield 9, 3, 0, 121, []), (.getfield 268, 3, 0, 210, []), (.getfield 278, 3, 0, 304, []), (.aload_n 1, 1, 0, 1, []), (.getfield 149, 3, 0, 62, []), (.laload, 1, 0, 0, []), (.lstore_n 3, 1, 0, 3, []), (.iconst 0, 1, 0, 0, []), (.istore 5, 2, 0, 0, [])]
def KX3_calledMethod_19 : List RI := [(.iload 5, 2, 0, 0, []), (.bipush 11, 2, 0, 0, []), (.if_icmp .gt 67, 3, 0, 90, [])]
def KX3_calledMethod_26 : List RI := [(.iload 5, 2, 0, 0, []), (.bipush 10, 2, 0, 0, []), (.iadd, 1, 0, 0, []), (.bipush 12, 2, 0, 0, []), (.irem, 1, 0, 0, []), (.istore 6, 2, 0, 0, []), (.aload_n 0, 1, 0, 0, []), (.getfield 9, 3, 0, 121, []), (.iload 6, 2, 0, 0, []), (.invokevirtual 90, 3, 1, 119, [(0, 0), (0, 0), (0, 0), (0, 0), (0, 0), (0, 0), (0, 0)]), (.astore 7, 2, 0, 0, []), (.aload 7, 2, 0, 0, []), (.ifnull 35, 3, 0, 84, [])]
def KX3_calledMethod_52 : List RI := [(.aload 7, 2, 0, 0, []), (.lload_n 3, 1, 0, 3, []), (.iload_n 2, 1, 0, 2, []), (.aload_n 1, 1, 0, 1, []), (.getfield 166, 3, 0, 72, []), (.invokevirtual 282, 3, 3, 115, [(0, 0), (0, 0), (0, 0), (0, 0), (0, 0), (0, 0)]), (.ifCond .eq 21, 3, 0, 84, [])]
def KX3_calledMethod_66 : List RI := [(.aload_n 0, 1, 0, 0, []), (.aload 7, 2, 0, 0, []), (.lload_n 3, 1, 0, 3, []), (.iload_n 2, 1, 0, 2, []), (.aload_n 1, 1, 0, 1, []), (.getfield 166, 3, 0, 72, []), (.invokevirtual 286, 3, 4, 78, [(0, 0), (0, 0), (0, 0), (0, 0)]), (.ifCond .eq 6, 3, 0, 84, [])]
def KX3_calledMethod_81 : List RI := [(.iload 6, 2, 0, 0, []), (.ireturn, 1, 1, 0, [])]
def KX3_calledMethod_84 : List RI := [(.iinc 5 1, 3, 0, 0, []), (.goto (-68), 3, 0, 19, [])]
def KX3_calledMethod_90 : List RI := [(.iconst (-1), 1, 0, 0, []), (.ireturn, 1, 1, 0, [])]
def KX3_calledMethod : RB := [(0, KX3_calledMethod_0), (19, KX3_calledMethod_19), (26, KX3_calledMethod_26), (52, KX3_calledMethod_52), (66, KX3_calledMethod_66), (81, KX3_calledMethod_81), (84, KX3_calledMethod_84), (90, KX3_calledMethod_90)]
def rX3_calledMethod : CmC := (yX3_calledMethod, cX3_calledMethod, 8, (some .int), 2, 4, false)
theorem hX3_calledMethod : mtC[77]? = some rX3_calledMethod := rfl
set_option maxRecDepth 100000 in
theorem okX3_calledMethod : cokMC rX3_calledMethod KX3_calledMethod = true := by sorry
def KX3_isNarrowest_0 : List RI := [(.iconst 0, 1, 0, 0, []), (.istore 6, 2, 0, 0, [])]
def KX3_isNarrowest_3 : List RI := [(.iload 6, 2, 0, 0, []), (.bipush 11, 2, 0, 0, []), (.if_icmp .gt 49, 3, 0, 56, [])]
def KX3_isNarrowest_10 : List RI := [(.aload_n 0, 1, 0, 0, []), (.getfield 9, 3, 0, 121, []), (.iload 6, 2, 0, 0, []), (.invokevirtual 90, 3, 1, 119, [(0, 0), (0, 0), (0, 0), (0, 0), (0, 0), (0, 0), (0, 0)]), (.astore 7, 2, 0, 0, []), (.aload 7, 2, 0, 0, []), (.ifnull 27, 3, 0, 50, [])]
def KX3_isNarrowest_26 : List RI := [(.aload 7, 2, 0, 0, []), (.lload_n 2, 1, 0, 2, []), (.iload 4, 2, 0, 0, []), (.aload 5, 2, 0, 0, []), (.invokevirtual 282, 3, 3, 115, [(0, 0), (0, 0), (0, 0), (0, 0), (0, 0), (0, 0)]), (.ifCond .eq 14, 3, 0, 50, [])]
def KX3_isNarrowest_39 : List RI := [(.aload_n 1, 1, 0, 1, []), (.aload 7, 2, 0, 0, []), (.invokevirtual 290, 3, 1, 114, [(0, 0), (0, 0), (0, 0), (0, 0), (0, 0), (0, 0)]), (.ifCond .ne 5, 3, 0, 50, [])]
def KX3_isNarrowest_48 : List RI := [(.iconst 0, 1, 0, 0, []), (.ireturn, 1, 2, 0, [])]
def KX3_isNarrowest_50 : List RI := [(.iinc 6 1, 3, 0, 0, []), (.goto (-50), 3, 0, 3, [])]
def KX3_isNarrowest_56 : List RI := [(.iconst 1, 1, 0, 0, []), (.ireturn, 1, 2, 0, [])]
def KX3_isNarrowest : RB := [(0, KX3_isNarrowest_0), (3, KX3_isNarrowest_3), (10, KX3_isNarrowest_10), (26, KX3_isNarrowest_26), (39, KX3_isNarrowest_39), (48, KX3_isNarrowest_48), (50, KX3_isNarrowest_50), (56, KX3_isNarrowest_56)]
def rX3_isNarrowest : CmC := (yX3_isNarrowest, cX3_isNarrowest, 8, (some .boolean), 4, 4, false)
theorem hX3_isNarrowest : mtC[78]? = some rX3_isNarrowest := rfl
set_option maxRecDepth 100000 in
theorem okX3_isNarrowest : cokMC rX3_isNarrowest KX3_isNarrowest = true := by sorry
def KX3_judgeStore_0 : List RI := [(.aload_n 0, 1, 0, 0, []), (.aload_n 1, 1, 0, 1, []), (.invokevirtual 156, 3, 1, 51, [(0, 0), (0, 0), (0, 0), (0, 0)]), (.astore_n 2, 1, 0, 2, []), (.aload_n 2, 1, 0, 2, []), (.ifnull 38, 3, 0, 45, [])]
def KX3_judgeStore_10 : List RI := [(.aload_n 1, 1, 0, 1, []), (.getfield 166, 3, 0, 72, []), (.invokestatic 170, 3, 1, 52, []), (.ifCond .ne 28, 3, 0, 45, [])]
def KX3_judgeStore_20 : List RI := [(.aload_n 0, 1, 0, 0, []), (.aload_n 1, 1, 0, 1, []), (.getfield 166, 3, 0, 72, []), (.aload_n 2, 1, 0, 2, []), (.getfield 160, 3, 0, 331, []), (.invokestatic 204, 3, 2, 75, []), (.aload_n 1, 1, 0, 1, []), (.getfield 166, 3, 0, 72, []), (.getfield 149, 3, 0, 62, []), (.invokevirtual 207, 3, 2, 62, [(0, 0), (0, 0), (0, 0), (0, 0)]), (.ifCond .ne 4, 3, 0, 46, [])]
def KX3_judgeStore_45 : List RI := [(.return_, 1, 0, 0, [])]
def KX3_judgeStore_46 : List RI := [(.aload_n 2, 1, 0, 2, []), (.aload_n 2, 1, 0, 2, []), (.getfield 194, 3, 0, 332, []), (.ifCond .eq 17, 3, 0, 68, [])]
def KX3_judgeStore_54 : List RI := [(.aload_n 1, 1, 0, 1, []), (.getfield 166, 3, 0, 72, []), (.getfield 164, 3, 0, 70, []), (.ifCond .eq 7, 3, 0, 68, [])]
def KX3_judgeStore_64 : List RI := [(.iconst 1, 1, 0, 0, []), (.goto 4, 3, 0, 69, [])]
def KX3_judgeStore_68 : List RI := [(.iconst 0, 1, 0, 0, [])]
def KX3_judgeStore_69 : List RI := [(.putfield 161, 3, 0, 335, []), (.aload_n 2, 1, 0, 2, []), (.aload_n 1, 1, 0, 1, []), (.getfield 166, 3, 0, 72, []), (.getfield 146, 3, 0, 71, []), (.putfield 165, 3, 0, 336, []), (.return_, 1, 0, 0, [])]
def KX3_judgeStore : RB := [(0, KX3_judgeStore_0), (10, KX3_judgeStore_10), (20, KX3_judgeStore_20), (45, KX3_judgeStore_45), (46, KX3_judgeStore_46), (54, KX3_judgeStore_54), (64, KX3_judgeStore_64), (68, KX3_judgeStore_68), (69, KX3_judgeStore_69)]
def rX3_judgeStore : CmC := (yX3_judgeStore, cX3_judgeStore, 3, none, 1, 4, false)
theorem hX3_judgeStore : mtC[79]? = some rX3_judgeStore := rfl
set_option maxRecDepth 100000 in
theorem okX3_judgeStore : cokMC rX3_judgeStore KX3_judgeStore = true := by sorry
def KX3_judgeStatement_0 : List RI := [(.aload_n 1, 1, 0, 1, []), (.getfield 293, 3, 0, 270, []), (.lookupswitch 249 #[(6, 205), (56, 108), (58, 108), (59, 108), (60, 108), (61, 148), (64, 156), (65, 156), (66, 164), (67, 172), (90, 213), (94, 213)], 108, 0, 253, [(6, 209), (56, 112), (58, 112), (59, 112), (60, 112), (61, 152), (64, 160), (65, 160), (66, 168), (67, 176), (90, 217), (94, 217)])]
def KX3_judgeStatement_112 : List RI := [(.aload_n 1, 1, 0, 1, []), (.getfield 294, 3, 0, 279, []), (.invokestatic 170, 3, 1, 52, []), (.ifCond .ne 134, 3, 0, 253, [])]
def KX3_judgeStatement_122 : List RI := [(.aload_n 0, 1, 0, 0, []), (.aload_n 1, 1, 0, 1, []), (.getfield 294, 3, 0, 279, []), (.getfield 106, 3, 0, 68, []), (.ifCond .ne 7, 3, 0, 137, [])]
def KX3_judgeStatement_133 : List RI := [(.iconst 1, 1, 0, 0, []), (.goto 4, 3, 0, 138, [])]
def KX3_judgeStatement_137 : List RI := [(.iconst 0, 1, 0, 0, [])]
def KX3_judgeStatement_138 : List RI := [(.aload_n 1, 1, 0, 1, []), (.getfield 294, 3, 0, 279, []), (.getfield 149, 3, 0, 62, []), (.invokevirtual 207, 3, 2, 62, [(0, 0), (0, 0), (0, 0), (0, 0)]), (.pop, 1, 0, 0, []), (.goto 104, 3, 0, 253, [])]
def KX3_judgeStatement_152 : List RI := [(.aload_n 0, 1, 0, 0, []), (.aload_n 1, 1, 0, 1, []), (.invokevirtual 297, 3, 1, 81, [(0, 0), (0, 0), (0, 0), (0, 0)]), (.goto 96, 3, 0, 253, [])]
def KX3_judgeStatement_160 : List RI := [(.aload_n 0, 1, 0, 0, []), (.aload_n 1, 1, 0, 1, []), (.invokevirtual 300, 3, 1, 83, [(0, 0), (0, 0), (0, 0), (0, 0)]), (.goto 88, 3, 0, 253, [])]
def KX3_judgeStatement_168 : List RI := [(.aload_n 0, 1, 0, 0, []), (.aload_n 1, 1, 0, 1, []), (.invokevirtual 303, 3, 1, 86, [(0, 0), (0, 0), (0, 0), (0, 0)]), (.goto 80, 3, 0, 253, [])]
def KX3_judgeStatement_176 : List RI := [(.aload_n 1, 1, 0, 1, []), (.getfield 294, 3, 0, 279, []), (.invokestatic 170, 3, 1, 52, []), (.ifCond .ne 70, 3, 0, 253, [])]
def KX3_judgeStatement_186 : List RI := [(.aload_n 0, 1, 0, 0, []), (.aload_n 1, 1, 0, 1, []), (.getfield 294, 3, 0, 279, []), (.iconst 3, 1, 0, 0, []), (.invokestatic 204, 3, 2, 75, []), (.aload_n 1, 1, 0, 1, []), (.getfield 294, 3, 0, 279, []), (.getfield 149, 3, 0, 62, []), (.invokevirtual 207, 3, 2, 62, [(0, 0), (0, 0), (0, 0), (0, 0)]), (.pop, 1, 0, 0, []), (.goto 47, 3, 0, 253, [])]
def KX3_judgeStatement_209 : List RI := [(.aload_n 0, 1, 0, 0, []), (.aload_n 1, 1, 0, 1, []), (.invokevirtual 306, 3, 1, 85, [(0, 0), (0, 0), (0, 0), (0, 0)]), (.goto 39, 3, 0, 253, [])]
def KX3_judgeStatement_217 : List RI := [(.aload_n 1, 1, 0, 1, []), (.getfield 294, 3, 0, 279, []), (.ifnull 32, 3, 0, 253, [])]
def KX3_judgeStatement_224 : List RI := [(.aload_n 1, 1, 0, 1, []), (.getfield 294, 3, 0, 279, []), (.invokevirtual 309, 3, 0, 18, [(0, 0), (0, 0)]), (.ifCond .ne 22, 3, 0, 253, [])]
def KX3_judgeStatement_234 : List RI := [(.aload_n 0, 1, 0, 0, []), (.getfield 9, 3, 0, 121, []), (.bipush 12, 2, 0, 0, []), (.aload_n 1, 1, 0, 1, []), (.getfield 294, 3, 0, 279, []), (.getfield 149, 3, 0, 62, []), (.invokevirtual 57, 3, 2, 118, [(0, 0), (0, 0), (0, 0), (0, 0), (0, 0), (0, 0), (0, 0)]), (.goto 3, 3, 0, 253, [])]
def KX3_judgeStatement_253 : List RI := [(.return_, 1, 0, 0, [])]
def KX3_judgeStatement : RB := [(0, KX3_judgeStatement_0), (112, KX3_judgeStatement_112), (122, KX3_judgeStatement_122), (133, KX3_judgeStatement_133), (137, KX3_judgeStatement_137), (138, KX3_judgeStatement_138), (152, KX3_judgeStatement_152), (160, KX3_judgeStatement_160), (168, KX3_judgeStatement_168), (176, KX3_judgeStatement_176), (186, KX3_judgeStatement_186), (209, KX3_judgeStatement_209), (217, KX3_judgeStatement_217), (224, KX3_judgeStatement_224), (234, KX3_judgeStatement_234), (253, KX3_judgeStatement_253)]
def rX3_judgeStatement : CmC := (yX3_judgeStatement, cX3_judgeStatement, 2, none, 1, 4, false)
theorem hX3_judgeStatement : mtC[80]? = some rX3_judgeStatement := rfl
set_option maxRecDepth 100000 in
theorem swX3_judgeStatement_4 : decode cX3_judgeStatement 4 = .ok (.lookupswitch 249 #[(6, 205), (56, 108), (58, 108), (59, 108), (60, 108), (61, 148), (64, 156), (65, 156), (66, 164), (67, 172), (90, 213), (94, 213)], 108) := by sorry
set_option maxRecDepth 100000 in
theorem okX3_judgeStatement : cokMC rX3_judgeStatement KX3_judgeStatement = true := by sorry
def KX3_judgeSwitch_0 : List RI := [(.aload_n 1, 1, 0, 1, []), (.getfield 294, 3, 0, 279, []), (.invokestatic 170, 3, 1, 52, []), (.ifCond .eq 4, 3, 0, 11, [])]
def KX3_judgeSwitch_10 : List RI := [(.return_, 1, 0, 0, [])]
def KX3_judgeSwitch_11 : List RI := [(.aload_n 1, 1, 0, 1, []), (.getfield 294, 3, 0, 279, []), (.getfield 106, 3, 0, 68, []), (.istore_n 2, 1, 0, 2, []), (.aload_n 0, 1, 0, 0, []), (.iload_n 2, 1, 0, 2, []), (.iconst 1, 1, 0, 0, []), (.if_icmp .eq 13, 3, 0, 35, [])]
def KX3_judgeSwitch_25 : List RI := [(.iload_n 2, 1, 0, 2, []), (.iconst 2, 1, 0, 0, []), (.if_icmp .eq 8, 3, 0, 35, [])]
def KX3_judgeSwitch_30 : List RI := [(.iload_n 2, 1, 0, 2, []), (.iconst 3, 1, 0, 0, []), (.if_icmp .ne 7, 3, 0, 39, [])]
def KX3_judgeSwitch_35 : List RI := [(.iconst 1, 1, 0, 0, []), (.goto 4, 3, 0, 40, [])]
def KX3_judgeSwitch_39 : List RI := [(.iconst 0, 1, 0, 0, [])]
def KX3_judgeSwitch_40 : List RI := [(.aload_n 1, 1, 0, 1, []), (.getfield 294, 3, 0, 279, []), (.getfield 149, 3, 0, 62, []), (.invokevirtual 207, 3, 2, 62, [(0, 0), (0, 0), (0, 0), (0, 0)]), (.pop, 1, 0, 0, []), (.iconst 0, 1, 0, 0, []), (.istore_n 3, 1, 0, 3, []), (.aload_n 1, 1, 0, 1, []), (.getfield 313, 3, 0, 276, []), (.astore 4, 2, 0, 0, [])]
def KX3_judgeSwitch_59 : List RI := [(.aload 4, 2, 0, 0, []), (.ifnull 63, 3, 0, 124, [])]
def KX3_judgeSwitch_64 : List RI := [(.aload 4, 2, 0, 0, []), (.getfield 293, 3, 0, 270, []), (.bipush 62, 2, 0, 0, []), (.if_icmp .ne 13, 3, 0, 84, [])]
def KX3_judgeSwitch_74 : List RI := [(.aload_n 0, 1, 0, 0, []), (.aload_n 1, 1, 0, 1, []), (.aload 4, 2, 0, 0, []), (.invokevirtual 317, 3, 2, 82, [(0, 0), (0, 0), (0, 0), (0, 0)]), (.goto 33, 3, 0, 114, [])]
def KX3_judgeSwitch_84 : List RI := [(.aload 4, 2, 0, 0, []), (.getfield 293, 3, 0, 270, []), (.bipush 63, 2, 0, 0, []), (.if_icmp .ne 23, 3, 0, 114, [])]
def KX3_judgeSwitch_94 : List RI := [(.iload_n 3, 1, 0, 3, []), (.ifCond .eq 17, 3, 0, 112, [])]
def KX3_judgeSwitch_98 : List RI := [(.aload_n 0, 1, 0, 0, []), (.getfield 9, 3, 0, 121, []), (.bipush 8, 2, 0, 0, []), (.aload 4, 2, 0, 0, []), (.getfield 321, 3, 0, 271, []), (.invokevirtual 57, 3, 2, 118, [(0, 0), (0, 0), (0, 0), (0, 0), (0, 0), (0, 0), (0, 0)])]
def KX3_judgeSwitch_112 : List RI := [(.iconst 1, 1, 0, 0, []), (.istore_n 3, 1, 0, 3, [])]
def KX3_judgeSwitch_114 : List RI := [(.aload 4, 2, 0, 0, []), (.getfield 322, 3, 0, 275, []), (.astore 4, 2, 0, 0, []), (.goto (-62), 3, 0, 59, [])]
def KX3_judgeSwitch_124 : List RI := [(.return_, 1, 0, 0, [])]
def KX3_judgeSwitch : RB := [(0, KX3_judgeSwitch_0), (10, KX3_judgeSwitch_10), (11, KX3_judgeSwitch_11), (25, KX3_judgeSwitch_25), (30, KX3_judgeSwitch_30), (35, KX3_judgeSwitch_35), (39, KX3_judgeSwitch_39), (40, KX3_judgeSwitch_40), (59, KX3_judgeSwitch_59), (64, KX3_judgeSwitch_64), (74, KX3_judgeSwitch_74), (84, KX3_judgeSwitch_84), (94, KX3_judgeSwitch_94), (98, KX3_judgeSwitch_98), (112, KX3_judgeSwitch_112), (114, KX3_judgeSwitch_114), (124, KX3_judgeSwitch_124)]
def rX3_judgeSwitch : CmC := (yX3_judgeSwitch, cX3_judgeSwitch, 5, none, 1, 4, false)
theorem hX3_judgeSwitch : mtC[81]? = some rX3_judgeSwitch := rfl
set_option maxRecDepth 100000 in
theorem okX3_judgeSwitch : cokMC rX3_judgeSwitch KX3_judgeSwitch = true := by sorry
def KX3_judgeCase_0 : List RI := [(.aload_n 2, 1, 0, 2, []), (.getfield 294, 3, 0, 279, []), (.invokestatic 170, 3, 1, 52, []), (.ifCond .eq 4, 3, 0, 11, [])]
def KX3_judgeCase_10 : List RI := [(.return_, 1, 0, 0, [])]
def KX3_judgeCase_11 : List RI := [(.aload_n 2, 1, 0, 2, []), (.getfield 294, 3, 0, 279, []), (.getfield 164, 3, 0, 70, []), (.ifCond .eq 24, 3, 0, 42, [])]
def KX3_judgeCase_21 : List RI := [(.aload_n 2, 1, 0, 2, []), (.getfield 294, 3, 0, 279, []), (.aload_n 1, 1, 0, 1, []), (.getfield 294, 3, 0, 279, []), (.getfield 106, 3, 0, 68, []), (.invokestatic 204, 3, 2, 75, []), (.ifCond .eq 7, 3, 0, 42, [])]
def KX3_judgeCase_38 : List RI := [(.iconst 1, 1, 0, 0, []), (.goto 4, 3, 0, 43, [])]
def KX3_judgeCase_42 : List RI := [(.iconst 0, 1, 0, 0, [])]
def KX3_judgeCase_43 : List RI := [(.istore_n 3, 1, 0, 3, []), (.aload_n 1, 1, 0, 1, []), (.getfield 313, 3, 0, 276, []), (.astore 4, 2, 0, 0, [])]
def KX3_judgeCase_50 : List RI := [(.aload 4, 2, 0, 0, []), (.ifnull 72, 3, 0, 124, [])]
def KX3_judgeCase_55 : List RI := [(.aload 4, 2, 0, 0, []), (.aload_n 2, 1, 0, 2, []), (.if_acmp .eq 66, 3, 0, 124, [])]
def KX3_judgeCase_61 : List RI := [(.aload 4, 2, 0, 0, []), (.getfield 293, 3, 0, 270, []), (.bipush 62, 2, 0, 0, []), (.if_icmp .ne 46, 3, 0, 114, [])]
def KX3_judgeCase_71 : List RI := [(.aload 4, 2, 0, 0, []), (.getfield 294, 3, 0, 279, []), (.invokestatic 170, 3, 1, 52, []), (.ifCond .ne 35, 3, 0, 114, [])]
def KX3_judgeCase_82 : List RI := [(.aload 4, 2, 0, 0, []), (.getfield 294, 3, 0, 279, []), (.getfield 164, 3, 0, 70, []), (.ifCond .eq 24, 3, 0, 114, [])]
def KX3_judgeCase_93 : List RI := [(.aload 4, 2, 0, 0, []), (.getfield 294, 3, 0, 279, []), (.getfield 146, 3, 0, 71, []), (.aload_n 2, 1, 0, 2, []), (.getfield 294, 3, 0, 279, []), (.getfield 146, 3, 0, 71, []), (.lcmp, 1, 0, 0, []), (.ifCond .ne 5, 3, 0, 114, [])]
def KX3_judgeCase_112 : List RI := [(.iconst 0, 1, 0, 0, []), (.istore_n 3, 1, 0, 3, [])]
def KX3_judgeCase_114 : List RI := [(.aload 4, 2, 0, 0, []), (.getfield 322, 3, 0, 275, []), (.astore 4, 2, 0, 0, []), (.goto (-71), 3, 0, 50, [])]
def KX3_judgeCase_124 : List RI := [(.iload_n 3, 1, 0, 3, []), (.ifCond .ne 19, 3, 0, 144, [])]
def KX3_judgeCase_128 : List RI := [(.aload_n 0, 1, 0, 0, []), (.getfield 9, 3, 0, 121, []), (.bipush 8, 2, 0, 0, []), (.aload_n 2, 1, 0, 2, []), (.getfield 294, 3, 0, 279, []), (.getfield 149, 3, 0, 62, []), (.invokevirtual 57, 3, 2, 118, [(0, 0), (0, 0), (0, 0), (0, 0), (0, 0), (0, 0), (0, 0)])]
def KX3_judgeCase_144 : List RI := [(.return_, 1, 0, 0, [])]
def KX3_judgeCase : RB := [(0, KX3_judgeCase_0), (10, KX3_judgeCase_10), (11, KX3_judgeCase_11), (21, KX3_judgeCase_21), (38, KX3_judgeCase_38), (42, KX3_judgeCase_42), (43, KX3_judgeCase_43), (50, KX3_judgeCase_50), (55, KX3_judgeCase_55), (61, KX3_judgeCase_61), (71, KX3_judgeCase_71), (82, KX3_judgeCase_82), (93, KX3_judgeCase_93), (112, KX3_judgeCase_112), (114, KX3_judgeCase_114), (124, KX3_judgeCase_124), (128, KX3_judgeCase_128), (144, KX3_judgeCase_144)]
def rX3_judgeCase : CmC := (yX3_judgeCase, cX3_judgeCase, 5, none, 2, 4, false)
theorem hX3_judgeCase : mtC[82]? = some rX3_judgeCase := rfl
set_option maxRecDepth 100000 in
theorem okX3_judgeCase : cokMC rX3_judgeCase KX3_judgeCase = true := by sorry
def KX3_judgeJump_0 : List RI := [(.aload_n 1, 1, 0, 1, []), (.getfield 324, 3, 0, 273, []), (.astore_n 2, 1, 0, 2, [])]
def KX3_judgeJump_5 : List RI := [(.aload_n 2, 1, 0, 2, []), (.ifnull 87, 3, 0, 93, [])]
def KX3_judgeJump_9 : List RI := [(.aload_n 1, 1, 0, 1, []), (.getfield 327, 3, 0, 281, []), (.ifnonnull 80, 3, 0, 93, [])]
def KX3_judgeJump_16 : List RI := [(.aload_n 1, 1, 0, 1, []), (.getfield 330, 3, 0, 280, []), (.ifCond .ge 36, 3, 0, 56, [])]
def KX3_judgeJump_23 : List RI := [(.aload_n 2, 1, 0, 2, []), (.invokevirtual 331, 3, 0, 179, [(0, 0), (0, 0), (0, 0), (0, 0), (0, 0), (0, 0), (0, 0), (0, 0), (0, 0)]), (.ifCond .ne 21, 3, 0, 48, [])]
def KX3_judgeJump_30 : List RI := [(.aload_n 1, 1, 0, 1, []), (.getfield 293, 3, 0, 270, []), (.bipush 64, 2, 0, 0, []), (.if_icmp .ne 49, 3, 0, 85, [])]
def KX3_judgeJump_39 : List RI := [(.aload_n 2, 1, 0, 2, []), (.getfield 293, 3, 0, 270, []), (.bipush 61, 2, 0, 0, []), (.if_icmp .ne 40, 3, 0, 85, [])]
def KX3_judgeJump_48 : List RI := [(.aload_n 1, 1, 0, 1, []), (.aload_n 2, 1, 0, 2, []), (.putfield 327, 3, 0, 281, []), (.goto 32, 3, 0, 85, [])]
def KX3_judgeJump_56 : List RI := [(.aload_n 2, 1, 0, 2, []), (.getfield 293, 3, 0, 270, []), (.bipush 6, 2, 0, 0, []), (.if_icmp .ne 23, 3, 0, 85, [])]
def KX3_judgeJump_65 : List RI := [(.aload_n 0, 1, 0, 0, []), (.aload_n 1, 1, 0, 1, []), (.getfield 330, 3, 0, 280, []), (.aload_n 2, 1, 0, 2, []), (.getfield 330, 3, 0, 280, []), (.invokevirtual 334, 3, 2, 84, [(0, 0), (0, 0), (0, 0), (0, 0)]), (.ifCond .eq 8, 3, 0, 85, [])]
def KX3_judgeJump_80 : List RI := [(.aload_n 1, 1, 0, 1, []), (.aload_n 2, 1, 0, 2, []), (.putfield 327, 3, 0, 281, [])]
def KX3_judgeJump_85 : List RI := [(.aload_n 2, 1, 0, 2, []), (.getfield 324, 3, 0, 273, []), (.astore_n 2, 1, 0, 2, []), (.goto (-85), 3, 0, 5, [])]
def KX3_judgeJump_93 : List RI := [(.aload_n 1, 1, 0, 1, []), (.getfield 293, 3, 0, 270, []), (.bipush 65, 2, 0, 0, []), (.if_icmp .ne 50, 3, 0, 149, [])]
def KX3_judgeJump_102 : List RI := [(.aload_n 1, 1, 0, 1, []), (.getfield 327, 3, 0, 281, []), (.ifnull 43, 3, 0, 149, [])]
def KX3_judgeJump_109 : List RI := [(.aload_n 1, 1, 0, 1, []), (.getfield 327, 3, 0, 281, []), (.getfield 293, 3, 0, 270, []), (.bipush 6, 2, 0, 0, []), (.if_icmp .ne 31, 3, 0, 149, [])]
def KX3_judgeJump_121 : List RI := [(.aload_n 1, 1, 0, 1, []), (.getfield 327, 3, 0, 281, []), (.getfield 313, 3, 0, 276, []), (.astore_n 2, 1, 0, 2, []), (.aload_n 1, 1, 0, 1, []), (.aload_n 2, 1, 0, 2, []), (.ifnull 14, 3, 0, 145, [])]
def KX3_judgeJump_134 : List RI := [(.aload_n 2, 1, 0, 2, []), (.invokevirtual 331, 3, 0, 179, [(0, 0), (0, 0), (0, 0), (0, 0), (0, 0), (0, 0), (0, 0), (0, 0), (0, 0)]), (.ifCond .eq 7, 3, 0, 145, [])]
def KX3_judgeJump_141 : List RI := [(.aload_n 2, 1, 0, 2, []), (.goto 4, 3, 0, 146, [])]
def KX3_judgeJump_145 : List RI := [(.aconst_null, 1, 0, 0, [])]
def KX3_judgeJump_146 : List RI := [(.putfield 327, 3, 0, 281, [])]
def KX3_judgeJump_149 : List RI := [(.aload_n 1, 1, 0, 1, []), (.getfield 327, 3, 0, 281, []), (.ifnonnull 30, 3, 0, 183, [])]
def KX3_judgeJump_156 : List RI := [(.aload_n 0, 1, 0, 0, []), (.getfield 9, 3, 0, 121, []), (.bipush 9, 2, 0, 0, []), (.aload_n 1, 1, 0, 1, []), (.getfield 330, 3, 0, 280, []), (.ifCond .ge 10, 3, 0, 176, [])]
def KX3_judgeJump_169 : List RI := [(.aload_n 1, 1, 0, 1, []), (.getfield 321, 3, 0, 271, []), (.goto 7, 3, 0, 180, [])]
def KX3_judgeJump_176 : List RI := [(.aload_n 1, 1, 0, 1, []), (.getfield 330, 3, 0, 280, [])]
def KX3_judgeJump_180 : List RI := [(.invokevirtual 57, 3, 2, 118, [(0, 0), (0, 0), (0, 0), (0, 0), (0, 0), (0, 0), (0, 0)])]
def KX3_judgeJump_183 : List RI := [(.return_, 1, 0, 0, [])]
def KX3_judgeJump : RB := [(0, KX3_judgeJump_0), (5, KX3_judgeJump_5), (9, KX3_judgeJump_9), (16, KX3_judgeJump_16), (23, KX3_judgeJump_23), (30, KX3_judgeJump_30), (39, KX3_judgeJump_39), (48, KX3_judgeJump_48), (56, KX3_judgeJump_56), (65, KX3_judgeJump_65), (80, KX3_judgeJump_80), (85, KX3_judgeJump_85), (93, KX3_judgeJump_93), (102, KX3_judgeJump_102), (109, KX3_judgeJump_109), (121, KX3_judgeJump_121), (134, KX3_judgeJump_134), (141, KX3_judgeJump_141), (145, KX3_judgeJump_145), (146, KX3_judgeJump_146), (149, KX3_judgeJump_149), (156, KX3_judgeJump_156), (169, KX3_judgeJump_169), (176, KX3_judgeJump_176), (180, KX3_judgeJump_180), (183, KX3_judgeJump_183)]
def rX3_judgeJump : CmC := (yX3_judgeJump, cX3_judgeJump, 3, none, 1, 4, false)
theorem hX3_judgeJump : mtC[83]? = some rX3_judgeJump := rfl
set_option maxRecDepth 100000 in
theorem okX3_judgeJump : cokMC rX3_judgeJump KX3_judgeJump = true := by sorry
def KX3_isSameName_0 : List RI := [(.aload_n 0, 1, 0, 0, []), (.getfield 9, 3, 0, 121, []), (.getfield 268, 3, 0, 210, []), (.getfield 278, 3, 0, 304, []), (.iload_n 1, 1, 0, 1, []), (.laload, 1, 0, 0, []), (.aload_n 0, 1, 0, 0, []), (.getfield 9, 3, 0, 121, []), (.getfield 268, 3, 0, 210, []), (.getfield 278, 3, 0, 304, []), (.iload_n 2, 1, 0, 2, []), (.laload, 1, 0, 0, []), (.lcmp, 1, 0, 0, []), (.ifCond .ne 7, 3, 0, 32, [])]
def KX3_isSameName_28 : List RI := [(.iconst 1, 1, 0, 0, []), (.goto 4, 3, 0, 33, [])]
def KX3_isSameName_32 : List RI := [(.iconst 0, 1, 0, 0, [])]
def KX3_isSameName_33 : List RI := [(.ireturn, 1, 2, 0, [])]
def KX3_isSameName : RB := [(0, KX3_isSameName_0), (28, KX3_isSameName_28), (32, KX3_isSameName_32), (33, KX3_isSameName_33)]
def rX3_isSameName : CmC := (yX3_isSameName, cX3_isSameName, 3, (some .boolean), 2, 4, false)
theorem hX3_isSameName : mtC[84]? = some rX3_isSameName := rfl
set_option maxRecDepth 100000 in
theorem okX3_isSameName : cokMC rX3_isSameName KX3_isSameName = true := by sorry
def KX3_judgeLabel_0 : List RI := [(.aload_n 1, 1, 0, 1, []), (.getfield 324, 3, 0, 273, []), (.astore_n 2, 1, 0, 2, [])]
def KX3_judgeLabel_5 : List RI := [(.aload_n 2, 1, 0, 2, []), (.ifnull 48, 3, 0, 54, [])]
def KX3_judgeLabel_9 : List RI := [(.aload_n 2, 1, 0, 2, []), (.getfield 293, 3, 0, 270, []), (.bipush 6, 2, 0, 0, []), (.if_icmp .ne 31, 3, 0, 46, [])]
def KX3_judgeLabel_18 : List RI := [(.aload_n 0, 1, 0, 0, []), (.aload_n 1, 1, 0, 1, []), (.getfield 330, 3, 0, 280, []), (.aload_n 2, 1, 0, 2, []), (.getfield 330, 3, 0, 280, []), (.invokevirtual 334, 3, 2, 84, [(0, 0), (0, 0), (0, 0), (0, 0)]), (.ifCond .eq 16, 3, 0, 46, [])]
def KX3_judgeLabel_33 : List RI := [(.aload_n 0, 1, 0, 0, []), (.getfield 9, 3, 0, 121, []), (.bipush 10, 2, 0, 0, []), (.aload_n 1, 1, 0, 1, []), (.getfield 330, 3, 0, 280, []), (.invokevirtual 57, 3, 2, 118, [(0, 0), (0, 0), (0, 0), (0, 0), (0, 0), (0, 0), (0, 0)])]
def KX3_judgeLabel_46 : List RI := [(.aload_n 2, 1, 0, 2, []), (.getfield 324, 3, 0, 273, []), (.astore_n 2, 1, 0, 2, []), (.goto (-46), 3, 0, 5, [])]
def KX3_judgeLabel_54 : List RI := [(.return_, 1, 0, 0, [])]
def KX3_judgeLabel : RB := [(0, KX3_judgeLabel_0), (5, KX3_judgeLabel_5), (9, KX3_judgeLabel_9), (18, KX3_judgeLabel_18), (33, KX3_judgeLabel_33), (46, KX3_judgeLabel_46), (54, KX3_judgeLabel_54)]
def rX3_judgeLabel : CmC := (yX3_judgeLabel, cX3_judgeLabel, 3, none, 1, 4, false)
theorem hX3_judgeLabel : mtC[85]? = some rX3_judgeLabel := rfl
set_option maxRecDepth 100000 in
theorem okX3_judgeLabel : cokMC rX3_judgeLabel KX3_judgeLabel = true := by sorry
def KX3_judgeReturn_0 : List RI := [(.aload_n 0, 1, 0, 0, []), (.getfield 9, 3, 0, 121, []), (.aload_n 1, 1, 0, 1, []), (.getfield 330, 3, 0, 280, []), (.invokevirtual 90, 3, 1, 119, [(0, 0), (0, 0), (0, 0), (0, 0), (0, 0), (0, 0), (0, 0)]), (.astore_n 2, 1, 0, 2, []), (.aload_n 2, 1, 0, 2, []), (.ifnull 20, 3, 0, 33, [])]
def KX3_judgeReturn_16 : List RI := [(.aload_n 1, 1, 0, 1, []), (.getfield 294, 3, 0, 279, []), (.ifnull 14, 3, 0, 34, [])]
def KX3_judgeReturn_23 : List RI := [(.aload_n 1, 1, 0, 1, []), (.getfield 294, 3, 0, 279, []), (.invokestatic 170, 3, 1, 52, []), (.ifCond .eq 4, 3, 0, 34, [])]
def KX3_judgeReturn_33 : List RI := [(.return_, 1, 0, 0, [])]
def KX3_judgeReturn_34 : List RI := [(.aload_n 1, 1, 0, 1, []), (.getfield 294, 3, 0, 279, []), (.ifnonnull 7, 3, 0, 45, [])]
def KX3_judgeReturn_41 : List RI := [(.iconst 1, 1, 0, 0, []), (.goto 4, 3, 0, 46, [])]
def KX3_judgeReturn_45 : List RI := [(.iconst 0, 1, 0, 0, [])]
def KX3_judgeReturn_46 : List RI := [(.aload_n 2, 1, 0, 2, []), (.getfield 267, 3, 0, 182, []), (.iconst 5, 1, 0, 0, []), (.if_icmp .ne 7, 3, 0, 58, [])]
def KX3_judgeReturn_54 : List RI := [(.iconst 1, 1, 0, 0, []), (.goto 4, 3, 0, 59, [])]
def KX3_judgeReturn_58 : List RI := [(.iconst 0, 1, 0, 0, [])]
def KX3_judgeReturn_59 : List RI := [(.if_icmp .eq 19, 3, 0, 78, [])]
def KX3_judgeReturn_62 : List RI := [(.aload_n 0, 1, 0, 0, []), (.getfield 9, 3, 0, 121, []), (.bipush 11, 2, 0, 0, []), (.aload_n 1, 1, 0, 1, []), (.getfield 321, 3, 0, 271, []), (.invokevirtual 57, 3, 2, 118, [(0, 0), (0, 0), (0, 0), (0, 0), (0, 0), (0, 0), (0, 0)]), (.goto 33, 3, 0, 108, [])]
def KX3_judgeReturn_78 : List RI := [(.aload_n 1, 1, 0, 1, []), (.getfield 294, 3, 0, 279, []), (.ifnull 26, 3, 0, 108, [])]
def KX3_judgeReturn_85 : List RI := [(.aload_n 0, 1, 0, 0, []), (.aload_n 1, 1, 0, 1, []), (.getfield 294, 3, 0, 279, []), (.aload_n 2, 1, 0, 2, []), (.getfield 267, 3, 0, 182, []), (.invokestatic 204, 3, 2, 75, []), (.aload_n 1, 1, 0, 1, []), (.getfield 294, 3, 0, 279, []), (.getfield 149, 3, 0, 62, []), (.invokevirtual 207, 3, 2, 62, [(0, 0), (0, 0), (0, 0), (0, 0)]), (.pop, 1, 0, 0, [])]
def KX3_judgeReturn_108 : List RI := [(.return_, 1, 0, 0, [])]
def KX3_judgeReturn : RB := [(0, KX3_judgeReturn_0), (16, KX3_judgeReturn_16), (23, KX3_judgeReturn_23), (33, KX3_judgeReturn_33), (34, KX3_judgeReturn_34), (41, KX3_judgeReturn_41), (45, KX3_judgeReturn_45), (46, KX3_judgeReturn_46), (54, KX3_judgeReturn_54), (58, KX3_judgeReturn_58), (59, KX3_judgeReturn_59), (62, KX3_judgeReturn_62), (78, KX3_judgeReturn_78), (85, KX3_judgeReturn_85), (108, KX3_judgeReturn_108)]
def rX3_judgeReturn : CmC := (yX3_judgeReturn, cX3_judgeReturn, 3, none, 1, 4, false)
theorem hX3_judgeReturn : mtC[86]? = some rX3_judgeReturn := rfl
set_option maxRecDepth 100000 in
theorem okX3_judgeReturn : cokMC rX3_judgeReturn KX3_judgeReturn = true := by sorry
def KX4_init_0 : List RI := [(.aload_n 0, 1, 0, 0, []), (.invokespecial 3, 3, 0, 9999, []), (.aload_n 0, 1, 0, 0, []), (.sipush 1800, 3, 0, 0, []), (.newarray .long, 2, 0, 102, []), (.putfield 9, 3, 0, 150, []), (.aload_n 0, 1, 0, 0, []), (.sipush 7500, 3, 0, 0, []), (.newarray .long, 2, 0, 102, []), (.putfield 15, 3, 0, 151, []), (.aload_n 0, 1, 0, 0, []), (.bipush 31, 2, 0, 0, []), (.newarray .int, 2, 1, 100, []), (.putfield 18, 3, 0, 152, []), (.aload_n 0, 1, 0, 0, []), (.bipush 31, 2, 0, 0, []), (.newarray .int, 2, 0, 100, []), (.putfield 22, 3, 0, 153, []), (.aload_n 0, 1, 0, 0, []), (.sipush 630, 3, 0, 0, []), (.newarray .int, 2, 0, 100, []), (.putfield 25, 3, 0, 154, []), (.aload_n 0, 1, 0, 0, []), (.sipush 630, 3, 0, 0, []), (.newarray .long, 2, 0, 102, []), (.putfield 28, 3, 0, 155, []), (.aload_n 0, 1, 0, 0, []), (.sipush 630, 3, 0, 0, []), (.anewarray 31, 3, 0, 105, []), (.putfield 33, 3, 0, 156, []), (.aload_n 0, 1, 0, 0, []), (.sipush 200, 3, 0, 0, []), (.newarray .long, 2, 0, 102, []), (.putfield 37, 3, 0, 157, []), (.aload_n 0, 1, 0, 0, []), (.iconst 0, 1, 0, 0, []), (.newarray .int, 2, 0, 100, []), (.putfield 40, 3, 0, 159, []), (.aload_n 0, 1, 0, 0, []), (.aload_n 1, 1, 0, 1, []), (.putfield 43, 3, 0, 158, []), (.return_, 1, 0, 0, [])]
def KX4_init : RB := [(0, KX4_init_0)]
def rX4_init : CmC := (yX4_init, cX4_init, 2, none, 1, 5, false)
theorem hX4_init : mtC[87]? = some rX4_init := rfl
set_option maxRecDepth 100000 in
theorem swX4_init_8 : decode cX4_init 8 = .ok (.newarray .long, 2) := by sorry
set_option maxRecDepth 100000 in
theorem swX4_init_17 : decode cX4_init 17 = .ok (.newarray .long, 2) := by sorry
set_option maxRecDepth 100000 in
theorem swX4_init_25 : decode cX4_init 25 = .ok (.newarray .int, 2) := by sorry
set_option maxRecDepth 100000 in
theorem swX4_init_33 : decode cX4_init 33 = .ok (.newarray .int, 2) := by sorry
set_option maxRecDepth 100000 in
theorem swX4_init_42 : decode cX4_init 42 = .ok (.newarray .int, 2) := by sorry
set_option maxRecDepth 100000 in
theorem swX4_init_51 : decode cX4_init 51 = .ok (.newarray .long, 2) := by sorry
set_option maxRecDepth 100000 in
theorem swX4_init_70 : decode cX4_init 70 = .ok (.newarray .long, 2) := by sorry
set_option maxRecDepth 100000 in
theorem swX4_init_77 : decode cX4_init 77 = .ok (.newarray .int, 2) := by sorry
set_option maxRecDepth 100000 in
theorem okX4_init : cokMC rX4_init KX4_init = true := by sorry
def KX4_prepare_0 : List RI := [(.aload_n 0, 1, 0, 0, []), (.aload_n 1, 1, 0, 1, []), (.putfield 40, 3, 0, 159, []), (.aload_n 0, 1, 0, 0, []), (.iload_n 2, 1, 0, 2, []), (.aload_n 1, 1, 0, 1, []), (.arraylength, 1, 0, 0, []), (.invokestatic 47, 3, 2, 9996, []), (.putfield 53, 3, 0, 160, []), (.aload_n 0, 1, 0, 0, []), (.iconst 0, 1, 0, 0, []), (.putfield 57, 3, 0, 162, []), (.aload_n 0, 1, 0, 0, []), (.iconst 0, 1, 0, 0, []), (.putfield 60, 3, 0, 163, []), (.aload_n 0, 1, 0, 0, []), (.iconst 0, 1, 0, 0, []), (.putfield 63, 3, 0, 165, []), (.aload_n 0, 1, 0, 0, []), (.iconst 0, 1, 0, 0, []), (.putfield 66, 3, 0, 166, []), (.aload_n 0, 1, 0, 0, []), (.iconst 0, 1, 0, 0, []), (.putfield 69, 3, 0, 167, []), (.aload_n 0, 1, 0, 0, []), (.iconst (-1), 1, 0, 0, []), (.putfield 72, 3, 0, 168, []), (.aload_n 0, 1, 0, 0, []), (.lconst 0, 1, 0, 0, []), (.putfield 75, 3, 0, 170, []), (.aload_n 0, 1, 0, 0, []), (.bipush 6, 2, 0, 0, []), (.putfield 79, 3, 0, 169, []), (.return_, 1, 0, 0, [])]
def KX4_prepare : RB := [(0, KX4_prepare_0)]
def rX4_prepare : CmC := (yX4_prepare, cX4_prepare, 3, none, 2, 5, false)
theorem hX4_prepare : mtC[88]? = some rX4_prepare := rfl
set_option maxRecDepth 100000 in
theorem okX4_prepare : cokMC rX4_prepare KX4_prepare = true := by sorry
def KX4_perform_0 : List RI := [(.aload_n 0, 1, 0, 0, []), (.iload_n 3, 1, 0, 3, []), (.putfield 82, 3, 0, 164, []), (.iconst 0, 1, 0, 0, []), (.istore 4, 2, 0, 0, [])]
def KX4_perform_8 : List RI := [(.iload 4, 2, 0, 0, []), (.aload_n 1, 1, 0, 1, []), (.getfield 85, 3, 0, 185, []), (.if_icmp .ge 60, 3, 0, 74, [])]
def KX4_perform_17 : List RI := [(.iload 4, 2, 0, 0, []), (.aload_n 2, 1, 0, 2, []), (.arraylength, 1, 0, 0, []), (.if_icmp .ge 53, 3, 0, 74, [])]
def KX4_perform_24 : List RI := [(.aload_n 1, 1, 0, 1, []), (.getfield 90, 3, 0, 183, []), (.iload 4, 2, 0, 0, []), (.iaload, 1, 0, 0, []), (.istore 5, 2, 0, 0, []), (.aload_n 0, 1, 0, 0, []), (.iload 5, 2, 0, 0, []), (.ifCond .ne 20, 3, 0, 56, [])]
def KX4_perform_39 : List RI := [(.aload_n 2, 1, 0, 2, []), (.iload 4, 2, 0, 0, []), (.laload, 1, 0, 0, []), (.lconst 0, 1, 0, 0, []), (.lcmp, 1, 0, 0, []), (.ifCond .eq 7, 3, 0, 52, [])]
def KX4_perform_48 : List RI := [(.lconst 1, 1, 0, 0, []), (.goto 16, 3, 0, 65, [])]
def KX4_perform_52 : List RI := [(.lconst 0, 1, 0, 0, []), (.goto 12, 3, 0, 65, [])]
def KX4_perform_56 : List RI := [(.iload 5, 2, 0, 0, []), (.aload_n 2, 1, 0, 2, []), (.iload 4, 2, 0, 0, []), (.laload, 1, 0, 0, []), (.invokestatic 93, 3, 2, 228, [])]
def KX4_perform_65 : List RI := [(.invokevirtual 97, 3, 1, 91, [(0, 0), (0, 0), (0, 0), (0, 0), (0, 0)]), (.iinc 4 1, 3, 0, 0, []), (.goto (-63), 3, 0, 8, [])]
def KX4_perform_74 : List RI := [(.aload_n 0, 1, 0, 0, []), (.invokevirtual 101, 3, 0, 94, [(0, 0), (0, 0), (0, 0), (0, 0), (0, 0)]), (.ifCond .eq 8, 3, 0, 86, [])]
def KX4_perform_81 : List RI := [(.aload_n 0, 1, 0, 0, []), (.aload_n 1, 1, 0, 1, []), (.invokevirtual 105, 3, 1, 102, [(0, 0), (0, 0), (0, 0), (0, 0), (0, 0)])]
def KX4_perform_86 : List RI := [(.iconst 0, 1, 0, 0, []), (.istore 4, 2, 0, 0, [])]
def KX4_perform_89 : List RI := [(.aload_n 0, 1, 0, 0, []), (.getfield 79, 3, 0, 169, []), (.bipush 6, 2, 0, 0, []), (.if_icmp .ne 20, 3, 0, 115, [])]
def KX4_perform_98 : List RI := [(.iload 4, 2, 0, 0, []), (.ldc 109, 2, 100000000, 0, []), (.if_icmp .ge 13, 3, 0, 115, [])]
def KX4_perform_105 : List RI := [(.aload_n 0, 1, 0, 0, []), (.invokevirtual 110, 3, 0, 95, [(0, 0), (0, 0), (0, 0), (0, 0), (0, 0)]), (.iinc 4 1, 3, 0, 0, []), (.goto (-23), 3, 0, 89, [])]
def KX4_perform_115 : List RI := [(.aload_n 0, 1, 0, 0, []), (.getfield 79, 3, 0, 169, []), (.ifCond .ne 16, 3, 0, 135, [])]
def KX4_perform_122 : List RI := [(.aload_n 1, 1, 0, 1, []), (.getfield 113, 3, 0, 182, []), (.iconst 5, 1, 0, 0, []), (.if_icmp .eq 8, 3, 0, 135, [])]
def KX4_perform_130 : List RI := [(.aload_n 0, 1, 0, 0, []), (.iconst 1, 1, 0, 0, []), (.putfield 79, 3, 0, 169, [])]
def KX4_perform_135 : List RI := [(.aload_n 0, 1, 0, 0, []), (.getfield 79, 3, 0, 169, []), (.ireturn, 1, 1, 0, [])]
def KX4_perform : RB := [(0, KX4_perform_0), (8, KX4_perform_8), (17, KX4_perform_17), (24, KX4_perform_24), (39, KX4_perform_39), (48, KX4_perform_48), (52, KX4_perform_52), (56, KX4_perform_56), (65, KX4_perform_65), (74, KX4_perform_74), (81, KX4_perform_81), (86, KX4_perform_86), (89, KX4_perform_89), (98, KX4_perform_98), (105, KX4_perform_105), (115, KX4_perform_115), (122, KX4_perform_122), (130, KX4_perform_130), (135, KX4_perform_135)]
def rX4_perform : CmC := (yX4_perform, cX4_perform, 6, (some .int), 3, 5, false)
theorem hX4_perform : mtC[89]? = some rX4_perform := rfl
set_option maxRecDepth 100000 in
theorem okX4_perform : cokMC rX4_perform KX4_perform = true := by sorry
def KX4_report_0 : List RI := [(.iload_n 1, 1, 0, 1, []), (.tableswitch 77 0 4 #[35, 40, 46, 52, 58], 35, 0, 78, [(0, 36), (1, 41), (2, 47), (3, 53), (4, 59)])]
def KX4_report_36 : List RI := [(.aload_n 0, 1, 0, 0, []), (.getfield 75, 3, 0, 170, []), (.lreturn, 1, 0, 0, [])]
def KX4_report_41 : List RI := [(.aload_n 0, 1, 0, 0, []), (.getfield 63, 3, 0, 165, []), (.i2l, 1, 0, 0, []), (.lreturn, 1, 0, 0, [])]
def KX4_report_47 : List RI := [(.aload_n 0, 1, 0, 0, []), (.getfield 66, 3, 0, 166, []), (.i2l, 1, 0, 0, []), (.lreturn, 1, 0, 0, [])]
def KX4_report_53 : List RI := [(.aload_n 0, 1, 0, 0, []), (.getfield 69, 3, 0, 167, []), (.i2l, 1, 0, 0, []), (.lreturn, 1, 0, 0, [])]
def KX4_report_59 : List RI := [(.aload_n 0, 1, 0, 0, []), (.getfield 72, 3, 0, 168, []), (.ifCond .ge 9, 3, 0, 72, [])]
def KX4_report_66 : List RI := [(.ldc2_w 116, 3, (-1234567890123), 0, []), (.goto 8, 3, 0, 77, [])]
def KX4_report_72 : List RI := [(.aload_n 0, 1, 0, 0, []), (.getfield 72, 3, 0, 168, []), (.i2l, 1, 0, 0, [])]
def KX4_report_77 : List RI := [(.lreturn, 1, 0, 0, [])]
def KX4_report_78 : List RI := [(.iload_n 1, 1, 0, 1, []), (.bipush 10, 2, 0, 0, []), (.if_icmp .lt 26, 3, 0, 107, [])]
def KX4_report_84 : List RI := [(.iload_n 1, 1, 0, 1, []), (.bipush 10, 2, 0, 0, []), (.isub, 1, 0, 0, []), (.aload_n 0, 1, 0, 0, []), (.getfield 66, 3, 0, 166, []), (.if_icmp .ge 15, 3, 0, 107, [])]
def KX4_report_95 : List RI := [(.aload_n 0, 1, 0, 0, []), (.getfield 37, 3, 0, 157, []), (.iload_n 1, 1, 0, 1, []), (.bipush 10, 2, 0, 0, []), (.isub, 1, 0, 0, []), (.laload, 1, 0, 0, []), (.goto 6, 3, 0, 110, [])]
def KX4_report_107 : List RI := [(.ldc2_w 116, 3, (-1234567890123), 0, [])]
def KX4_report_110 : List RI := [(.lreturn, 1, 0, 0, [])]
def KX4_report : RB := [(0, KX4_report_0), (36, KX4_report_36), (41, KX4_report_41), (47, KX4_report_47), (53, KX4_report_53), (59, KX4_report_59), (66, KX4_report_66), (72, KX4_report_72), (77, KX4_report_77), (78, KX4_report_78), (84, KX4_report_84), (95, KX4_report_95), (107, KX4_report_107), (110, KX4_report_110)]
def rX4_report : CmC := (yX4_report, cX4_report, 2, (some .long), 1, 5, false)
theorem hX4_report : mtC[90]? = some rX4_report := rfl
set_option maxRecDepth 100000 in
theorem swX4_report_1 : decode cX4_report 1 = .ok (.tableswitch 77 0 4 #[35, 40, 46, 52, 58], 35) := by sorry
set_option maxRecDepth 100000 in
theorem okX4_report : cokMC rX4_report KX4_report = true := by sorry
def KX4_push_0 : List RI := [(.aload_n 0, 1, 0, 0, []), (.getfield 57, 3, 0, 162, []), (.aload_n 0, 1, 0, 0, []), (.getfield 15, 3, 0, 151, []), (.arraylength, 1, 0, 0, []), (.if_icmp .ge 23, 3, 0, 32, [])]
def KX4_push_12 : List RI := [(.aload_n 0, 1, 0, 0, []), (.getfield 15, 3, 0, 151, []), (.aload_n 0, 1, 0, 0, []), (.getfield 57, 3, 0, 162, []), (.lload_n 1, 1, 0, 1, []), (.lastore, 1, 0, 0, []), (.aload_n 0, 1, 0, 0, []), (.dup, 1, 0, 0, []), (.getfield 57, 3, 0, 162, []), (.iconst 1, 1, 0, 0, []), (.iadd, 1, 0, 0, []), (.putfield 57, 3, 0, 162, [])]
def KX4_push_32 : List RI := [(.return_, 1, 0, 0, [])]
def KX4_push : RB := [(0, KX4_push_0), (12, KX4_push_12), (32, KX4_push_32)]
def rX4_push : CmC := (yX4_push, cX4_push, 3, none, 1, 5, false)
theorem hX4_push : mtC[91]? = some rX4_push := rfl
set_option maxRecDepth 100000 in
theorem okX4_push : cokMC rX4_push KX4_push = true := by sorry
def KX4_pop_0 : List RI := [(.aload_n 0, 1, 0, 0, []), (.getfield 57, 3, 0, 162, []), (.ifCond .gt 5, 3, 0, 9, [])]
def KX4_pop_7 : List RI := [(.lconst 0, 1, 0, 0, []), (.lreturn, 1, 0, 0, [])]
def KX4_pop_9 : List RI := [(.aload_n 0, 1, 0, 0, []), (.dup, 1, 0, 0, []), (.getfield 57, 3, 0, 162, []), (.iconst 1, 1, 0, 0, []), (.isub, 1, 0, 0, []), (.putfield 57, 3, 0, 162, []), (.aload_n 0, 1, 0, 0, []), (.getfield 15, 3, 0, 151, []), (.aload_n 0, 1, 0, 0, []), (.getfield 57, 3, 0, 162, []), (.laload, 1, 0, 0, []), (.lreturn, 1, 0, 0, [])]
def KX4_pop : RB := [(0, KX4_pop_0), (7, KX4_pop_7), (9, KX4_pop_9)]
def rX4_pop : CmC := (yX4_pop, cX4_pop, 1, (some .long), 0, 5, false)
theorem hX4_pop : mtC[92]? = some rX4_pop := rfl
set_option maxRecDepth 100000 in
theorem okX4_pop : cokMC rX4_pop KX4_pop = true := by sorry
def KX4_slot_0 : List RI := [(.aload_n 0, 1, 0, 0, []), (.getfield 60, 3, 0, 163, []), (.iconst 1, 1, 0, 0, []), (.isub, 1, 0, 0, []), (.bipush 60, 2, 0, 0, []), (.imul, 1, 0, 0, []), (.iload_n 1, 1, 0, 1, []), (.iadd, 1, 0, 0, []), (.istore_n 2, 1, 0, 2, []), (.iload_n 2, 1, 0, 2, []), (.ifCond .lt 16, 3, 0, 29, [])]
def KX4_slot_16 : List RI := [(.iload_n 2, 1, 0, 2, []), (.aload_n 0, 1, 0, 0, []), (.getfield 9, 3, 0, 150, []), (.arraylength, 1, 0, 0, []), (.if_icmp .ge 7, 3, 0, 29, [])]
def KX4_slot_25 : List RI := [(.iload_n 2, 1, 0, 2, []), (.goto 4, 3, 0, 30, [])]
def KX4_slot_29 : List RI := [(.iconst 0, 1, 0, 0, [])]
def KX4_slot_30 : List RI := [(.ireturn, 1, 1, 0, [])]
def KX4_slot : RB := [(0, KX4_slot_0), (16, KX4_slot_16), (25, KX4_slot_25), (29, KX4_slot_29), (30, KX4_slot_30)]
def rX4_slot : CmC := (yX4_slot, cX4_slot, 3, (some .int), 1, 5, false)
theorem hX4_slot : mtC[93]? = some rX4_slot := rfl
set_option maxRecDepth 100000 in
theorem okX4_slot : cokMC rX4_slot KX4_slot = true := by sorry
def KX4_step_0 : List RI := [(.aload_n 0, 1, 0, 0, []), (.getfield 63, 3, 0, 165, []), (.aload_n 0, 1, 0, 0, []), (.getfield 82, 3, 0, 164, []), (.if_icmp .lt 10, 3, 0, 18, [])]
def KX4_step_11 : List RI := [(.aload_n 0, 1, 0, 0, []), (.iconst 3, 1, 0, 0, []), (.putfield 79, 3, 0, 169, []), (.iconst 0, 1, 0, 0, []), (.ireturn, 1, 2, 0, [])]
def KX4_step_18 : List RI := [(.aload_n 0, 1, 0, 0, []), (.dup, 1, 0, 0, []), (.getfield 63, 3, 0, 165, []), (.iconst 1, 1, 0, 0, []), (.iadd, 1, 0, 0, []), (.putfield 63, 3, 0, 165, []), (.iconst 1, 1, 0, 0, []), (.ireturn, 1, 2, 0, [])]
def KX4_step : RB := [(0, KX4_step_0), (11, KX4_step_11), (18, KX4_step_18)]
def rX4_step : CmC := (yX4_step, cX4_step, 1, (some .boolean), 0, 5, false)
theorem hX4_step : mtC[94]? = some rX4_step := rfl
set_option maxRecDepth 100000 in
theorem okX4_step : cokMC rX4_step KX4_step = true := by sorry
def KX4_obey_0 : List RI := [(.aload_n 0, 1, 0, 0, []), (.getfield 118, 3, 0, 161, []), (.ifCond .lt 17, 3, 0, 21, [])]
def KX4_obey_7 : List RI := [(.aload_n 0, 1, 0, 0, []), (.getfield 118, 3, 0, 161, []), (.aload_n 0, 1, 0, 0, []), (.getfield 43, 3, 0, 158, []), (.getfield 121, 3, 0, 34, []), (.if_icmp .lt 9, 3, 0, 27, [])]
def KX4_obey_21 : List RI := [(.aload_n 0, 1, 0, 0, []), (.iconst 0, 1, 0, 0, []), (.putfield 79, 3, 0, 169, []), (.return_, 1, 0, 0, [])]
def KX4_obey_27 : List RI := [(.aload_n 0, 1, 0, 0, []), (.getfield 118, 3, 0, 161, []), (.istore_n 1, 1, 0, 1, []), (.aload_n 0, 1, 0, 0, []), (.dup, 1, 0, 0, []), (.getfield 118, 3, 0, 161, []), (.iconst 1, 1, 0, 0, []), (.iadd, 1, 0, 0, []), (.putfield 118, 3, 0, 161, []), (.aload_n 0, 1, 0, 0, []), (.getfield 43, 3, 0, 158, []), (.getfield 126, 3, 0, 32, []), (.iload_n 1, 1, 0, 1, []), (.aaload, 1, 0, 0, []), (.astore_n 2, 1, 0, 2, []), (.aload_n 0, 1, 0, 0, []), (.getfield 43, 3, 0, 158, []), (.getfield 130, 3, 0, 30, []), (.iload_n 1, 1, 0, 1, []), (.iaload, 1, 0, 0, []), (.bipush 8, 2, 0, 0, []), (.if_icmp .gt 58, 3, 0, 121, [])]
def KX4_obey_66 : List RI := [(.aload_n 2, 1, 0, 2, []), (.ifnull 54, 3, 0, 121, [])]
def KX4_obey_70 : List RI := [(.aload_n 0, 1, 0, 0, []), (.aload_n 0, 1, 0, 0, []), (.getfield 43, 3, 0, 158, []), (.getfield 130, 3, 0, 30, []), (.iload_n 1, 1, 0, 1, []), (.iaload, 1, 0, 0, []), (.aload_n 2, 1, 0, 2, []), (.invokevirtual 133, 3, 2, 96, [(0, 0), (0, 0), (0, 0), (0, 0), (0, 0)]), (.aload_n 0, 1, 0, 0, []), (.getfield 79, 3, 0, 169, []), (.bipush 7, 2, 0, 0, []), (.if_icmp .ne 104, 3, 0, 194, [])]
def KX4_obey_93 : List RI := [(.aload_n 0, 1, 0, 0, []), (.bipush 6, 2, 0, 0, []), (.putfield 79, 3, 0, 169, []), (.aload_n 0, 1, 0, 0, []), (.bipush 67, 2, 0, 0, []), (.ldc2_w 137, 3, (-1), 0, []), (.aload_n 0, 1, 0, 0, []), (.getfield 43, 3, 0, 158, []), (.getfield 139, 3, 0, 33, []), (.iload_n 1, 1, 0, 1, []), (.aaload, 1, 0, 0, []), (.aconst_null, 1, 0, 0, []), (.invokevirtual 142, 3, 4, 108, [(0, 0), (0, 0), (0, 0), (0, 0), (0, 0)]), (.goto 76, 3, 0, 194, [])]
def KX4_obey_121 : List RI := [(.aload_n 0, 1, 0, 0, []), (.getfield 43, 3, 0, 158, []), (.getfield 130, 3, 0, 30, []), (.iload_n 1, 1, 0, 1, []), (.iaload, 1, 0, 0, []), (.bipush 14, 2, 0, 0, []), (.if_icmp .gt 28, 3, 0, 160, [])]
def KX4_obey_135 : List RI := [(.aload_n 0, 1, 0, 0, []), (.aload_n 0, 1, 0, 0, []), (.getfield 43, 3, 0, 158, []), (.getfield 130, 3, 0, 30, []), (.iload_n 1, 1, 0, 1, []), (.iaload, 1, 0, 0, []), (.aload_n 0, 1, 0, 0, []), (.getfield 43, 3, 0, 158, []), (.getfield 146, 3, 0, 31, []), (.iload_n 1, 1, 0, 1, []), (.iaload, 1, 0, 0, []), (.invokevirtual 149, 3, 2, 104, [(0, 0), (0, 0), (0, 0), (0, 0), (0, 0)]), (.goto 37, 3, 0, 194, [])]
def KX4_obey_160 : List RI := [(.aload_n 0, 1, 0, 0, []), (.getfield 43, 3, 0, 158, []), (.getfield 139, 3, 0, 33, []), (.iload_n 1, 1, 0, 1, []), (.aaload, 1, 0, 0, []), (.ifnull 25, 3, 0, 194, [])]
def KX4_obey_172 : List RI := [(.aload_n 0, 1, 0, 0, []), (.aload_n 0, 1, 0, 0, []), (.getfield 43, 3, 0, 158, []), (.getfield 130, 3, 0, 30, []), (.iload_n 1, 1, 0, 1, []), (.iaload, 1, 0, 0, []), (.aload_n 0, 1, 0, 0, []), (.getfield 43, 3, 0, 158, []), (.getfield 139, 3, 0, 33, []), (.iload_n 1, 1, 0, 1, []), (.aaload, 1, 0, 0, []), (.invokevirtual 153, 3, 2, 105, [(0, 0), (0, 0), (0, 0), (0, 0), (0, 0)])]
def KX4_obey_194 : List RI := [(.return_, 1, 0, 0, [])]
def KX4_obey : RB := [(0, KX4_obey_0), (7, KX4_obey_7), (21, KX4_obey_21), (27, KX4_obey_27), (66, KX4_obey_66), (70, KX4_obey_70), (93, KX4_obey_93), (121, KX4_obey_121), (135, KX4_obey_135), (160, KX4_obey_160), (172, KX4_obey_172), (194, KX4_obey_194)]
def rX4_obey : CmC := (yX4_obey, cX4_obey, 3, none, 0, 5, false)
theorem hX4_obey : mtC[95]? = some rX4_obey := rfl
set_option maxRecDepth 100000 in
theorem okX4_obey : cokMC rX4_obey KX4_obey = true := by sorry
def KX4_work_0 : List RI := [(.iload_n 1, 1, 0, 1, []), (.tableswitch 164 0 8 #[51, 62, 164, 82, 104, 130, 122, 148, 156], 51, 0, 165, [(0, 52), (1, 63), (2, 165), (3, 83), (4, 105), (5, 131), (6, 123), (7, 149), (8, 157)])]
def KX4_work_52 : List RI := [(.aload_n 0, 1, 0, 0, []), (.aload_n 2, 1, 0, 2, []), (.getfield 157, 3, 0, 71, []), (.invokevirtual 97, 3, 1, 91, [(0, 0), (0, 0), (0, 0), (0, 0), (0, 0)]), (.goto 105, 3, 0, 165, [])]
def KX4_work_63 : List RI := [(.aload_n 0, 1, 0, 0, []), (.aload_n 0, 1, 0, 0, []), (.getfield 9, 3, 0, 150, []), (.aload_n 0, 1, 0, 0, []), (.aload_n 2, 1, 0, 2, []), (.getfield 162, 3, 0, 67, []), (.invokevirtual 165, 3, 1, 93, [(0, 0), (0, 0), (0, 0), (0, 0), (0, 0)]), (.laload, 1, 0, 0, []), (.invokevirtual 97, 3, 1, 91, [(0, 0), (0, 0), (0, 0), (0, 0), (0, 0)]), (.goto 85, 3, 0, 165, [])]
def KX4_work_83 : List RI := [(.aload_n 0, 1, 0, 0, []), (.aload_n 2, 1, 0, 2, []), (.getfield 169, 3, 0, 61, []), (.aload_n 2, 1, 0, 2, []), (.getfield 172, 3, 0, 68, []), (.aload_n 0, 1, 0, 0, []), (.invokevirtual 173, 3, 0, 92, [(0, 0), (0, 0), (0, 0), (0, 0), (0, 0)]), (.invokestatic 177, 3, 3, 232, []), (.invokevirtual 97, 3, 1, 91, [(0, 0), (0, 0), (0, 0), (0, 0), (0, 0)]), (.goto 63, 3, 0, 165, [])]
def KX4_work_105 : List RI := [(.aload_n 0, 1, 0, 0, []), (.aload_n 2, 1, 0, 2, []), (.getfield 172, 3, 0, 68, []), (.aload_n 0, 1, 0, 0, []), (.invokevirtual 173, 3, 0, 92, [(0, 0), (0, 0), (0, 0), (0, 0), (0, 0)]), (.invokestatic 93, 3, 2, 228, []), (.invokevirtual 97, 3, 1, 91, [(0, 0), (0, 0), (0, 0), (0, 0), (0, 0)]), (.goto 45, 3, 0, 165, [])]
def KX4_work_123 : List RI := [(.aload_n 0, 1, 0, 0, []), (.aload_n 2, 1, 0, 2, []), (.invokevirtual 181, 3, 1, 98, [(0, 0), (0, 0), (0, 0), (0, 0), (0, 0)]), (.goto 37, 3, 0, 165, [])]
def KX4_work_131 : List RI := [(.aload_n 0, 1, 0, 0, []), (.invokevirtual 173, 3, 0, 92, [(0, 0), (0, 0), (0, 0), (0, 0), (0, 0)]), (.lstore_n 3, 1, 0, 3, []), (.aload_n 0, 1, 0, 0, []), (.aload_n 2, 1, 0, 2, []), (.aload_n 0, 1, 0, 0, []), (.invokevirtual 173, 3, 0, 92, [(0, 0), (0, 0), (0, 0), (0, 0), (0, 0)]), (.lload_n 3, 1, 0, 3, []), (.invokevirtual 185, 3, 3, 97, [(0, 0), (0, 0), (0, 0), (0, 0), (0, 0)]), (.goto 19, 3, 0, 165, [])]
def KX4_work_149 : List RI := [(.aload_n 0, 1, 0, 0, []), (.aload_n 2, 1, 0, 2, []), (.invokevirtual 189, 3, 1, 99, [(0, 0), (0, 0), (0, 0), (0, 0), (0, 0)]), (.goto 11, 3, 0, 165, [])]
def KX4_work_157 : List RI := [(.aload_n 0, 1, 0, 0, []), (.aload_n 2, 1, 0, 2, []), (.invokevirtual 192, 3, 1, 100, [(0, 0), (0, 0), (0, 0), (0, 0), (0, 0)]), (.goto 3, 3, 0, 165, [])]
def KX4_work_165 : List RI := [(.return_, 1, 0, 0, [])]
def KX4_work : RB := [(0, KX4_work_0), (52, KX4_work_52), (63, KX4_work_63), (83, KX4_work_83), (105, KX4_work_105), (123, KX4_work_123), (131, KX4_work_131), (149, KX4_work_149), (157, KX4_work_157), (165, KX4_work_165)]
def rX4_work : CmC := (yX4_work, cX4_work, 5, none, 2, 5, false)
theorem hX4_work : mtC[96]? = some rX4_work := rfl
set_option maxRecDepth 100000 in
theorem swX4_work_1 : decode cX4_work 1 = .ok (.tableswitch 164 0 8 #[51, 62, 164, 82, 104, 130, 122, 148, 156], 51) := by sorry
set_option maxRecDepth 100000 in
theorem okX4_work : cokMC rX4_work KX4_work = true := by sorry
def KX4_operate_0 : List RI := [(.aload_n 1, 1, 0, 1, []), (.getfield 169, 3, 0, 61, []), (.invokestatic 195, 3, 1, 227, []), (.ifCond .eq 19, 3, 0, 26, [])]
def KX4_operate_10 : List RI := [(.lload 4, 2, 0, 0, []), (.lconst 0, 1, 0, 0, []), (.lcmp, 1, 0, 0, []), (.ifCond .ne 12, 3, 0, 26, [])]
def KX4_operate_17 : List RI := [(.aload_n 0, 1, 0, 0, []), (.bipush 7, 2, 0, 0, []), (.putfield 79, 3, 0, 169, []), (.goto 21, 3, 0, 44, [])]
def KX4_operate_26 : List RI := [(.aload_n 0, 1, 0, 0, []), (.aload_n 1, 1, 0, 1, []), (.getfield 169, 3, 0, 61, []), (.aload_n 1, 1, 0, 1, []), (.getfield 199, 3, 0, 69, []), (.lload_n 2, 1, 0, 2, []), (.lload 4, 2, 0, 0, []), (.invokestatic 201, 3, 4, 229, []), (.invokevirtual 97, 3, 1, 91, [(0, 0), (0, 0), (0, 0), (0, 0), (0, 0)])]
def KX4_operate_44 : List RI := [(.return_, 1, 0, 0, [])]
def KX4_operate : RB := [(0, KX4_operate_0), (10, KX4_operate_10), (17, KX4_operate_17), (26, KX4_operate_26), (44, KX4_operate_44)]
def rX4_operate : CmC := (yX4_operate, cX4_operate, 6, none, 3, 5, false)
theorem hX4_operate : mtC[97]? = some rX4_operate := rfl
set_option maxRecDepth 100000 in
theorem okX4_operate : cokMC rX4_operate KX4_operate = true := by sorry
def KX4_count_0 : List RI := [(.aload_n 0, 1, 0, 0, []), (.aload_n 1, 1, 0, 1, []), (.getfield 162, 3, 0, 67, []), (.invokevirtual 165, 3, 1, 93, [(0, 0), (0, 0), (0, 0), (0, 0), (0, 0)]), (.istore_n 2, 1, 0, 2, []), (.aload_n 0, 1, 0, 0, []), (.getfield 9, 3, 0, 150, []), (.iload_n 2, 1, 0, 2, []), (.laload, 1, 0, 0, []), (.lstore_n 3, 1, 0, 3, []), (.aload_n 0, 1, 0, 0, []), (.getfield 9, 3, 0, 150, []), (.iload_n 2, 1, 0, 2, []), (.aload_n 1, 1, 0, 1, []), (.getfield 172, 3, 0, 68, []), (.aload_n 1, 1, 0, 1, []), (.getfield 169, 3, 0, 61, []), (.bipush 41, 2, 0, 0, []), (.if_icmp .ne 9, 3, 0, 40, [])]
def KX4_count_34 : List RI := [(.lload_n 3, 1, 0, 3, []), (.lconst 1, 1, 0, 0, []), (.ladd, 1, 0, 0, []), (.goto 6, 3, 0, 43, [])]
def KX4_count_40 : List RI := [(.lload_n 3, 1, 0, 3, []), (.lconst 1, 1, 0, 0, []), (.lsub, 1, 0, 0, [])]
def KX4_count_43 : List RI := [(.invokestatic 93, 3, 2, 228, []), (.lastore, 1, 0, 0, []), (.aload_n 0, 1, 0, 0, []), (.aload_n 1, 1, 0, 1, []), (.getfield 205, 3, 0, 66, []), (.aload_n 1, 1, 0, 1, []), (.getfield 208, 3, 0, 62, []), (.if_icmp .ne 7, 3, 0, 63, [])]
def KX4_count_59 : List RI := [(.lload_n 3, 1, 0, 3, []), (.goto 9, 3, 0, 69, [])]
def KX4_count_63 : List RI := [(.aload_n 0, 1, 0, 0, []), (.getfield 9, 3, 0, 150, []), (.iload_n 2, 1, 0, 2, []), (.laload, 1, 0, 0, [])]
def KX4_count_69 : List RI := [(.invokevirtual 97, 3, 1, 91, [(0, 0), (0, 0), (0, 0), (0, 0), (0, 0)]), (.return_, 1, 0, 0, [])]
def KX4_count : RB := [(0, KX4_count_0), (34, KX4_count_34), (40, KX4_count_40), (43, KX4_count_43), (59, KX4_count_59), (63, KX4_count_63), (69, KX4_count_69)]
def rX4_count : CmC := (yX4_count, cX4_count, 5, none, 1, 5, false)
theorem hX4_count : mtC[98]? = some rX4_count := rfl
set_option maxRecDepth 100000 in
theorem okX4_count : cokMC rX4_count KX4_count = true := by sorry
def KX4_assign_0 : List RI := [(.aload_n 0, 1, 0, 0, []), (.invokevirtual 173, 3, 0, 92, [(0, 0), (0, 0), (0, 0), (0, 0), (0, 0)]), (.lstore_n 2, 1, 0, 2, []), (.aload_n 1, 1, 0, 1, []), (.getfield 169, 3, 0, 61, []), (.bipush 8, 2, 0, 0, []), (.if_icmp .ne 23, 3, 0, 34, [])]
def KX4_assign_14 : List RI := [(.aload_n 0, 1, 0, 0, []), (.getfield 9, 3, 0, 150, []), (.aload_n 0, 1, 0, 0, []), (.aload_n 1, 1, 0, 1, []), (.getfield 162, 3, 0, 67, []), (.invokevirtual 165, 3, 1, 93, [(0, 0), (0, 0), (0, 0), (0, 0), (0, 0)]), (.lload_n 2, 1, 0, 2, []), (.lastore, 1, 0, 0, []), (.aload_n 0, 1, 0, 0, []), (.lload_n 2, 1, 0, 2, []), (.invokevirtual 97, 3, 1, 91, [(0, 0), (0, 0), (0, 0), (0, 0), (0, 0)]), (.return_, 1, 0, 0, [])]
def KX4_assign_34 : List RI := [(.aload_n 0, 1, 0, 0, []), (.invokevirtual 173, 3, 0, 92, [(0, 0), (0, 0), (0, 0), (0, 0), (0, 0)]), (.lstore 4, 2, 0, 0, []), (.aload_n 1, 1, 0, 1, []), (.getfield 169, 3, 0, 61, []), (.invokestatic 195, 3, 1, 227, []), (.ifCond .eq 16, 3, 0, 63, [])]
def KX4_assign_50 : List RI := [(.lload_n 2, 1, 0, 2, []), (.lconst 0, 1, 0, 0, []), (.lcmp, 1, 0, 0, []), (.ifCond .ne 10, 3, 0, 63, [])]
def KX4_assign_56 : List RI := [(.aload_n 0, 1, 0, 0, []), (.bipush 7, 2, 0, 0, []), (.putfield 79, 3, 0, 169, []), (.return_, 1, 0, 0, [])]
def KX4_assign_63 : List RI := [(.aload_n 1, 1, 0, 1, []), (.getfield 172, 3, 0, 68, []), (.aload_n 1, 1, 0, 1, []), (.getfield 169, 3, 0, 61, []), (.aload_n 1, 1, 0, 1, []), (.getfield 199, 3, 0, 69, []), (.lload 4, 2, 0, 0, []), (.lload_n 2, 1, 0, 2, []), (.invokestatic 201, 3, 4, 229, []), (.invokestatic 93, 3, 2, 228, []), (.lstore 6, 2, 0, 0, []), (.aload_n 0, 1, 0, 0, []), (.getfield 9, 3, 0, 150, []), (.aload_n 0, 1, 0, 0, []), (.aload_n 1, 1, 0, 1, []), (.getfield 162, 3, 0, 67, []), (.invokevirtual 165, 3, 1, 93, [(0, 0), (0, 0), (0, 0), (0, 0), (0, 0)]), (.lload 6, 2, 0, 0, []), (.lastore, 1, 0, 0, []), (.aload_n 0, 1, 0, 0, []), (.lload 6, 2, 0, 0, []), (.invokevirtual 97, 3, 1, 91, [(0, 0), (0, 0), (0, 0), (0, 0), (0, 0)]), (.return_, 1, 0, 0, [])]
def KX4_assign : RB := [(0, KX4_assign_0), (14, KX4_assign_14), (34, KX4_assign_34), (50, KX4_assign_50), (56, KX4_assign_56), (63, KX4_assign_63)]
def rX4_assign : CmC := (yX4_assign, cX4_assign, 8, none, 1, 5, false)
theorem hX4_assign : mtC[99]? = some rX4_assign := rfl
set_option maxRecDepth 100000 in
theorem okX4_assign : cokMC rX4_assign KX4_assign = true := by sorry
def KX4_call_0 : List RI := [(.aload_n 0, 1, 0, 0, []), (.getfield 43, 3, 0, 158, []), (.getfield 211, 3, 0, 35, []), (.aload_n 1, 1, 0, 1, []), (.getfield 162, 3, 0, 67, []), (.invokevirtual 215, 3, 1, 119, [(0, 0), (0, 0), (0, 0), (0, 0), (0, 0), (0, 0), (0, 0)]), (.astore_n 2, 1, 0, 2, []), (.aload_n 2, 1, 0, 2, []), (.ifnull 10, 3, 0, 26, [])]
def KX4_call_19 : List RI := [(.aload_n 0, 1, 0, 0, []), (.invokevirtual 101, 3, 0, 94, [(0, 0), (0, 0), (0, 0), (0, 0), (0, 0)]), (.ifCond .ne 4, 3, 0, 27, [])]
def KX4_call_26 : List RI := [(.return_, 1, 0, 0, [])]
def KX4_call_27 : List RI := [(.aload_n 1, 1, 0, 1, []), (.getfield 162, 3, 0, 67, []), (.bipush 10, 2, 0, 0, []), (.if_icmp .eq 20, 3, 0, 53, [])]
def KX4_call_36 : List RI := [(.aload_n 1, 1, 0, 1, []), (.getfield 162, 3, 0, 67, []), (.bipush 11, 2, 0, 0, []), (.if_icmp .eq 11, 3, 0, 53, [])]
def KX4_call_45 : List RI := [(.aload_n 0, 1, 0, 0, []), (.aload_n 2, 1, 0, 2, []), (.invokevirtual 105, 3, 1, 102, [(0, 0), (0, 0), (0, 0), (0, 0), (0, 0)]), (.goto 79, 3, 0, 129, [])]
def KX4_call_53 : List RI := [(.aload_n 0, 1, 0, 0, []), (.getfield 60, 3, 0, 163, []), (.bipush 30, 2, 0, 0, []), (.if_icmp .lt 11, 3, 0, 70, [])]
def KX4_call_62 : List RI := [(.aload_n 0, 1, 0, 0, []), (.iconst 4, 1, 0, 0, []), (.putfield 79, 3, 0, 169, []), (.goto 62, 3, 0, 129, [])]
def KX4_call_70 : List RI := [(.aload_n 1, 1, 0, 1, []), (.getfield 162, 3, 0, 67, []), (.bipush 10, 2, 0, 0, []), (.if_icmp .ne 14, 3, 0, 90, [])]
def KX4_call_79 : List RI := [(.aload_n 0, 1, 0, 0, []), (.aload_n 0, 1, 0, 0, []), (.invokevirtual 173, 3, 0, 92, [(0, 0), (0, 0), (0, 0), (0, 0), (0, 0)]), (.invokevirtual 221, 3, 1, 101, [(0, 0), (0, 0), (0, 0), (0, 0), (0, 0)]), (.goto 42, 3, 0, 129, [])]
def KX4_call_90 : List RI := [(.aload_n 0, 1, 0, 0, []), (.aload_n 0, 1, 0, 0, []), (.getfield 69, 3, 0, 167, []), (.aload_n 0, 1, 0, 0, []), (.getfield 53, 3, 0, 160, []), (.if_icmp .ge 16, 3, 0, 115, [])]
def KX4_call_102 : List RI := [(.aload_n 0, 1, 0, 0, []), (.getfield 40, 3, 0, 159, []), (.aload_n 0, 1, 0, 0, []), (.getfield 69, 3, 0, 167, []), (.iaload, 1, 0, 0, []), (.i2l, 1, 0, 0, []), (.goto 4, 3, 0, 116, [])]
def KX4_call_115 : List RI := [(.lconst 0, 1, 0, 0, [])]
def KX4_call_116 : List RI := [(.invokevirtual 97, 3, 1, 91, [(0, 0), (0, 0), (0, 0), (0, 0), (0, 0)]), (.aload_n 0, 1, 0, 0, []), (.dup, 1, 0, 0, []), (.getfield 69, 3, 0, 167, []), (.iconst 1, 1, 0, 0, []), (.iadd, 1, 0, 0, []), (.putfield 69, 3, 0, 167, [])]
def KX4_call_129 : List RI := [(.return_, 1, 0, 0, [])]
def KX4_call : RB := [(0, KX4_call_0), (19, KX4_call_19), (26, KX4_call_26), (27, KX4_call_27), (36, KX4_call_36), (45, KX4_call_45), (53, KX4_call_53), (62, KX4_call_62), (70, KX4_call_70), (79, KX4_call_79), (90, KX4_call_90), (102, KX4_call_102), (115, KX4_call_115), (116, KX4_call_116), (129, KX4_call_129)]
def rX4_call : CmC := (yX4_call, cX4_call, 3, none, 1, 5, false)
theorem hX4_call : mtC[100]? = some rX4_call := rfl
set_option maxRecDepth 100000 in
theorem okX4_call : cokMC rX4_call KX4_call = true := by sorry
def KX4_tellNumber_0 : List RI := [(.aload_n 0, 1, 0, 0, []), (.getfield 66, 3, 0, 166, []), (.sipush 200, 3, 0, 0, []), (.if_icmp .lt 9, 3, 0, 16, [])]
def KX4_tellNumber_10 : List RI := [(.aload_n 0, 1, 0, 0, []), (.iconst 5, 1, 0, 0, []), (.putfield 79, 3, 0, 169, []), (.return_, 1, 0, 0, [])]
def KX4_tellNumber_16 : List RI := [(.aload_n 0, 1, 0, 0, []), (.getfield 37, 3, 0, 157, []), (.aload_n 0, 1, 0, 0, []), (.getfield 66, 3, 0, 166, []), (.lload_n 1, 1, 0, 1, []), (.lastore, 1, 0, 0, []), (.aload_n 0, 1, 0, 0, []), (.dup, 1, 0, 0, []), (.getfield 66, 3, 0, 166, []), (.iconst 1, 1, 0, 0, []), (.iadd, 1, 0, 0, []), (.putfield 66, 3, 0, 166, []), (.aload_n 0, 1, 0, 0, []), (.lconst 0, 1, 0, 0, []), (.invokevirtual 97, 3, 1, 91, [(0, 0), (0, 0), (0, 0), (0, 0), (0, 0)]), (.return_, 1, 0, 0, [])]
def KX4_tellNumber : RB := [(0, KX4_tellNumber_0), (10, KX4_tellNumber_10), (16, KX4_tellNumber_16)]
def rX4_tellNumber : CmC := (yX4_tellNumber, cX4_tellNumber, 3, none, 1, 5, false)
theorem hX4_tellNumber : mtC[101]? = some rX4_tellNumber := rfl
set_option maxRecDepth 100000 in
theorem okX4_tellNumber : cokMC rX4_tellNumber KX4_tellNumber = true := by sorry
def KX4_enter_0 : List RI := [(.aload_n 0, 1, 0, 0, []), (.getfield 60, 3, 0, 163, []), (.bipush 30, 2, 0, 0, []), (.if_icmp .lt 9, 3, 0, 15, [])]
def KX4_enter_9 : List RI := [(.aload_n 0, 1, 0, 0, []), (.iconst 4, 1, 0, 0, []), (.putfield 79, 3, 0, 169, []), (.return_, 1, 0, 0, [])]
def KX4_enter_15 : List RI := [(.aload_n 0, 1, 0, 0, []), (.getfield 22, 3, 0, 153, []), (.aload_n 0, 1, 0, 0, []), (.getfield 60, 3, 0, 163, []), (.aload_n 0, 1, 0, 0, []), (.getfield 118, 3, 0, 161, []), (.iastore, 1, 0, 0, []), (.aload_n 0, 1, 0, 0, []), (.dup, 1, 0, 0, []), (.getfield 60, 3, 0, 163, []), (.iconst 1, 1, 0, 0, []), (.iadd, 1, 0, 0, []), (.putfield 60, 3, 0, 163, []), (.aload_n 1, 1, 0, 1, []), (.getfield 85, 3, 0, 185, []), (.iconst 1, 1, 0, 0, []), (.isub, 1, 0, 0, []), (.istore_n 2, 1, 0, 2, [])]
def KX4_enter_45 : List RI := [(.iload_n 2, 1, 0, 2, []), (.ifCond .lt 28, 3, 0, 74, [])]
def KX4_enter_49 : List RI := [(.aload_n 0, 1, 0, 0, []), (.getfield 9, 3, 0, 150, []), (.aload_n 0, 1, 0, 0, []), (.aload_n 1, 1, 0, 1, []), (.getfield 224, 3, 0, 184, []), (.iload_n 2, 1, 0, 2, []), (.iadd, 1, 0, 0, []), (.invokevirtual 165, 3, 1, 93, [(0, 0), (0, 0), (0, 0), (0, 0), (0, 0)]), (.aload_n 0, 1, 0, 0, []), (.invokevirtual 173, 3, 0, 92, [(0, 0), (0, 0), (0, 0), (0, 0), (0, 0)]), (.lastore, 1, 0, 0, []), (.iinc 2 (-1), 3, 0, 0, []), (.goto (-26), 3, 0, 45, [])]
def KX4_enter_74 : List RI := [(.aload_n 0, 1, 0, 0, []), (.getfield 18, 3, 0, 152, []), (.aload_n 0, 1, 0, 0, []), (.getfield 60, 3, 0, 163, []), (.aload_n 0, 1, 0, 0, []), (.getfield 57, 3, 0, 162, []), (.iastore, 1, 0, 0, []), (.aload_n 0, 1, 0, 0, []), (.aload_n 1, 1, 0, 1, []), (.getfield 227, 3, 0, 186, []), (.getfield 231, 3, 0, 289, []), (.putfield 118, 3, 0, 161, []), (.return_, 1, 0, 0, [])]
def KX4_enter : RB := [(0, KX4_enter_0), (9, KX4_enter_9), (15, KX4_enter_15), (45, KX4_enter_45), (49, KX4_enter_49), (74, KX4_enter_74)]
def rX4_enter : CmC := (yX4_enter, cX4_enter, 3, none, 1, 5, false)
theorem hX4_enter : mtC[102]? = some rX4_enter := rfl
set_option maxRecDepth 100000 in
theorem okX4_enter : cokMC rX4_enter KX4_enter = true := by sorry
def KX4_leaveCall_0 : List RI := [(.aload_n 0, 1, 0, 0, []), (.getfield 60, 3, 0, 163, []), (.ifCond .gt 9, 3, 0, 13, [])]
def KX4_leaveCall_7 : List RI := [(.aload_n 0, 1, 0, 0, []), (.iconst 0, 1, 0, 0, []), (.putfield 79, 3, 0, 169, []), (.return_, 1, 0, 0, [])]
def KX4_leaveCall_13 : List RI := [(.aload_n 0, 1, 0, 0, []), (.aload_n 0, 1, 0, 0, []), (.getfield 18, 3, 0, 152, []), (.aload_n 0, 1, 0, 0, []), (.getfield 60, 3, 0, 163, []), (.iaload, 1, 0, 0, []), (.putfield 57, 3, 0, 162, []), (.aload_n 0, 1, 0, 0, []), (.dup, 1, 0, 0, []), (.getfield 60, 3, 0, 163, []), (.iconst 1, 1, 0, 0, []), (.isub, 1, 0, 0, []), (.putfield 60, 3, 0, 163, []), (.aload_n 0, 1, 0, 0, []), (.aload_n 0, 1, 0, 0, []), (.getfield 22, 3, 0, 153, []), (.aload_n 0, 1, 0, 0, []), (.getfield 60, 3, 0, 163, []), (.iaload, 1, 0, 0, []), (.putfield 118, 3, 0, 161, []), (.aload_n 0, 1, 0, 0, []), (.getfield 60, 3, 0, 163, []), (.ifCond .ne 16, 3, 0, 69, [])]
def KX4_leaveCall_56 : List RI := [(.aload_n 0, 1, 0, 0, []), (.iconst 0, 1, 0, 0, []), (.putfield 79, 3, 0, 169, []), (.aload_n 0, 1, 0, 0, []), (.lload_n 1, 1, 0, 1, []), (.putfield 75, 3, 0, 170, []), (.goto 8, 3, 0, 74, [])]
def KX4_leaveCall_69 : List RI := [(.aload_n 0, 1, 0, 0, []), (.lload_n 1, 1, 0, 1, []), (.invokevirtual 97, 3, 1, 91, [(0, 0), (0, 0), (0, 0), (0, 0), (0, 0)])]
def KX4_leaveCall_74 : List RI := [(.return_, 1, 0, 0, [])]
def KX4_leaveCall : RB := [(0, KX4_leaveCall_0), (7, KX4_leaveCall_7), (13, KX4_leaveCall_13), (56, KX4_leaveCall_56), (69, KX4_leaveCall_69), (74, KX4_leaveCall_74)]
def rX4_leaveCall : CmC := (yX4_leaveCall, cX4_leaveCall, 3, none, 1, 5, false)
theorem hX4_leaveCall : mtC[103]? = some rX4_leaveCall := rfl
set_option maxRecDepth 100000 in
theorem okX4_leaveCall : cokMC rX4_leaveCall KX4_leaveCall = true := by sorry
def KX4_move_0 : List RI := [(.iload_n 1, 1, 0, 1, []), (.tableswitch 140 2 12 #[59, 140, 140, 140, 140, 140, 140, 76, 84, 92, 116], 59, 0, 141, [(2, 60), (3, 141), (4, 141), (5, 141), (6, 141), (7, 141), (8, 141), (9, 77), (10, 85), (11, 93), (12, 117)])]
def KX4_move_60 : List RI := [(.aload_n 0, 1, 0, 0, []), (.getfield 9, 3, 0, 150, []), (.aload_n 0, 1, 0, 0, []), (.iload_n 2, 1, 0, 2, []), (.invokevirtual 165, 3, 1, 93, [(0, 0), (0, 0), (0, 0), (0, 0), (0, 0)]), (.aload_n 0, 1, 0, 0, []), (.invokevirtual 173, 3, 0, 92, [(0, 0), (0, 0), (0, 0), (0, 0), (0, 0)]), (.lastore, 1, 0, 0, []), (.goto 107, 3, 0, 181, [])]
def KX4_move_77 : List RI := [(.aload_n 0, 1, 0, 0, []), (.invokevirtual 173, 3, 0, 92, [(0, 0), (0, 0), (0, 0), (0, 0), (0, 0)]), (.pop2, 1, 0, 0, []), (.goto 99, 3, 0, 181, [])]
def KX4_move_85 : List RI := [(.aload_n 0, 1, 0, 0, []), (.iload_n 2, 1, 0, 2, []), (.putfield 118, 3, 0, 161, []), (.goto 91, 3, 0, 181, [])]
def KX4_move_93 : List RI := [(.aload_n 0, 1, 0, 0, []), (.aload_n 0, 1, 0, 0, []), (.invokevirtual 173, 3, 0, 92, [(0, 0), (0, 0), (0, 0), (0, 0), (0, 0)]), (.lconst 0, 1, 0, 0, []), (.lcmp, 1, 0, 0, []), (.ifCond .ne 7, 3, 0, 107, [])]
def KX4_move_103 : List RI := [(.iload_n 2, 1, 0, 2, []), (.goto 7, 3, 0, 111, [])]
def KX4_move_107 : List RI := [(.aload_n 0, 1, 0, 0, []), (.getfield 118, 3, 0, 161, [])]
def KX4_move_111 : List RI := [(.putfield 118, 3, 0, 161, []), (.goto 67, 3, 0, 181, [])]
def KX4_move_117 : List RI := [(.aload_n 0, 1, 0, 0, []), (.aload_n 0, 1, 0, 0, []), (.invokevirtual 173, 3, 0, 92, [(0, 0), (0, 0), (0, 0), (0, 0), (0, 0)]), (.lconst 0, 1, 0, 0, []), (.lcmp, 1, 0, 0, []), (.ifCond .eq 7, 3, 0, 131, [])]
def KX4_move_127 : List RI := [(.iload_n 2, 1, 0, 2, []), (.goto 7, 3, 0, 135, [])]
def KX4_move_131 : List RI := [(.aload_n 0, 1, 0, 0, []), (.getfield 118, 3, 0, 161, [])]
def KX4_move_135 : List RI := [(.putfield 118, 3, 0, 161, []), (.goto 43, 3, 0, 181, [])]
def KX4_move_141 : List RI := [(.aload_n 0, 1, 0, 0, []), (.invokevirtual 173, 3, 0, 92, [(0, 0), (0, 0), (0, 0), (0, 0), (0, 0)]), (.lstore_n 3, 1, 0, 3, []), (.lload_n 3, 1, 0, 3, []), (.lconst 0, 1, 0, 0, []), (.lcmp, 1, 0, 0, []), (.ifCond .ne 7, 3, 0, 156, [])]
def KX4_move_152 : List RI := [(.iconst 1, 1, 0, 0, []), (.goto 4, 3, 0, 157, [])]
def KX4_move_156 : List RI := [(.iconst 0, 1, 0, 0, [])]
def KX4_move_157 : List RI := [(.iload_n 1, 1, 0, 1, []), (.bipush 13, 2, 0, 0, []), (.if_icmp .ne 7, 3, 0, 167, [])]
def KX4_move_163 : List RI := [(.iconst 1, 1, 0, 0, []), (.goto 4, 3, 0, 168, [])]
def KX4_move_167 : List RI := [(.iconst 0, 1, 0, 0, [])]
def KX4_move_168 : List RI := [(.if_icmp .ne 13, 3, 0, 181, [])]
def KX4_move_171 : List RI := [(.aload_n 0, 1, 0, 0, []), (.lload_n 3, 1, 0, 3, []), (.invokevirtual 97, 3, 1, 91, [(0, 0), (0, 0), (0, 0), (0, 0), (0, 0)]), (.aload_n 0, 1, 0, 0, []), (.iload_n 2, 1, 0, 2, []), (.putfield 118, 3, 0, 161, [])]
def KX4_move_181 : List RI := [(.return_, 1, 0, 0, [])]
def KX4_move : RB := [(0, KX4_move_0), (60, KX4_move_60), (77, KX4_move_77), (85, KX4_move_85), (93, KX4_move_93), (103, KX4_move_103), (107, KX4_move_107), (111, KX4_move_111), (117, KX4_move_117), (127, KX4_move_127), (131, KX4_move_131), (135, KX4_move_135), (141, KX4_move_141), (152, KX4_move_152), (156, KX4_move_156), (157, KX4_move_157), (163, KX4_move_163), (167, KX4_move_167), (168, KX4_move_168), (171, KX4_move_171), (181, KX4_move_181)]
def rX4_move : CmC := (yX4_move, cX4_move, 5, none, 2, 5, false)
theorem hX4_move : mtC[104]? = some rX4_move := rfl
set_option maxRecDepth 100000 in
theorem swX4_move_1 : decode cX4_move 1 = .ok (.tableswitch 140 2 12 #[59, 140, 140, 140, 140, 140, 140, 76, 84, 92, 116], 59) := by sorry
set_option maxRecDepth 100000 in
theorem okX4_move : cokMC rX4_move KX4_move = true := by sorry
def KX4_control_0 : List RI := [(.iload_n 1, 1, 0, 1, []), (.tableswitch 198 15 22 #[47, 65, 73, 85, 102, 128, 143, 157], 47, 0, 199, [(15, 48), (16, 66), (17, 74), (18, 86), (19, 103), (20, 129), (21, 144), (22, 158)])]
def KX4_control_48 : List RI := [(.aload_n 0, 1, 0, 0, []), (.invokevirtual 101, 3, 0, 94, [(0, 0), (0, 0), (0, 0), (0, 0), (0, 0)]), (.ifCond .eq 152, 3, 0, 204, [])]
def KX4_control_55 : List RI := [(.aload_n 0, 1, 0, 0, []), (.aload_n 2, 1, 0, 2, []), (.getfield 234, 3, 0, 271, []), (.putfield 72, 3, 0, 168, []), (.goto 141, 3, 0, 204, [])]
def KX4_control_66 : List RI := [(.aload_n 0, 1, 0, 0, []), (.invokevirtual 101, 3, 0, 94, [(0, 0), (0, 0), (0, 0), (0, 0), (0, 0)]), (.pop, 1, 0, 0, []), (.goto 133, 3, 0, 204, [])]
def KX4_control_74 : List RI := [(.aload_n 0, 1, 0, 0, []), (.aload_n 2, 1, 0, 2, []), (.aload_n 0, 1, 0, 0, []), (.invokevirtual 173, 3, 0, 92, [(0, 0), (0, 0), (0, 0), (0, 0), (0, 0)]), (.invokevirtual 235, 3, 2, 107, [(0, 0), (0, 0), (0, 0), (0, 0), (0, 0)]), (.goto 121, 3, 0, 204, [])]
def KX4_control_86 : List RI := [(.aload_n 0, 1, 0, 0, []), (.aload_n 2, 1, 0, 2, []), (.getfield 239, 3, 0, 270, []), (.lconst 0, 1, 0, 0, []), (.aload_n 2, 1, 0, 2, []), (.aload_n 2, 1, 0, 2, []), (.getfield 242, 3, 0, 281, []), (.invokevirtual 142, 3, 4, 108, [(0, 0), (0, 0), (0, 0), (0, 0), (0, 0)]), (.goto 104, 3, 0, 204, [])]
def KX4_control_103 : List RI := [(.aload_n 0, 1, 0, 0, []), (.bipush 66, 2, 0, 0, []), (.aload_n 2, 1, 0, 2, []), (.getfield 244, 3, 0, 279, []), (.ifnonnull 7, 3, 0, 117, [])]
def KX4_control_113 : List RI := [(.lconst 0, 1, 0, 0, []), (.goto 7, 3, 0, 121, [])]
def KX4_control_117 : List RI := [(.aload_n 0, 1, 0, 0, []), (.invokevirtual 173, 3, 0, 92, [(0, 0), (0, 0), (0, 0), (0, 0), (0, 0)])]
def KX4_control_121 : List RI := [(.aload_n 2, 1, 0, 2, []), (.aconst_null, 1, 0, 0, []), (.invokevirtual 142, 3, 4, 108, [(0, 0), (0, 0), (0, 0), (0, 0), (0, 0)]), (.goto 78, 3, 0, 204, [])]
def KX4_control_129 : List RI := [(.aload_n 0, 1, 0, 0, []), (.bipush 67, 2, 0, 0, []), (.aload_n 0, 1, 0, 0, []), (.invokevirtual 173, 3, 0, 92, [(0, 0), (0, 0), (0, 0), (0, 0), (0, 0)]), (.aload_n 2, 1, 0, 2, []), (.aconst_null, 1, 0, 0, []), (.invokevirtual 142, 3, 4, 108, [(0, 0), (0, 0), (0, 0), (0, 0), (0, 0)]), (.goto 63, 3, 0, 204, [])]
def KX4_control_144 : List RI := [(.aload_n 0, 1, 0, 0, []), (.getfield 25, 3, 0, 154, []), (.aload_n 0, 1, 0, 0, []), (.aload_n 2, 1, 0, 2, []), (.invokevirtual 247, 3, 1, 106, [(0, 0), (0, 0), (0, 0), (0, 0), (0, 0)]), (.iconst 0, 1, 0, 0, []), (.iastore, 1, 0, 0, []), (.goto 49, 3, 0, 204, [])]
def KX4_control_158 : List RI := [(.aload_n 0, 1, 0, 0, []), (.aload_n 2, 1, 0, 2, []), (.invokevirtual 247, 3, 1, 106, [(0, 0), (0, 0), (0, 0), (0, 0), (0, 0)]), (.istore_n 3, 1, 0, 3, []), (.aload_n 0, 1, 0, 0, []), (.getfield 25, 3, 0, 154, []), (.iload_n 3, 1, 0, 3, []), (.iaload, 1, 0, 0, []), (.ifCond .eq 34, 3, 0, 204, [])]
def KX4_control_173 : List RI := [(.aload_n 0, 1, 0, 0, []), (.aload_n 0, 1, 0, 0, []), (.getfield 25, 3, 0, 154, []), (.iload_n 3, 1, 0, 3, []), (.iaload, 1, 0, 0, []), (.aload_n 0, 1, 0, 0, []), (.getfield 28, 3, 0, 155, []), (.iload_n 3, 1, 0, 3, []), (.laload, 1, 0, 0, []), (.aload_n 2, 1, 0, 2, []), (.aload_n 0, 1, 0, 0, []), (.getfield 33, 3, 0, 156, []), (.iload_n 3, 1, 0, 3, []), (.aaload, 1, 0, 0, []), (.invokevirtual 142, 3, 4, 108, [(0, 0), (0, 0), (0, 0), (0, 0), (0, 0)]), (.goto 8, 3, 0, 204, [])]
def KX4_control_199 : List RI := [(.aload_n 0, 1, 0, 0, []), (.lconst 0, 1, 0, 0, []), (.invokevirtual 251, 3, 1, 103, [(0, 0), (0, 0), (0, 0), (0, 0), (0, 0)])]
def KX4_control_204 : List RI := [(.return_, 1, 0, 0, [])]
def KX4_control : RB := [(0, KX4_control_0), (48, KX4_control_48), (55, KX4_control_55), (66, KX4_control_66), (74, KX4_control_74), (86, KX4_control_86), (103, KX4_control_103), (113, KX4_control_113), (117, KX4_control_117), (121, KX4_control_121), (129, KX4_control_129), (144, KX4_control_144), (158, KX4_control_158), (173, KX4_control_173), (199, KX4_control_199), (204, KX4_control_204)]
def rX4_control : CmC := (yX4_control, cX4_control, 4, none, 2, 5, false)
theorem hX4_control : mtC[105]? = some rX4_control := rfl
set_option maxRecDepth 100000 in
theorem swX4_control_1 : decode cX4_control 1 = .ok (.tableswitch 198 15 22 #[47, 65, 73, 85, 102, 128, 143, 157], 47) := by sorry
set_option maxRecDepth 100000 in
theorem okX4_control : cokMC rX4_control KX4_control = true := by sorry
def KX4_way_0 : List RI := [(.aload_n 0, 1, 0, 0, []), (.getfield 60, 3, 0, 163, []), (.iconst 1, 1, 0, 0, []), (.isub, 1, 0, 0, []), (.bipush 21, 2, 0, 0, []), (.imul, 1, 0, 0, []), (.aload_n 1, 1, 0, 1, []), (.getfield 254, 3, 0, 272, []), (.iadd, 1, 0, 0, []), (.istore_n 2, 1, 0, 2, []), (.iload_n 2, 1, 0, 2, []), (.ifCond .lt 16, 3, 0, 32, [])]
def KX4_way_19 : List RI := [(.iload_n 2, 1, 0, 2, []), (.aload_n 0, 1, 0, 0, []), (.getfield 25, 3, 0, 154, []), (.arraylength, 1, 0, 0, []), (.if_icmp .ge 7, 3, 0, 32, [])]
def KX4_way_28 : List RI := [(.iload_n 2, 1, 0, 2, []), (.goto 4, 3, 0, 33, [])]
def KX4_way_32 : List RI := [(.iconst 0, 1, 0, 0, [])]
def KX4_way_33 : List RI := [(.ireturn, 1, 1, 0, [])]
def KX4_way : RB := [(0, KX4_way_0), (19, KX4_way_19), (28, KX4_way_28), (32, KX4_way_32), (33, KX4_way_33)]
def rX4_way : CmC := (yX4_way, cX4_way, 3, (some .int), 1, 5, false)
theorem hX4_way : mtC[106]? = some rX4_way := rfl
set_option maxRecDepth 100000 in
theorem okX4_way : cokMC rX4_way KX4_way = true := by sorry
def KX4_choose_0 : List RI := [(.aload_n 0, 1, 0, 0, []), (.aload_n 1, 1, 0, 1, []), (.getfield 257, 3, 0, 290, []), (.putfield 118, 3, 0, 161, []), (.aload_n 1, 1, 0, 1, []), (.getfield 260, 3, 0, 276, []), (.astore 4, 2, 0, 0, [])]
def KX4_choose_14 : List RI := [(.aload 4, 2, 0, 0, []), (.ifnull 73, 3, 0, 89, [])]
def KX4_choose_19 : List RI := [(.aload 4, 2, 0, 0, []), (.getfield 239, 3, 0, 270, []), (.bipush 62, 2, 0, 0, []), (.if_icmp .ne 34, 3, 0, 60, [])]
def KX4_choose_29 : List RI := [(.aload 4, 2, 0, 0, []), (.getfield 244, 3, 0, 279, []), (.ifnull 26, 3, 0, 60, [])]
def KX4_choose_37 : List RI := [(.aload 4, 2, 0, 0, []), (.getfield 244, 3, 0, 279, []), (.getfield 157, 3, 0, 71, []), (.lload_n 2, 1, 0, 2, []), (.lcmp, 1, 0, 0, []), (.ifCond .ne 13, 3, 0, 60, [])]
def KX4_choose_50 : List RI := [(.aload_n 0, 1, 0, 0, []), (.aload 4, 2, 0, 0, []), (.getfield 231, 3, 0, 289, []), (.putfield 118, 3, 0, 161, []), (.return_, 1, 0, 0, [])]
def KX4_choose_60 : List RI := [(.aload 4, 2, 0, 0, []), (.getfield 239, 3, 0, 270, []), (.bipush 63, 2, 0, 0, []), (.if_icmp .ne 12, 3, 0, 79, [])]
def KX4_choose_70 : List RI := [(.aload_n 0, 1, 0, 0, []), (.aload 4, 2, 0, 0, []), (.getfield 231, 3, 0, 289, []), (.putfield 118, 3, 0, 161, [])]
def KX4_choose_79 : List RI := [(.aload 4, 2, 0, 0, []), (.getfield 261, 3, 0, 275, []), (.astore 4, 2, 0, 0, []), (.goto (-72), 3, 0, 14, [])]
def KX4_choose_89 : List RI := [(.return_, 1, 0, 0, [])]
def KX4_choose : RB := [(0, KX4_choose_0), (14, KX4_choose_14), (19, KX4_choose_19), (29, KX4_choose_29), (37, KX4_choose_37), (50, KX4_choose_50), (60, KX4_choose_60), (70, KX4_choose_70), (79, KX4_choose_79), (89, KX4_choose_89)]
def rX4_choose : CmC := (yX4_choose, cX4_choose, 5, none, 2, 5, false)
theorem hX4_choose : mtC[107]? = some rX4_choose := rfl
set_option maxRecDepth 100000 in
theorem okX4_choose : cokMC rX4_choose KX4_choose = true := by sorry
def KX4_leave_0 : List RI := [(.aload 4, 2, 0, 0, []), (.astore 6, 2, 0, 0, []), (.iconst 0, 1, 0, 0, []), (.istore 7, 2, 0, 0, [])]
def KX4_leave_7 : List RI := [(.iload 7, 2, 0, 0, []), (.sipush 2520, 3, 0, 0, []), (.if_icmp .ge 171, 3, 0, 183, [])]
def KX4_leave_15 : List RI := [(.aload 6, 2, 0, 0, []), (.ifnull 166, 3, 0, 183, [])]
def KX4_leave_20 : List RI := [(.aload 6, 2, 0, 0, []), (.aload 5, 2, 0, 0, []), (.if_acmp .ne 27, 3, 0, 51, [])]
def KX4_leave_27 : List RI := [(.aload_n 0, 1, 0, 0, []), (.iload_n 1, 1, 0, 1, []), (.bipush 64, 2, 0, 0, []), (.if_icmp .ne 11, 3, 0, 42, [])]
def KX4_leave_34 : List RI := [(.aload 6, 2, 0, 0, []), (.getfield 257, 3, 0, 290, []), (.goto 8, 3, 0, 47, [])]
def KX4_leave_42 : List RI := [(.aload 6, 2, 0, 0, []), (.getfield 231, 3, 0, 289, [])]
def KX4_leave_47 : List RI := [(.putfield 118, 3, 0, 161, []), (.return_, 1, 0, 0, [])]
def KX4_leave_51 : List RI := [(.iload_n 1, 1, 0, 1, []), (.bipush 67, 2, 0, 0, []), (.if_icmp .ne 42, 3, 0, 96, [])]
def KX4_leave_57 : List RI := [(.aload 6, 2, 0, 0, []), (.invokevirtual 264, 3, 0, 182, [(0, 0), (0, 0), (0, 0), (0, 0), (0, 0), (0, 0), (0, 0), (0, 0), (0, 0)]), (.ifCond .eq 34, 3, 0, 96, [])]
def KX4_leave_65 : List RI := [(.aload_n 0, 1, 0, 0, []), (.aload 6, 2, 0, 0, []), (.getfield 267, 3, 0, 273, []), (.getfield 270, 3, 0, 277, []), (.invokevirtual 273, 3, 1, 109, [(0, 0), (0, 0), (0, 0), (0, 0), (0, 0)]), (.aload_n 0, 1, 0, 0, []), (.getfield 9, 3, 0, 150, []), (.aload_n 0, 1, 0, 0, []), (.aload 6, 2, 0, 0, []), (.getfield 267, 3, 0, 273, []), (.getfield 277, 3, 0, 280, []), (.invokevirtual 165, 3, 1, 93, [(0, 0), (0, 0), (0, 0), (0, 0), (0, 0)]), (.lload_n 2, 1, 0, 2, []), (.lastore, 1, 0, 0, []), (.return_, 1, 0, 0, [])]
def KX4_leave_96 : List RI := [(.aload 6, 2, 0, 0, []), (.invokevirtual 278, 3, 0, 181, [(0, 0), (0, 0), (0, 0), (0, 0), (0, 0), (0, 0), (0, 0), (0, 0), (0, 0)]), (.ifCond .eq 52, 3, 0, 153, [])]
def KX4_leave_104 : List RI := [(.aload_n 0, 1, 0, 0, []), (.aload 6, 2, 0, 0, []), (.getfield 267, 3, 0, 273, []), (.invokevirtual 247, 3, 1, 106, [(0, 0), (0, 0), (0, 0), (0, 0), (0, 0)]), (.istore 8, 2, 0, 0, []), (.aload_n 0, 1, 0, 0, []), (.getfield 25, 3, 0, 154, []), (.iload 8, 2, 0, 0, []), (.iload_n 1, 1, 0, 1, []), (.iastore, 1, 0, 0, []), (.aload_n 0, 1, 0, 0, []), (.getfield 28, 3, 0, 155, []), (.iload 8, 2, 0, 0, []), (.lload_n 2, 1, 0, 2, []), (.lastore, 1, 0, 0, []), (.aload_n 0, 1, 0, 0, []), (.getfield 33, 3, 0, 156, []), (.iload 8, 2, 0, 0, []), (.aload 5, 2, 0, 0, []), (.aastore, 1, 0, 0, []), (.aload_n 0, 1, 0, 0, []), (.aload 6, 2, 0, 0, []), (.getfield 267, 3, 0, 273, []), (.getfield 281, 3, 0, 278, []), (.invokevirtual 273, 3, 1, 109, [(0, 0), (0, 0), (0, 0), (0, 0), (0, 0)]), (.return_, 1, 0, 0, [])]
def KX4_leave_153 : List RI := [(.aload 6, 2, 0, 0, []), (.getfield 267, 3, 0, 273, []), (.ifnonnull 12, 3, 0, 170, [])]
def KX4_leave_161 : List RI := [(.aload_n 0, 1, 0, 0, []), (.iload_n 1, 1, 0, 1, []), (.lload_n 2, 1, 0, 2, []), (.invokevirtual 284, 3, 2, 110, [(0, 0), (0, 0), (0, 0), (0, 0), (0, 0)]), (.goto 8, 3, 0, 175, [])]
def KX4_leave_170 : List RI := [(.aload 6, 2, 0, 0, []), (.getfield 267, 3, 0, 273, [])]
def KX4_leave_175 : List RI := [(.astore 6, 2, 0, 0, []), (.iinc 7 1, 3, 0, 0, []), (.goto (-173), 3, 0, 7, [])]
def KX4_leave_183 : List RI := [(.return_, 1, 0, 0, [])]
def KX4_leave : RB := [(0, KX4_leave_0), (7, KX4_leave_7), (15, KX4_leave_15), (20, KX4_leave_20), (27, KX4_leave_27), (34, KX4_leave_34), (42, KX4_leave_42), (47, KX4_leave_47), (51, KX4_leave_51), (57, KX4_leave_57), (65, KX4_leave_65), (96, KX4_leave_96), (104, KX4_leave_104), (153, KX4_leave_153), (161, KX4_leave_161), (170, KX4_leave_170), (175, KX4_leave_175), (183, KX4_leave_183)]
def rX4_leave : CmC := (yX4_leave, cX4_leave, 9, none, 4, 5, false)
theorem hX4_leave : mtC[108]? = some rX4_leave := rfl
set_option maxRecDepth 100000 in
theorem okX4_leave : cokMC rX4_leave KX4_leave = true := by sorry
def KX4_goInto_0 : List RI := [(.aload_n 0, 1, 0, 0, []), (.aload_n 0, 1, 0, 0, []), (.getfield 18, 3, 0, 152, []), (.aload_n 0, 1, 0, 0, []), (.getfield 60, 3, 0, 163, []), (.iaload, 1, 0, 0, []), (.putfield 57, 3, 0, 162, []), (.aload_n 0, 1, 0, 0, []), (.aload_n 1, 1, 0, 1, []), (.getfield 231, 3, 0, 289, []), (.putfield 118, 3, 0, 161, []), (.return_, 1, 0, 0, [])]
def KX4_goInto : RB := [(0, KX4_goInto_0)]
def rX4_goInto : CmC := (yX4_goInto, cX4_goInto, 2, none, 1, 5, false)
theorem hX4_goInto : mtC[109]? = some rX4_goInto := rfl
set_option maxRecDepth 100000 in
theorem okX4_goInto : cokMC rX4_goInto KX4_goInto = true := by sorry
def KX4_behindMethod_0 : List RI := [(.iload_n 1, 1, 0, 1, []), (.bipush 67, 2, 0, 0, []), (.if_icmp .eq 10, 3, 0, 13, [])]
def KX4_behindMethod_6 : List RI := [(.aload_n 0, 1, 0, 0, []), (.lload_n 2, 1, 0, 2, []), (.invokevirtual 251, 3, 1, 103, [(0, 0), (0, 0), (0, 0), (0, 0), (0, 0)]), (.aconst_null, 1, 0, 0, []), (.areturn, 1, 0, 0, [])]
def KX4_behindMethod_13 : List RI := [(.aload_n 0, 1, 0, 0, []), (.lconst 0, 1, 0, 0, []), (.invokevirtual 251, 3, 1, 103, [(0, 0), (0, 0), (0, 0), (0, 0), (0, 0)]), (.aload_n 0, 1, 0, 0, []), (.getfield 60, 3, 0, 163, []), (.ifCond .ne 15, 3, 0, 37, [])]
def KX4_behindMethod_25 : List RI := [(.aload_n 0, 1, 0, 0, []), (.iconst 2, 1, 0, 0, []), (.putfield 79, 3, 0, 169, []), (.aload_n 0, 1, 0, 0, []), (.lload_n 2, 1, 0, 2, []), (.putfield 75, 3, 0, 170, []), (.aconst_null, 1, 0, 0, []), (.areturn, 1, 0, 0, [])]
def KX4_behindMethod_37 : List RI := [(.aload_n 0, 1, 0, 0, []), (.getfield 118, 3, 0, 161, []), (.ifCond .le 34, 3, 0, 75, [])]
def KX4_behindMethod_44 : List RI := [(.aload_n 0, 1, 0, 0, []), (.getfield 118, 3, 0, 161, []), (.aload_n 0, 1, 0, 0, []), (.getfield 43, 3, 0, 158, []), (.getfield 121, 3, 0, 34, []), (.if_icmp .gt 20, 3, 0, 75, [])]
def KX4_behindMethod_58 : List RI := [(.aload_n 0, 1, 0, 0, []), (.getfield 43, 3, 0, 158, []), (.getfield 139, 3, 0, 33, []), (.aload_n 0, 1, 0, 0, []), (.getfield 118, 3, 0, 161, []), (.iconst 1, 1, 0, 0, []), (.isub, 1, 0, 0, []), (.aaload, 1, 0, 0, []), (.goto 4, 3, 0, 76, [])]
def KX4_behindMethod_75 : List RI := [(.aconst_null, 1, 0, 0, [])]
def KX4_behindMethod_76 : List RI := [(.areturn, 1, 0, 0, [])]
def KX4_behindMethod : RB := [(0, KX4_behindMethod_0), (6, KX4_behindMethod_6), (13, KX4_behindMethod_13), (25, KX4_behindMethod_25), (37, KX4_behindMethod_37), (44, KX4_behindMethod_44), (58, KX4_behindMethod_58), (75, KX4_behindMethod_75), (76, KX4_behindMethod_76)]
def rX4_behindMethod : CmC := (yX4_behindMethod, cX4_behindMethod, 4, (some (.object "PlainJava$Statement")), 2, 5, false)
theorem hX4_behindMethod : mtC[110]? = some rX4_behindMethod := rfl
set_option maxRecDepth 100000 in
theorem okX4_behindMethod : cokMC rX4_behindMethod KX4_behindMethod = true := by sorry
def KX5_init_0 : List RI := [(.aload_n 0, 1, 0, 0, []), (.invokespecial 3, 3, 0, 9999, []), (.aload_n 0, 1, 0, 0, []), (.bipush 6, 2, 0, 0, []), (.newarray .int, 2, 7, 100, []), (.putfield 9, 3, 0, 183, []), (.aload_n 0, 1, 0, 0, []), (.new 15, 3, 0, 9, []), (.dup, 1, 0, 0, []), (.bipush 92, 2, 0, 0, []), (.iconst 0, 1, 0, 0, []), (.iconst 0, 1, 0, 0, []), (.aconst_null, 1, 0, 0, []), (.lconst 0, 1, 0, 0, []), (.invokespecial 17, 3, 5, 178, []), (.putfield 20, 3, 0, 186, []), (.aload_n 0, 1, 0, 0, []), (.iload_n 1, 1, 0, 1, []), (.putfield 24, 3, 0, 180, []), (.aload_n 0, 1, 0, 0, []), (.lload_n 2, 1, 0, 2, []), (.putfield 28, 3, 0, 181, []), (.aload_n 0, 1, 0, 0, []), (.iload 4, 2, 0, 0, []), (.putfield 32, 3, 0, 182, []), (.aload_n 0, 1, 0, 0, []), (.iload 5, 2, 0, 0, []), (.putfield 35, 3, 0, 184, []), (.return_, 1, 0, 0, [])]
def KX5_init : RB := [(0, KX5_init_0)]
def rX5_init : CmC := (yX5_init, cX5_init, 6, none, 4, 6, false)
theorem hX5_init : mtC[111]? = some rX5_init := rfl
set_option maxRecDepth 100000 in
theorem swX5_init_7 : decode cX5_init 7 = .ok (.newarray .int, 2) := by sorry
set_option maxRecDepth 100000 in
theorem okX5_init : cokMC rX5_init KX5_init = true := by sorry
def KX5_addParam_0 : List RI := [(.aload_n 0, 1, 0, 0, []), (.getfield 38, 3, 0, 185, []), (.bipush 6, 2, 0, 0, []), (.if_icmp .ge 23, 3, 0, 29, [])]
def KX5_addParam_9 : List RI := [(.aload_n 0, 1, 0, 0, []), (.getfield 9, 3, 0, 183, []), (.aload_n 0, 1, 0, 0, []), (.getfield 38, 3, 0, 185, []), (.iload_n 1, 1, 0, 1, []), (.iastore, 1, 0, 0, []), (.aload_n 0, 1, 0, 0, []), (.dup, 1, 0, 0, []), (.getfield 38, 3, 0, 185, []), (.iconst 1, 1, 0, 0, []), (.iadd, 1, 0, 0, []), (.putfield 38, 3, 0, 185, [])]
def KX5_addParam_29 : List RI := [(.return_, 1, 0, 0, [])]
def KX5_addParam : RB := [(0, KX5_addParam_0), (9, KX5_addParam_9), (29, KX5_addParam_29)]
def rX5_addParam : CmC := (yX5_addParam, cX5_addParam, 2, none, 1, 6, false)
theorem hX5_addParam : mtC[112]? = some rX5_addParam := rfl
set_option maxRecDepth 100000 in
theorem okX5_addParam : cokMC rX5_addParam KX5_addParam = true := by sorry
def KX5_hasSameParams_0 : List RI := [(.aload_n 0, 1, 0, 0, []), (.getfield 38, 3, 0, 185, []), (.aload_n 1, 1, 0, 1, []), (.getfield 38, 3, 0, 185, []), (.if_icmp .eq 5, 3, 0, 13, [])]
def KX5_hasSameParams_11 : List RI := [(.iconst 0, 1, 0, 0, []), (.ireturn, 1, 2, 0, [])]
def KX5_hasSameParams_13 : List RI := [(.iconst 0, 1, 0, 0, []), (.istore_n 2, 1, 0, 2, [])]
def KX5_hasSameParams_15 : List RI := [(.iload_n 2, 1, 0, 2, []), (.aload_n 0, 1, 0, 0, []), (.getfield 38, 3, 0, 185, []), (.if_icmp .ge 26, 3, 0, 46, [])]
def KX5_hasSameParams_23 : List RI := [(.aload_n 0, 1, 0, 0, []), (.getfield 9, 3, 0, 183, []), (.iload_n 2, 1, 0, 2, []), (.iaload, 1, 0, 0, []), (.aload_n 1, 1, 0, 1, []), (.getfield 9, 3, 0, 183, []), (.iload_n 2, 1, 0, 2, []), (.iaload, 1, 0, 0, []), (.if_icmp .eq 5, 3, 0, 40, [])]
def KX5_hasSameParams_38 : List RI := [(.iconst 0, 1, 0, 0, []), (.ireturn, 1, 2, 0, [])]
def KX5_hasSameParams_40 : List RI := [(.iinc 2 1, 3, 0, 0, []), (.goto (-28), 3, 0, 15, [])]
def KX5_hasSameParams_46 : List RI := [(.iconst 1, 1, 0, 0, []), (.ireturn, 1, 2, 0, [])]
def KX5_hasSameParams : RB := [(0, KX5_hasSameParams_0), (11, KX5_hasSameParams_11), (13, KX5_hasSameParams_13), (15, KX5_hasSameParams_15), (23, KX5_hasSameParams_23), (38, KX5_hasSameParams_38), (40, KX5_hasSameParams_40), (46, KX5_hasSameParams_46)]
def rX5_hasSameParams : CmC := (yX5_hasSameParams, cX5_hasSameParams, 3, (some .boolean), 1, 6, false)
theorem hX5_hasSameParams : mtC[113]? = some rX5_hasSameParams := rfl
set_option maxRecDepth 100000 in
theorem okX5_hasSameParams : cokMC rX5_hasSameParams KX5_hasSameParams = true := by sorry
def KX5_isAsNarrowAs_0 : List RI := [(.iconst 0, 1, 0, 0, []), (.istore_n 2, 1, 0, 2, [])]
def KX5_isAsNarrowAs_2 : List RI := [(.iload_n 2, 1, 0, 2, []), (.aload_n 0, 1, 0, 0, []), (.getfield 38, 3, 0, 185, []), (.if_icmp .ge 29, 3, 0, 36, [])]
def KX5_isAsNarrowAs_10 : List RI := [(.aload_n 0, 1, 0, 0, []), (.getfield 9, 3, 0, 183, []), (.iload_n 2, 1, 0, 2, []), (.iaload, 1, 0, 0, []), (.aload_n 1, 1, 0, 1, []), (.getfield 9, 3, 0, 183, []), (.iload_n 2, 1, 0, 2, []), (.iaload, 1, 0, 0, []), (.invokestatic 41, 3, 2, 224, []), (.ifCond .ne 5, 3, 0, 30, [])]
def KX5_isAsNarrowAs_28 : List RI := [(.iconst 0, 1, 0, 0, []), (.ireturn, 1, 2, 0, [])]
def KX5_isAsNarrowAs_30 : List RI := [(.iinc 2 1, 3, 0, 0, []), (.goto (-31), 3, 0, 2, [])]
def KX5_isAsNarrowAs_36 : List RI := [(.iconst 1, 1, 0, 0, []), (.ireturn, 1, 2, 0, [])]
def KX5_isAsNarrowAs : RB := [(0, KX5_isAsNarrowAs_0), (2, KX5_isAsNarrowAs_2), (10, KX5_isAsNarrowAs_10), (28, KX5_isAsNarrowAs_28), (30, KX5_isAsNarrowAs_30), (36, KX5_isAsNarrowAs_36)]
def rX5_isAsNarrowAs : CmC := (yX5_isAsNarrowAs, cX5_isAsNarrowAs, 3, (some .boolean), 1, 6, false)
theorem hX5_isAsNarrowAs : mtC[114]? = some rX5_isAsNarrowAs := rfl
set_option maxRecDepth 100000 in
theorem okX5_isAsNarrowAs : cokMC rX5_isAsNarrowAs KX5_isAsNarrowAs = true := by sorry
def KX5_takes_0 : List RI := [(.aload_n 0, 1, 0, 0, []), (.getfield 28, 3, 0, 181, []), (.lload_n 1, 1, 0, 1, []), (.lcmp, 1, 0, 0, []), (.ifCond .ne 11, 3, 0, 17, [])]
def KX5_takes_9 : List RI := [(.aload_n 0, 1, 0, 0, []), (.getfield 38, 3, 0, 185, []), (.iload_n 3, 1, 0, 3, []), (.if_icmp .eq 5, 3, 0, 19, [])]
def KX5_takes_17 : List RI := [(.iconst 0, 1, 0, 0, []), (.ireturn, 1, 2, 0, [])]
def KX5_takes_19 : List RI := [(.aload 4, 2, 0, 0, []), (.astore 5, 2, 0, 0, []), (.iconst 0, 1, 0, 0, []), (.istore 6, 2, 0, 0, [])]
def KX5_takes_26 : List RI := [(.iload 6, 2, 0, 0, []), (.aload_n 0, 1, 0, 0, []), (.getfield 38, 3, 0, 185, []), (.if_icmp .ge 41, 3, 0, 73, [])]
def KX5_takes_35 : List RI := [(.aload 5, 2, 0, 0, []), (.ifnull 36, 3, 0, 73, [])]
def KX5_takes_40 : List RI := [(.aload 5, 2, 0, 0, []), (.getfield 45, 3, 0, 68, []), (.aload_n 0, 1, 0, 0, []), (.getfield 9, 3, 0, 183, []), (.iload 6, 2, 0, 0, []), (.iaload, 1, 0, 0, []), (.invokestatic 41, 3, 2, 224, []), (.ifCond .ne 5, 3, 0, 60, [])]
def KX5_takes_58 : List RI := [(.iconst 0, 1, 0, 0, []), (.ireturn, 1, 2, 0, [])]
def KX5_takes_60 : List RI := [(.aload 5, 2, 0, 0, []), (.getfield 48, 3, 0, 75, []), (.astore 5, 2, 0, 0, []), (.iinc 6 1, 3, 0, 0, []), (.goto (-44), 3, 0, 26, [])]
def KX5_takes_73 : List RI := [(.iconst 1, 1, 0, 0, []), (.ireturn, 1, 2, 0, [])]
def KX5_takes : RB := [(0, KX5_takes_0), (9, KX5_takes_9), (17, KX5_takes_17), (19, KX5_takes_19), (26, KX5_takes_26), (35, KX5_takes_35), (40, KX5_takes_40), (58, KX5_takes_58), (60, KX5_takes_60), (73, KX5_takes_73)]
def rX5_takes : CmC := (yX5_takes, cX5_takes, 7, (some .boolean), 3, 6, false)
theorem hX5_takes : mtC[115]? = some rX5_takes := rfl
set_option maxRecDepth 100000 in
theorem okX5_takes : cokMC rX5_takes KX5_takes = true := by sorry
def KX6_init_0 : List RI := [(.aload_n 0, 1, 0, 0, []), (.invokespecial 3, 3, 0, 9999, []), (.aload_n 0, 1, 0, 0, []), (.new 9, 3, 0, 10, []), (.dup, 1, 0, 0, []), (.invokespecial 11, 3, 0, 184, []), (.putfield 12, 3, 0, 210, []), (.aload_n 0, 1, 0, 0, []), (.new 18, 3, 6, 0, []), (.dup, 1, 0, 0, []), (.invokespecial 20, 3, 0, 233, []), (.putfield 21, 3, 0, 211, []), (.aload_n 0, 1, 0, 0, []), (.new 18, 3, 11, 0, []), (.dup, 1, 0, 0, []), (.invokespecial 20, 3, 0, 233, []), (.putfield 25, 3, 0, 212, []), (.aload_n 0, 1, 0, 0, []), (.new 18, 3, 2, 0, []), (.dup, 1, 0, 0, []), (.invokespecial 20, 3, 0, 233, []), (.putfield 28, 3, 0, 213, []), (.aload_n 0, 1, 0, 0, []), (.new 18, 3, 9, 0, []), (.dup, 1, 0, 0, []), (.invokespecial 20, 3, 0, 233, []), (.putfield 31, 3, 0, 214, []), (.aload_n 0, 1, 0, 0, []), (.new 34, 3, 0, 6, []), (.dup, 1, 0, 0, []), (.iconst (-1), 1, 0, 0, []), (.ldc 36, 2, 0, 1000004, []), (.invokestatic 38, 3, 1, 186, []), (.iconst 5, 1, 0, 0, []), (.iconst 0, 1, 0, 0, []), (.invokespecial 42, 3, 4, 111, []), (.putfield 45, 3, 0, 215, []), (.aload_n 0, 1, 0, 0, []), (.new 34, 3, 0, 6, []), (.dup, 1, 0, 0, []), (.iconst (-1), 1, 0, 0, []), (.ldc 48, 2, 0, 1000005, []), (.invokestatic 38, 3, 1, 186, []), (.iconst 3, 1, 0, 0, []), (.iconst 0, 1, 0, 0, []), (.invokespecial 42, 3, 4, 111, []), (.putfield 50, 3, 0, 216, []), (.aload_n 0, 1, 0, 0, []), (.getfield 45, 3, 0, 215, []), (.iconst 4, 1, 0, 0, []), (.invokevirtual 52, 3, 1, 112, [(0, 0), (0, 0), (0, 0), (0, 0), (0, 0), (0, 0)]), (.return_, 1, 0, 0, [])]
def KX6_init : RB := [(0, KX6_init_0)]
def rX6_init : CmC := (yX6_init, cX6_init, 1, none, 0, 7, false)
theorem hX6_init : mtC[116]? = some rX6_init := rfl
set_option maxRecDepth 100000 in
theorem okX6_init : cokMC rX6_init KX6_init = true := by sorry
def KX6_clear_0 : List RI := [(.aload_n 0, 1, 0, 0, []), (.getfield 21, 3, 0, 211, []), (.invokevirtual 56, 3, 0, 237, []), (.aload_n 0, 1, 0, 0, []), (.getfield 25, 3, 0, 212, []), (.invokevirtual 56, 3, 0, 237, []), (.aload_n 0, 1, 0, 0, []), (.getfield 28, 3, 0, 213, []), (.invokevirtual 56, 3, 0, 237, []), (.aload_n 0, 1, 0, 0, []), (.getfield 31, 3, 0, 214, []), (.invokevirtual 56, 3, 0, 237, []), (.aload_n 0, 1, 0, 0, []), (.iconst 0, 1, 0, 0, []), (.putfield 59, 3, 0, 217, []), (.aload_n 0, 1, 0, 0, []), (.iconst 0, 1, 0, 0, []), (.putfield 63, 3, 0, 218, []), (.return_, 1, 0, 0, [])]
def KX6_clear : RB := [(0, KX6_clear_0)]
def rX6_clear : CmC := (yX6_clear, cX6_clear, 1, none, 0, 7, false)
theorem hX6_clear : mtC[117]? = some rX6_clear := rfl
set_option maxRecDepth 100000 in
theorem okX6_clear : cokMC rX6_clear KX6_clear = true := by sorry
def KX6_tell_0 : List RI := [(.aload_n 0, 1, 0, 0, []), (.getfield 12, 3, 0, 210, []), (.getfield 66, 3, 0, 300, []), (.iload_n 2, 1, 0, 2, []), (.iaload, 1, 0, 0, []), (.istore_n 3, 1, 0, 3, []), (.aload_n 0, 1, 0, 0, []), (.getfield 59, 3, 0, 217, []), (.ifCond .eq 27, 3, 0, 41, [])]
def KX6_tell_17 : List RI := [(.iload_n 3, 1, 0, 3, []), (.aload_n 0, 1, 0, 0, []), (.getfield 63, 3, 0, 218, []), (.if_icmp .lt 19, 3, 0, 41, [])]
def KX6_tell_25 : List RI := [(.iload_n 3, 1, 0, 3, []), (.aload_n 0, 1, 0, 0, []), (.getfield 63, 3, 0, 218, []), (.if_icmp .ne 21, 3, 0, 51, [])]
def KX6_tell_33 : List RI := [(.iload_n 1, 1, 0, 1, []), (.aload_n 0, 1, 0, 0, []), (.getfield 59, 3, 0, 217, []), (.if_icmp .ge 13, 3, 0, 51, [])]
def KX6_tell_41 : List RI := [(.aload_n 0, 1, 0, 0, []), (.iload_n 1, 1, 0, 1, []), (.putfield 59, 3, 0, 217, []), (.aload_n 0, 1, 0, 0, []), (.iload_n 3, 1, 0, 3, []), (.putfield 63, 3, 0, 218, [])]
def KX6_tell_51 : List RI := [(.return_, 1, 0, 0, [])]
def KX6_tell : RB := [(0, KX6_tell_0), (17, KX6_tell_17), (25, KX6_tell_25), (33, KX6_tell_33), (41, KX6_tell_41), (51, KX6_tell_51)]
def rX6_tell : CmC := (yX6_tell, cX6_tell, 4, none, 2, 7, false)
theorem hX6_tell : mtC[118]? = some rX6_tell := rfl
set_option maxRecDepth 100000 in
theorem okX6_tell : cokMC rX6_tell KX6_tell = true := by sorry
def KX6_methodOf_0 : List RI := [(.iload_n 1, 1, 0, 1, []), (.bipush 10, 2, 0, 0, []), (.if_icmp .ne 8, 3, 0, 11, [])]
def KX6_methodOf_6 : List RI := [(.aload_n 0, 1, 0, 0, []), (.getfield 45, 3, 0, 215, []), (.areturn, 1, 0, 0, [])]
def KX6_methodOf_11 : List RI := [(.iload_n 1, 1, 0, 1, []), (.bipush 11, 2, 0, 0, []), (.if_icmp .ne 8, 3, 0, 22, [])]
def KX6_methodOf_17 : List RI := [(.aload_n 0, 1, 0, 0, []), (.getfield 50, 3, 0, 216, []), (.areturn, 1, 0, 0, [])]
def KX6_methodOf_22 : List RI := [(.iload_n 1, 1, 0, 1, []), (.ifCond .lt 28, 3, 0, 51, [])]
def KX6_methodOf_26 : List RI := [(.iload_n 1, 1, 0, 1, []), (.aload_n 0, 1, 0, 0, []), (.getfield 21, 3, 0, 211, []), (.invokevirtual 70, 3, 0, 234, []), (.if_icmp .ge 17, 3, 0, 51, [])]
def KX6_methodOf_37 : List RI := [(.aload_n 0, 1, 0, 0, []), (.getfield 21, 3, 0, 211, []), (.iload_n 1, 1, 0, 1, []), (.invokevirtual 74, 3, 1, 235, []), (.checkcast 34, 3, 0, 6, []), (.goto 4, 3, 0, 52, [])]
def KX6_methodOf_51 : List RI := [(.aconst_null, 1, 0, 0, [])]
def KX6_methodOf_52 : List RI := [(.areturn, 1, 0, 0, [])]
def KX6_methodOf : RB := [(0, KX6_methodOf_0), (6, KX6_methodOf_6), (11, KX6_methodOf_11), (17, KX6_methodOf_17), (22, KX6_methodOf_22), (26, KX6_methodOf_26), (37, KX6_methodOf_37), (51, KX6_methodOf_51), (52, KX6_methodOf_52)]
def rX6_methodOf : CmC := (yX6_methodOf, cX6_methodOf, 2, (some (.object "PlainJava$Method")), 1, 7, false)
theorem hX6_methodOf : mtC[119]? = some rX6_methodOf := rfl
set_option maxRecDepth 100000 in
theorem okX6_methodOf : cokMC rX6_methodOf KX6_methodOf = true := by sorry
def KX6_expAt_0 : List RI := [(.iconst 0, 1, 0, 0, []), (.istore_n 3, 1, 0, 3, [])]
def KX6_expAt_2 : List RI := [(.iload_n 3, 1, 0, 3, []), (.aload_n 0, 1, 0, 0, []), (.getfield 28, 3, 0, 213, []), (.invokevirtual 70, 3, 0, 234, []), (.if_icmp .ge 53, 3, 0, 63, [])]
def KX6_expAt_13 : List RI := [(.aload_n 0, 1, 0, 0, []), (.getfield 28, 3, 0, 213, []), (.iload_n 3, 1, 0, 3, []), (.invokevirtual 74, 3, 1, 235, []), (.checkcast 78, 3, 0, 2, []), (.astore 4, 2, 0, 0, []), (.aload 4, 2, 0, 0, []), (.getfield 80, 3, 0, 60, []), (.bipush 10, 2, 0, 0, []), (.if_icmp .gt 24, 3, 0, 57, [])]
def KX6_expAt_36 : List RI := [(.aload 4, 2, 0, 0, []), (.getfield 83, 3, 0, 62, []), (.iload_n 1, 1, 0, 1, []), (.if_icmp .ne 15, 3, 0, 57, [])]
def KX6_expAt_45 : List RI := [(.aload 4, 2, 0, 0, []), (.getfield 86, 3, 0, 64, []), (.iload_n 2, 1, 0, 2, []), (.if_icmp .ne 6, 3, 0, 57, [])]
def KX6_expAt_54 : List RI := [(.aload 4, 2, 0, 0, []), (.areturn, 1, 0, 0, [])]
def KX6_expAt_57 : List RI := [(.iinc 3 1, 3, 0, 0, []), (.goto (-58), 3, 0, 2, [])]
def KX6_expAt_63 : List RI := [(.aconst_null, 1, 0, 0, []), (.areturn, 1, 0, 0, [])]
def KX6_expAt : RB := [(0, KX6_expAt_0), (2, KX6_expAt_2), (13, KX6_expAt_13), (36, KX6_expAt_36), (45, KX6_expAt_45), (54, KX6_expAt_54), (57, KX6_expAt_57), (63, KX6_expAt_63)]
def rX6_expAt : CmC := (yX6_expAt, cX6_expAt, 5, (some (.object "PlainJava$Exp")), 2, 7, false)
theorem hX6_expAt : mtC[120]? = some rX6_expAt := rfl
set_option maxRecDepth 100000 in
theorem okX6_expAt : cokMC rX6_expAt KX6_expAt = true := by sorry
def KX6_statementAt_0 : List RI := [(.iconst 0, 1, 0, 0, []), (.istore_n 2, 1, 0, 2, [])]
def KX6_statementAt_2 : List RI := [(.iload_n 2, 1, 0, 2, []), (.aload_n 0, 1, 0, 0, []), (.getfield 31, 3, 0, 214, []), (.invokevirtual 70, 3, 0, 234, []), (.if_icmp .ge 38, 3, 0, 48, [])]
def KX6_statementAt_13 : List RI := [(.aload_n 0, 1, 0, 0, []), (.getfield 31, 3, 0, 214, []), (.iload_n 2, 1, 0, 2, []), (.invokevirtual 74, 3, 1, 235, []), (.checkcast 89, 3, 0, 9, []), (.astore_n 3, 1, 0, 3, []), (.aload_n 3, 1, 0, 3, []), (.getfield 91, 3, 0, 271, []), (.iload_n 1, 1, 0, 1, []), (.if_icmp .ne 12, 3, 0, 42, [])]
def KX6_statementAt_33 : List RI := [(.aload_n 3, 1, 0, 3, []), (.invokevirtual 92, 3, 0, 180, [(0, 0), (0, 0), (0, 0), (0, 0), (0, 0), (0, 0), (0, 0), (0, 0), (0, 0)]), (.ifCond .ne 5, 3, 0, 42, [])]
def KX6_statementAt_40 : List RI := [(.aload_n 3, 1, 0, 3, []), (.areturn, 1, 0, 0, [])]
def KX6_statementAt_42 : List RI := [(.iinc 2 1, 3, 0, 0, []), (.goto (-43), 3, 0, 2, [])]
def KX6_statementAt_48 : List RI := [(.aconst_null, 1, 0, 0, []), (.areturn, 1, 0, 0, [])]
def KX6_statementAt : RB := [(0, KX6_statementAt_0), (2, KX6_statementAt_2), (13, KX6_statementAt_13), (33, KX6_statementAt_33), (40, KX6_statementAt_40), (42, KX6_statementAt_42), (48, KX6_statementAt_48)]
def rX6_statementAt : CmC := (yX6_statementAt, cX6_statementAt, 4, (some (.object "PlainJava$Statement")), 1, 7, false)
theorem hX6_statementAt : mtC[121]? = some rX6_statementAt := rfl
set_option maxRecDepth 100000 in
theorem okX6_statementAt : cokMC rX6_statementAt KX6_statementAt = true := by sorry
def KX7_init_0 : List RI := [(.aload_n 0, 1, 0, 0, []), (.invokespecial 3, 3, 0, 9999, []), (.aload_n 0, 1, 0, 0, []), (.aload_n 1, 1, 0, 1, []), (.putfield 9, 3, 0, 240, []), (.aload_n 0, 1, 0, 0, []), (.aload_n 1, 1, 0, 1, []), (.getfield 15, 3, 0, 210, []), (.putfield 21, 3, 0, 241, []), (.return_, 1, 0, 0, [])]
def KX7_init : RB := [(0, KX7_init_0)]
def rX7_init : CmC := (yX7_init, cX7_init, 2, none, 1, 8, false)
theorem hX7_init : mtC[122]? = some rX7_init := rfl
set_option maxRecDepth 100000 in
theorem okX7_init : cokMC rX7_init KX7_init = true := by sorry
def KX7_readProgram_0 : List RI := [(.aload_n 0, 1, 0, 0, []), (.aload_n 1, 1, 0, 1, []), (.putfield 9, 3, 0, 240, []), (.aload_n 0, 1, 0, 0, []), (.aload_n 1, 1, 0, 1, []), (.getfield 15, 3, 0, 210, []), (.putfield 21, 3, 0, 241, []), (.aload_n 0, 1, 0, 0, []), (.getfield 9, 3, 0, 240, []), (.invokevirtual 22, 3, 0, 117, [(0, 0), (0, 0), (0, 0), (0, 0), (0, 0), (0, 0), (0, 0)]), (.aload_n 0, 1, 0, 0, []), (.getfield 21, 3, 0, 241, []), (.aload_n 2, 1, 0, 2, []), (.iload_n 3, 1, 0, 3, []), (.invokevirtual 25, 3, 2, 188, [(0, 0), (0, 0), (0, 0), (0, 0), (0, 0), (0, 0), (0, 0), (0, 0), (0, 0), (0, 0)]), (.aload_n 0, 1, 0, 0, []), (.iconst 0, 1, 0, 0, []), (.putfield 31, 3, 0, 242, []), (.aload_n 0, 1, 0, 0, []), (.iconst 0, 1, 0, 0, []), (.putfield 35, 3, 0, 243, []), (.iconst 0, 1, 0, 0, []), (.istore 4, 2, 0, 0, [])]
def KX7_readProgram_42 : List RI := [(.iload 4, 2, 0, 0, []), (.bipush 10, 2, 0, 0, []), (.if_icmp .gt 29, 3, 0, 75, [])]
def KX7_readProgram_49 : List RI := [(.aload_n 0, 1, 0, 0, []), (.getfield 35, 3, 0, 243, []), (.ifCond .ne 22, 3, 0, 75, [])]
def KX7_readProgram_56 : List RI := [(.aload_n 0, 1, 0, 0, []), (.invokevirtual 38, 3, 0, 125, [(0, 0), (0, 0), (0, 0), (0, 0), (0, 0), (0, 0), (0, 0), (0, 0)]), (.bipush 84, 2, 0, 0, []), (.if_icmp .eq 13, 3, 0, 75, [])]
def KX7_readProgram_65 : List RI := [(.aload_n 0, 1, 0, 0, []), (.invokevirtual 42, 3, 0, 134, [(0, 0), (0, 0), (0, 0), (0, 0), (0, 0), (0, 0), (0, 0), (0, 0)]), (.iinc 4 1, 3, 0, 0, []), (.goto (-30), 3, 0, 42, [])]
def KX7_readProgram_75 : List RI := [(.aload_n 0, 1, 0, 0, []), (.getfield 35, 3, 0, 243, []), (.ireturn, 1, 1, 0, [])]
def KX7_readProgram : RB := [(0, KX7_readProgram_0), (42, KX7_readProgram_42), (49, KX7_readProgram_49), (56, KX7_readProgram_56), (65, KX7_readProgram_65), (75, KX7_readProgram_75)]
def rX7_readProgram : CmC := (yX7_readProgram, cX7_readProgram, 5, (some .int), 3, 8, false)
theorem hX7_readProgram : mtC[123]? = some rX7_readProgram := rfl
set_option maxRecDepth 100000 in
theorem okX7_readProgram : cokMC rX7_readProgram KX7_readProgram = true := by sorry
def KX7_faultPlace_0 : List RI := [(.aload_n 0, 1, 0, 0, []), (.getfield 45, 3, 0, 244, []), (.ireturn, 1, 1, 0, [])]
def KX7_faultPlace : RB := [(0, KX7_faultPlace_0)]
def rX7_faultPlace : CmC := (yX7_faultPlace, cX7_faultPlace, 1, (some .int), 0, 8, false)
theorem hX7_faultPlace : mtC[124]? = some rX7_faultPlace := rfl
set_option maxRecDepth 100000 in
theorem okX7_faultPlace : cokMC rX7_faultPlace KX7_faultPlace = true := by sorry
def KX7_code_0 : List RI := [(.aload_n 0, 1, 0, 0, []), (.getfield 35, 3, 0, 243, []), (.ifCond .ne 18, 3, 0, 22, [])]
def KX7_code_7 : List RI := [(.aload_n 0, 1, 0, 0, []), (.getfield 21, 3, 0, 241, []), (.getfield 48, 3, 0, 302, []), (.aload_n 0, 1, 0, 0, []), (.getfield 31, 3, 0, 242, []), (.iaload, 1, 0, 0, []), (.goto 4, 3, 0, 23, [])]
def KX7_code_22 : List RI := [(.iconst (-1), 1, 0, 0, [])]
def KX7_code_23 : List RI := [(.ireturn, 1, 1, 0, [])]
def KX7_code : RB := [(0, KX7_code_0), (7, KX7_code_7), (22, KX7_code_22), (23, KX7_code_23)]
def rX7_code : CmC := (yX7_code, cX7_code, 1, (some .int), 0, 8, false)
theorem hX7_code : mtC[125]? = some rX7_code := rfl
set_option maxRecDepth 100000 in
theorem okX7_code : cokMC rX7_code KX7_code = true := by sorry
def KX7_codeBehind_0 : List RI := [(.aload_n 0, 1, 0, 0, []), (.getfield 35, 3, 0, 243, []), (.ifCond .ne 30, 3, 0, 34, [])]
def KX7_codeBehind_7 : List RI := [(.aload_n 0, 1, 0, 0, []), (.getfield 31, 3, 0, 242, []), (.sipush 500, 3, 0, 0, []), (.if_icmp .ge 20, 3, 0, 34, [])]
def KX7_codeBehind_17 : List RI := [(.aload_n 0, 1, 0, 0, []), (.getfield 21, 3, 0, 241, []), (.getfield 48, 3, 0, 302, []), (.aload_n 0, 1, 0, 0, []), (.getfield 31, 3, 0, 242, []), (.iconst 1, 1, 0, 0, []), (.iadd, 1, 0, 0, []), (.iaload, 1, 0, 0, []), (.goto 4, 3, 0, 35, [])]
def KX7_codeBehind_34 : List RI := [(.iconst (-1), 1, 0, 0, [])]
def KX7_codeBehind_35 : List RI := [(.ireturn, 1, 1, 0, [])]
def KX7_codeBehind : RB := [(0, KX7_codeBehind_0), (7, KX7_codeBehind_7), (17, KX7_codeBehind_17), (34, KX7_codeBehind_34), (35, KX7_codeBehind_35)]
def rX7_codeBehind : CmC := (yX7_codeBehind, cX7_codeBehind, 1, (some .int), 0, 8, false)
theorem hX7_codeBehind : mtC[126]? = some rX7_codeBehind := rfl
set_option maxRecDepth 100000 in
theorem okX7_codeBehind : cokMC rX7_codeBehind KX7_codeBehind = true := by sorry
def KX7_raise_0 : List RI := [(.aload_n 0, 1, 0, 0, []), (.getfield 35, 3, 0, 243, []), (.ifCond .ne 45, 3, 0, 49, [])]
def KX7_raise_7 : List RI := [(.aload_n 0, 1, 0, 0, []), (.aload_n 0, 1, 0, 0, []), (.getfield 21, 3, 0, 241, []), (.getfield 48, 3, 0, 302, []), (.aload_n 0, 1, 0, 0, []), (.getfield 31, 3, 0, 242, []), (.iaload, 1, 0, 0, []), (.bipush 85, 2, 0, 0, []), (.if_icmp .ne 7, 3, 0, 29, [])]
def KX7_raise_25 : List RI := [(.iconst 1, 1, 0, 0, []), (.goto 4, 3, 0, 30, [])]
def KX7_raise_29 : List RI := [(.iload_n 1, 1, 0, 1, [])]
def KX7_raise_30 : List RI := [(.putfield 35, 3, 0, 243, []), (.aload_n 0, 1, 0, 0, []), (.aload_n 0, 1, 0, 0, []), (.getfield 21, 3, 0, 241, []), (.getfield 51, 3, 0, 300, []), (.aload_n 0, 1, 0, 0, []), (.getfield 31, 3, 0, 242, []), (.iaload, 1, 0, 0, []), (.putfield 45, 3, 0, 244, [])]
def KX7_raise_49 : List RI := [(.return_, 1, 0, 0, [])]
def KX7_raise : RB := [(0, KX7_raise_0), (7, KX7_raise_7), (25, KX7_raise_25), (29, KX7_raise_29), (30, KX7_raise_30), (49, KX7_raise_49)]
def rX7_raise : CmC := (yX7_raise, cX7_raise, 2, none, 1, 8, false)
theorem hX7_raise : mtC[127]? = some rX7_raise := rfl
set_option maxRecDepth 100000 in
theorem okX7_raise : cokMC rX7_raise KX7_raise = true := by sorry
def KX7_accept_0 : List RI := [(.aload_n 0, 1, 0, 0, []), (.getfield 31, 3, 0, 242, []), (.sipush 500, 3, 0, 0, []), (.if_icmp .lt 11, 3, 0, 18, [])]
def KX7_accept_10 : List RI := [(.aload_n 0, 1, 0, 0, []), (.iconst 3, 1, 0, 0, []), (.invokevirtual 53, 3, 1, 127, [(0, 0), (0, 0), (0, 0), (0, 0), (0, 0), (0, 0), (0, 0), (0, 0)]), (.goto 20, 3, 0, 35, [])]
def KX7_accept_18 : List RI := [(.aload_n 0, 1, 0, 0, []), (.getfield 35, 3, 0, 243, []), (.ifCond .ne 13, 3, 0, 35, [])]
def KX7_accept_25 : List RI := [(.aload_n 0, 1, 0, 0, []), (.dup, 1, 0, 0, []), (.getfield 31, 3, 0, 242, []), (.iconst 1, 1, 0, 0, []), (.iadd, 1, 0, 0, []), (.putfield 31, 3, 0, 242, [])]
def KX7_accept_35 : List RI := [(.return_, 1, 0, 0, [])]
def KX7_accept : RB := [(0, KX7_accept_0), (10, KX7_accept_10), (18, KX7_accept_18), (25, KX7_accept_25), (35, KX7_accept_35)]
def rX7_accept : CmC := (yX7_accept, cX7_accept, 1, none, 0, 8, false)
theorem hX7_accept : mtC[128]? = some rX7_accept := rfl
set_option maxRecDepth 100000 in
theorem okX7_accept : cokMC rX7_accept KX7_accept = true := by sorry
def KX7_expect_0 : List RI := [(.aload_n 0, 1, 0, 0, []), (.invokevirtual 38, 3, 0, 125, [(0, 0), (0, 0), (0, 0), (0, 0), (0, 0), (0, 0), (0, 0), (0, 0)]), (.iload_n 1, 1, 0, 1, []), (.if_icmp .ne 10, 3, 0, 15, [])]
def KX7_expect_8 : List RI := [(.aload_n 0, 1, 0, 0, []), (.invokevirtual 57, 3, 0, 128, [(0, 0), (0, 0), (0, 0), (0, 0), (0, 0), (0, 0), (0, 0), (0, 0)]), (.goto 8, 3, 0, 20, [])]
def KX7_expect_15 : List RI := [(.aload_n 0, 1, 0, 0, []), (.iconst 2, 1, 0, 0, []), (.invokevirtual 53, 3, 1, 127, [(0, 0), (0, 0), (0, 0), (0, 0), (0, 0), (0, 0), (0, 0), (0, 0)])]
def KX7_expect_20 : List RI := [(.return_, 1, 0, 0, [])]
def KX7_expect : RB := [(0, KX7_expect_0), (8, KX7_expect_8), (15, KX7_expect_15), (20, KX7_expect_20)]
def rX7_expect : CmC := (yX7_expect, cX7_expect, 2, none, 1, 8, false)
theorem hX7_expect : mtC[129]? = some rX7_expect := rfl
set_option maxRecDepth 100000 in
theorem okX7_expect : cokMC rX7_expect KX7_expect = true := by sorry
def KX7_takes_0 : List RI := [(.aload_n 0, 1, 0, 0, []), (.invokevirtual 38, 3, 0, 125, [(0, 0), (0, 0), (0, 0), (0, 0), (0, 0), (0, 0), (0, 0), (0, 0)]), (.iload_n 1, 1, 0, 1, []), (.if_icmp .eq 5, 3, 0, 10, [])]
def KX7_takes_8 : List RI := [(.iconst 0, 1, 0, 0, []), (.ireturn, 1, 2, 0, [])]
def KX7_takes_10 : List RI := [(.aload_n 0, 1, 0, 0, []), (.invokevirtual 57, 3, 0, 128, [(0, 0), (0, 0), (0, 0), (0, 0), (0, 0), (0, 0), (0, 0), (0, 0)]), (.iconst 1, 1, 0, 0, []), (.ireturn, 1, 2, 0, [])]
def KX7_takes : RB := [(0, KX7_takes_0), (8, KX7_takes_8), (10, KX7_takes_10)]
def rX7_takes : CmC := (yX7_takes, cX7_takes, 2, (some .boolean), 1, 8, false)
theorem hX7_takes : mtC[130]? = some rX7_takes := rfl
set_option maxRecDepth 100000 in
theorem okX7_takes : cokMC rX7_takes KX7_takes = true := by sorry
def KX7_isTooDeep_0 : List RI := [(.iload_n 1, 1, 0, 1, []), (.bipush 20, 2, 0, 0, []), (.if_icmp .le 8, 3, 0, 11, [])]
def KX7_isTooDeep_6 : List RI := [(.aload_n 0, 1, 0, 0, []), (.iconst 3, 1, 0, 0, []), (.invokevirtual 53, 3, 1, 127, [(0, 0), (0, 0), (0, 0), (0, 0), (0, 0), (0, 0), (0, 0), (0, 0)])]
def KX7_isTooDeep_11 : List RI := [(.iload_n 1, 1, 0, 1, []), (.bipush 20, 2, 0, 0, []), (.if_icmp .le 7, 3, 0, 21, [])]
def KX7_isTooDeep_17 : List RI := [(.iconst 1, 1, 0, 0, []), (.goto 4, 3, 0, 22, [])]
def KX7_isTooDeep_21 : List RI := [(.iconst 0, 1, 0, 0, [])]
def KX7_isTooDeep_22 : List RI := [(.ireturn, 1, 2, 0, [])]
def KX7_isTooDeep : RB := [(0, KX7_isTooDeep_0), (6, KX7_isTooDeep_6), (11, KX7_isTooDeep_11), (17, KX7_isTooDeep_17), (21, KX7_isTooDeep_21), (22, KX7_isTooDeep_22)]
def rX7_isTooDeep : CmC := (yX7_isTooDeep, cX7_isTooDeep, 2, (some .boolean), 1, 8, false)
theorem hX7_isTooDeep : mtC[131]? = some rX7_isTooDeep := rfl
set_option maxRecDepth 100000 in
theorem okX7_isTooDeep : cokMC rX7_isTooDeep KX7_isTooDeep = true := by sorry
def KX7_isType_0 : List RI := [(.iload_n 0, 1, 0, 0, []), (.bipush 50, 2, 0, 0, []), (.if_icmp .lt 13, 3, 0, 16, [])]
def KX7_isType_6 : List RI := [(.iload_n 0, 1, 0, 0, []), (.bipush 55, 2, 0, 0, []), (.if_icmp .ge 7, 3, 0, 16, [])]
def KX7_isType_12 : List RI := [(.iconst 1, 1, 0, 0, []), (.goto 4, 3, 0, 17, [])]
def KX7_isType_16 : List RI := [(.iconst 0, 1, 0, 0, [])]
def KX7_isType_17 : List RI := [(.ireturn, 1, 2, 0, [])]
def KX7_isType : RB := [(0, KX7_isType_0), (6, KX7_isType_6), (12, KX7_isType_12), (16, KX7_isType_16), (17, KX7_isType_17)]
def rX7_isType : CmC := (yX7_isType, cX7_isType, 1, (some .boolean), 1, 8, true)
theorem hX7_isType : mtC[132]? = some rX7_isType := rfl
set_option maxRecDepth 100000 in
theorem okX7_isType : cokMC rX7_isType KX7_isType = true := by sorry
def KX7_isAssign_0 : List RI := [(.iload_n 0, 1, 0, 0, []), (.bipush 8, 2, 0, 0, []), (.if_icmp .lt 13, 3, 0, 16, [])]
def KX7_isAssign_6 : List RI := [(.iload_n 0, 1, 0, 0, []), (.bipush 19, 2, 0, 0, []), (.if_icmp .gt 7, 3, 0, 16, [])]
def KX7_isAssign_12 : List RI := [(.iconst 1, 1, 0, 0, []), (.goto 4, 3, 0, 17, [])]
def KX7_isAssign_16 : List RI := [(.iconst 0, 1, 0, 0, [])]
def KX7_isAssign_17 : List RI := [(.ireturn, 1, 2, 0, [])]
def KX7_isAssign : RB := [(0, KX7_isAssign_0), (6, KX7_isAssign_6), (12, KX7_isAssign_12), (16, KX7_isAssign_16), (17, KX7_isAssign_17)]
def rX7_isAssign : CmC := (yX7_isAssign, cX7_isAssign, 1, (some .boolean), 1, 8, true)
theorem hX7_isAssign : mtC[133]? = some rX7_isAssign := rfl
set_option maxRecDepth 100000 in
theorem okX7_isAssign : cokMC rX7_isAssign KX7_isAssign = true := by sorry
def KX7_readMethod_0 : List RI := [(.aload_n 0, 1, 0, 0, []), (.invokevirtual 38, 3, 0, 125, [(0, 0), (0, 0), (0, 0), (0, 0), (0, 0), (0, 0), (0, 0), (0, 0)]), (.bipush 50, 2, 0, 0, []), (.isub, 1, 0, 0, []), (.istore_n 1, 1, 0, 1, []), (.aload_n 0, 1, 0, 0, []), (.invokevirtual 38, 3, 0, 125, [(0, 0), (0, 0), (0, 0), (0, 0), (0, 0), (0, 0), (0, 0), (0, 0)]), (.invokestatic 60, 3, 1, 132, []), (.ifCond .ne 17, 3, 0, 32, [])]
def KX7_readMethod_18 : List RI := [(.aload_n 0, 1, 0, 0, []), (.invokevirtual 38, 3, 0, 125, [(0, 0), (0, 0), (0, 0), (0, 0), (0, 0), (0, 0), (0, 0), (0, 0)]), (.bipush 55, 2, 0, 0, []), (.if_icmp .eq 8, 3, 0, 32, [])]
def KX7_readMethod_27 : List RI := [(.aload_n 0, 1, 0, 0, []), (.iconst 2, 1, 0, 0, []), (.invokevirtual 53, 3, 1, 127, [(0, 0), (0, 0), (0, 0), (0, 0), (0, 0), (0, 0), (0, 0), (0, 0)])]
def KX7_readMethod_32 : List RI := [(.aload_n 0, 1, 0, 0, []), (.invokevirtual 57, 3, 0, 128, [(0, 0), (0, 0), (0, 0), (0, 0), (0, 0), (0, 0), (0, 0), (0, 0)]), (.aload_n 0, 1, 0, 0, []), (.getfield 9, 3, 0, 240, []), (.getfield 64, 3, 0, 211, []), (.invokevirtual 68, 3, 0, 234, []), (.istore_n 2, 1, 0, 2, []), (.aload_n 0, 1, 0, 0, []), (.invokevirtual 38, 3, 0, 125, [(0, 0), (0, 0), (0, 0), (0, 0), (0, 0), (0, 0), (0, 0), (0, 0)]), (.bipush 80, 2, 0, 0, []), (.if_icmp .eq 11, 3, 0, 64, [])]
def KX7_readMethod_56 : List RI := [(.aload_n 0, 1, 0, 0, []), (.iconst 2, 1, 0, 0, []), (.invokevirtual 53, 3, 1, 127, [(0, 0), (0, 0), (0, 0), (0, 0), (0, 0), (0, 0), (0, 0), (0, 0)]), (.goto 14, 3, 0, 75, [])]
def KX7_readMethod_64 : List RI := [(.iload_n 2, 1, 0, 2, []), (.bipush 10, 2, 0, 0, []), (.if_icmp .lt 8, 3, 0, 75, [])]
def KX7_readMethod_70 : List RI := [(.aload_n 0, 1, 0, 0, []), (.iconst 3, 1, 0, 0, []), (.invokevirtual 53, 3, 1, 127, [(0, 0), (0, 0), (0, 0), (0, 0), (0, 0), (0, 0), (0, 0), (0, 0)])]
def KX7_readMethod_75 : List RI := [(.aload_n 0, 1, 0, 0, []), (.getfield 35, 3, 0, 243, []), (.ifCond .eq 4, 3, 0, 83, [])]
def KX7_readMethod_82 : List RI := [(.return_, 1, 0, 0, [])]
def KX7_readMethod_83 : List RI := [(.new 73, 3, 0, 6, []), (.dup, 1, 0, 0, []), (.aload_n 0, 1, 0, 0, []), (.getfield 31, 3, 0, 242, []), (.aload_n 0, 1, 0, 0, []), (.getfield 21, 3, 0, 241, []), (.getfield 75, 3, 0, 304, []), (.aload_n 0, 1, 0, 0, []), (.getfield 31, 3, 0, 242, []), (.laload, 1, 0, 0, []), (.iload_n 1, 1, 0, 1, []), (.aload_n 0, 1, 0, 0, []), (.getfield 9, 3, 0, 240, []), (.getfield 79, 3, 0, 212, []), (.invokevirtual 68, 3, 0, 234, []), (.invokespecial 82, 3, 4, 111, []), (.astore_n 3, 1, 0, 3, []), (.aload_n 0, 1, 0, 0, []), (.getfield 9, 3, 0, 240, []), (.getfield 64, 3, 0, 211, []), (.aload_n 3, 1, 0, 3, []), (.invokevirtual 85, 3, 1, 236, []), (.pop, 1, 0, 0, []), (.aload_n 0, 1, 0, 0, []), (.getfield 21, 3, 0, 241, []), (.getfield 89, 3, 0, 303, []), (.aload_n 0, 1, 0, 0, []), (.getfield 31, 3, 0, 242, []), (.bipush 100, 2, 0, 0, []), (.iload_n 2, 1, 0, 2, []), (.iadd, 1, 0, 0, []), (.iastore, 1, 0, 0, []), (.aload_n 0, 1, 0, 0, []), (.invokevirtual 57, 3, 0, 128, [(0, 0), (0, 0), (0, 0), (0, 0), (0, 0), (0, 0), (0, 0), (0, 0)]), (.aload_n 0, 1, 0, 0, []), (.lconst 0, 1, 0, 0, []), (.putfield 92, 3, 0, 245, []), (.aload_n 0, 1, 0, 0, []), (.aconst_null, 1, 0, 0, []), (.putfield 96, 3, 0, 246, []), (.aload_n 0, 1, 0, 0, []), (.aload_n 3, 1, 0, 3, []), (.invokevirtual 100, 3, 1, 135, [(0, 0), (0, 0), (0, 0), (0, 0), (0, 0), (0, 0), (0, 0), (0, 0)]), (.aload_n 3, 1, 0, 3, []), (.aload_n 0, 1, 0, 0, []), (.iconst 0, 1, 0, 0, []), (.invokevirtual 104, 3, 1, 143, [(0, 0), (0, 0), (0, 0), (0, 0), (0, 0), (0, 0), (0, 0), (0, 0)]), (.putfield 108, 3, 0, 186, []), (.return_, 1, 0, 0, [])]
def KX7_readMethod : RB := [(0, KX7_readMethod_0), (18, KX7_readMethod_18), (27, KX7_readMethod_27), (32, KX7_readMethod_32), (56, KX7_readMethod_56), (64, KX7_readMethod_64), (70, KX7_readMethod_70), (75, KX7_readMethod_75), (82, KX7_readMethod_82), (83, KX7_readMethod_83)]
def rX7_readMethod : CmC := (yX7_readMethod, cX7_readMethod, 4, none, 0, 8, false)
theorem hX7_readMethod : mtC[134]? = some rX7_readMethod := rfl
set_option maxRecDepth 100000 in
theorem okX7_readMethod : cokMC rX7_readMethod KX7_readMethod = true := by sorry
def KX7_readParams_0 : List RI := [(.aload_n 0, 1, 0, 0, []), (.iconst 0, 1, 0, 0, []), (.invokevirtual 111, 3, 1, 129, [(0, 0), (0, 0), (0, 0), (0, 0), (0, 0), (0, 0), (0, 0), (0, 0)]), (.aload_n 0, 1, 0, 0, []), (.invokevirtual 38, 3, 0, 125, [(0, 0), (0, 0), (0, 0), (0, 0), (0, 0), (0, 0), (0, 0), (0, 0)]), (.iconst 1, 1, 0, 0, []), (.if_icmp .eq 79, 3, 0, 89, [])]
def KX7_readParams_13 : List RI := [(.iconst 1, 1, 0, 0, []), (.istore_n 2, 1, 0, 2, []), (.iconst 0, 1, 0, 0, []), (.istore_n 3, 1, 0, 3, [])]
def KX7_readParams_17 : List RI := [(.iload_n 2, 1, 0, 2, []), (.ifCond .eq 71, 3, 0, 89, [])]
def KX7_readParams_21 : List RI := [(.iload_n 3, 1, 0, 3, []), (.bipush 6, 2, 0, 0, []), (.if_icmp .gt 65, 3, 0, 89, [])]
def KX7_readParams_27 : List RI := [(.aload_n 0, 1, 0, 0, []), (.bipush 71, 2, 0, 0, []), (.invokevirtual 114, 3, 1, 130, [(0, 0), (0, 0), (0, 0), (0, 0), (0, 0), (0, 0), (0, 0), (0, 0)]), (.istore 4, 2, 0, 0, []), (.aload_n 0, 1, 0, 0, []), (.invokevirtual 117, 3, 0, 136, [(0, 0), (0, 0), (0, 0), (0, 0), (0, 0), (0, 0), (0, 0), (0, 0)]), (.istore 5, 2, 0, 0, []), (.aload_n 0, 1, 0, 0, []), (.iload 5, 2, 0, 0, []), (.iload 4, 2, 0, 0, []), (.aload_n 1, 1, 0, 1, []), (.getfield 120, 3, 0, 185, []), (.bipush 6, 2, 0, 0, []), (.if_icmp .ge 7, 3, 0, 59, [])]
def KX7_readParams_55 : List RI := [(.iconst 1, 1, 0, 0, []), (.goto 4, 3, 0, 60, [])]
def KX7_readParams_59 : List RI := [(.iconst 0, 1, 0, 0, [])]
def KX7_readParams_60 : List RI := [(.invokevirtual 123, 3, 3, 137, [(0, 0), (0, 0), (0, 0), (0, 0), (0, 0), (0, 0), (0, 0), (0, 0)]), (.istore 6, 2, 0, 0, []), (.aload_n 0, 1, 0, 0, []), (.iload 6, 2, 0, 0, []), (.invokevirtual 127, 3, 1, 138, [(0, 0), (0, 0), (0, 0), (0, 0), (0, 0), (0, 0), (0, 0), (0, 0)]), (.aload_n 1, 1, 0, 1, []), (.iload 5, 2, 0, 0, []), (.invokevirtual 130, 3, 1, 112, [(0, 0), (0, 0), (0, 0), (0, 0), (0, 0), (0, 0)]), (.aload_n 0, 1, 0, 0, []), (.iconst 5, 1, 0, 0, []), (.invokevirtual 114, 3, 1, 130, [(0, 0), (0, 0), (0, 0), (0, 0), (0, 0), (0, 0), (0, 0), (0, 0)]), (.istore_n 2, 1, 0, 2, []), (.iinc 3 1, 3, 0, 0, []), (.goto (-69), 3, 0, 17, [])]
def KX7_readParams_89 : List RI := [(.aload_n 0, 1, 0, 0, []), (.iconst 1, 1, 0, 0, []), (.invokevirtual 111, 3, 1, 129, [(0, 0), (0, 0), (0, 0), (0, 0), (0, 0), (0, 0), (0, 0), (0, 0)]), (.return_, 1, 0, 0, [])]
def KX7_readParams : RB := [(0, KX7_readParams_0), (13, KX7_readParams_13), (17, KX7_readParams_17), (21, KX7_readParams_21), (27, KX7_readParams_27), (55, KX7_readParams_55), (59, KX7_readParams_59), (60, KX7_readParams_60), (89, KX7_readParams_89)]
def rX7_readParams : CmC := (yX7_readParams, cX7_readParams, 7, none, 1, 8, false)
theorem hX7_readParams : mtC[135]? = some rX7_readParams := rfl
set_option maxRecDepth 100000 in
theorem okX7_readParams : cokMC rX7_readParams KX7_readParams = true := by sorry
def KX7_readType_0 : List RI := [(.aload_n 0, 1, 0, 0, []), (.invokevirtual 38, 3, 0, 125, [(0, 0), (0, 0), (0, 0), (0, 0), (0, 0), (0, 0), (0, 0), (0, 0)]), (.bipush 50, 2, 0, 0, []), (.isub, 1, 0, 0, []), (.istore_n 1, 1, 0, 1, []), (.aload_n 0, 1, 0, 0, []), (.invokevirtual 38, 3, 0, 125, [(0, 0), (0, 0), (0, 0), (0, 0), (0, 0), (0, 0), (0, 0), (0, 0)]), (.invokestatic 60, 3, 1, 132, []), (.ifCond .ne 10, 3, 0, 25, [])]
def KX7_readType_18 : List RI := [(.aload_n 0, 1, 0, 0, []), (.iconst 2, 1, 0, 0, []), (.invokevirtual 53, 3, 1, 127, [(0, 0), (0, 0), (0, 0), (0, 0), (0, 0), (0, 0), (0, 0), (0, 0)]), (.iconst 3, 1, 0, 0, []), (.ireturn, 1, 1, 0, [])]
def KX7_readType_25 : List RI := [(.aload_n 0, 1, 0, 0, []), (.invokevirtual 57, 3, 0, 128, [(0, 0), (0, 0), (0, 0), (0, 0), (0, 0), (0, 0), (0, 0), (0, 0)]), (.iload_n 1, 1, 0, 1, []), (.ireturn, 1, 1, 0, [])]
def KX7_readType : RB := [(0, KX7_readType_0), (18, KX7_readType_18), (25, KX7_readType_25)]
def rX7_readType : CmC := (yX7_readType, cX7_readType, 2, (some .int), 0, 8, false)
theorem hX7_readType : mtC[136]? = some rX7_readType := rfl
set_option maxRecDepth 100000 in
theorem okX7_readType : cokMC rX7_readType KX7_readType = true := by sorry
def KX7_declare_0 : List RI := [(.aload_n 0, 1, 0, 0, []), (.getfield 9, 3, 0, 240, []), (.getfield 79, 3, 0, 212, []), (.invokevirtual 68, 3, 0, 234, []), (.istore 4, 2, 0, 0, []), (.aload_n 0, 1, 0, 0, []), (.invokevirtual 38, 3, 0, 125, [(0, 0), (0, 0), (0, 0), (0, 0), (0, 0), (0, 0), (0, 0), (0, 0)]), (.bipush 80, 2, 0, 0, []), (.if_icmp .eq 11, 3, 0, 29, [])]
def KX7_declare_21 : List RI := [(.aload_n 0, 1, 0, 0, []), (.iconst 2, 1, 0, 0, []), (.invokevirtual 53, 3, 1, 127, [(0, 0), (0, 0), (0, 0), (0, 0), (0, 0), (0, 0), (0, 0), (0, 0)]), (.goto 19, 3, 0, 45, [])]
def KX7_declare_29 : List RI := [(.iload_n 3, 1, 0, 3, []), (.ifCond .eq 10, 3, 0, 40, [])]
def KX7_declare_33 : List RI := [(.iload 4, 2, 0, 0, []), (.bipush 60, 2, 0, 0, []), (.if_icmp .lt 8, 3, 0, 45, [])]
def KX7_declare_40 : List RI := [(.aload_n 0, 1, 0, 0, []), (.iconst 3, 1, 0, 0, []), (.invokevirtual 53, 3, 1, 127, [(0, 0), (0, 0), (0, 0), (0, 0), (0, 0), (0, 0), (0, 0), (0, 0)])]
def KX7_declare_45 : List RI := [(.aload_n 0, 1, 0, 0, []), (.getfield 35, 3, 0, 243, []), (.ifCond .eq 5, 3, 0, 54, [])]
def KX7_declare_52 : List RI := [(.iconst (-1), 1, 0, 0, []), (.ireturn, 1, 1, 0, [])]
def KX7_declare_54 : List RI := [(.new 133, 3, 0, 11, []), (.dup, 1, 0, 0, []), (.aload_n 0, 1, 0, 0, []), (.getfield 31, 3, 0, 242, []), (.iload_n 1, 1, 0, 1, []), (.iload_n 2, 1, 0, 2, []), (.aload_n 0, 1, 0, 0, []), (.getfield 9, 3, 0, 240, []), (.getfield 64, 3, 0, 211, []), (.invokevirtual 68, 3, 0, 234, []), (.iconst 1, 1, 0, 0, []), (.isub, 1, 0, 0, []), (.invokespecial 135, 3, 4, 199, []), (.astore 5, 2, 0, 0, []), (.aload 5, 2, 0, 0, []), (.aload_n 0, 1, 0, 0, []), (.aload_n 0, 1, 0, 0, []), (.getfield 21, 3, 0, 241, []), (.getfield 75, 3, 0, 304, []), (.aload_n 0, 1, 0, 0, []), (.getfield 31, 3, 0, 242, []), (.laload, 1, 0, 0, []), (.invokevirtual 138, 3, 1, 139, [(0, 0), (0, 0), (0, 0), (0, 0), (0, 0), (0, 0), (0, 0), (0, 0)]), (.ifCond .lt 7, 3, 0, 106, [])]
def KX7_declare_102 : List RI := [(.iconst 1, 1, 0, 0, []), (.goto 4, 3, 0, 107, [])]
def KX7_declare_106 : List RI := [(.iconst 0, 1, 0, 0, [])]
def KX7_declare_107 : List RI := [(.putfield 142, 3, 0, 334, []), (.aload_n 0, 1, 0, 0, []), (.getfield 9, 3, 0, 240, []), (.getfield 79, 3, 0, 212, []), (.aload 5, 2, 0, 0, []), (.invokevirtual 85, 3, 1, 236, []), (.pop, 1, 0, 0, []), (.aload_n 0, 1, 0, 0, []), (.getfield 21, 3, 0, 241, []), (.getfield 89, 3, 0, 303, []), (.aload_n 0, 1, 0, 0, []), (.getfield 31, 3, 0, 242, []), (.iload 4, 2, 0, 0, []), (.iastore, 1, 0, 0, []), (.aload_n 0, 1, 0, 0, []), (.invokevirtual 57, 3, 0, 128, [(0, 0), (0, 0), (0, 0), (0, 0), (0, 0), (0, 0), (0, 0), (0, 0)]), (.iload 4, 2, 0, 0, []), (.ireturn, 1, 1, 0, [])]
def KX7_declare : RB := [(0, KX7_declare_0), (21, KX7_declare_21), (29, KX7_declare_29), (33, KX7_declare_33), (40, KX7_declare_40), (45, KX7_declare_45), (52, KX7_declare_52), (54, KX7_declare_54), (102, KX7_declare_102), (106, KX7_declare_106), (107, KX7_declare_107)]
def rX7_declare : CmC := (yX7_declare, cX7_declare, 6, (some .int), 3, 8, false)
theorem hX7_declare : mtC[137]? = some rX7_declare := rfl
set_option maxRecDepth 100000 in
theorem okX7_declare : cokMC rX7_declare KX7_declare = true := by sorry
def KX7_know_0 : List RI := [(.iload_n 1, 1, 0, 1, []), (.ifCond .lt 16, 3, 0, 17, [])]
def KX7_know_4 : List RI := [(.aload_n 0, 1, 0, 0, []), (.dup, 1, 0, 0, []), (.getfield 92, 3, 0, 245, []), (.iload_n 1, 1, 0, 1, []), (.invokestatic 146, 3, 1, 222, []), (.lor, 1, 0, 0, []), (.putfield 92, 3, 0, 245, [])]
def KX7_know_17 : List RI := [(.return_, 1, 0, 0, [])]
def KX7_know : RB := [(0, KX7_know_0), (4, KX7_know_4), (17, KX7_know_17)]
def rX7_know : CmC := (yX7_know, cX7_know, 2, none, 1, 8, false)
theorem hX7_know : mtC[138]? = some rX7_know := rfl
set_option maxRecDepth 100000 in
theorem okX7_know : cokMC rX7_know KX7_know = true := by sorry
def KX7_lookUp_0 : List RI := [(.aload_n 0, 1, 0, 0, []), (.getfield 9, 3, 0, 240, []), (.getfield 79, 3, 0, 212, []), (.invokevirtual 68, 3, 0, 234, []), (.iconst 1, 1, 0, 0, []), (.isub, 1, 0, 0, []), (.istore_n 3, 1, 0, 3, [])]
def KX7_lookUp_13 : List RI := [(.iload_n 3, 1, 0, 3, []), (.ifCond .lt 52, 3, 0, 66, [])]
def KX7_lookUp_17 : List RI := [(.aload_n 0, 1, 0, 0, []), (.getfield 92, 3, 0, 245, []), (.iload_n 3, 1, 0, 3, []), (.invokestatic 150, 3, 2, 221, []), (.ifCond .eq 35, 3, 0, 60, [])]
def KX7_lookUp_28 : List RI := [(.aload_n 0, 1, 0, 0, []), (.getfield 21, 3, 0, 241, []), (.getfield 75, 3, 0, 304, []), (.aload_n 0, 1, 0, 0, []), (.getfield 9, 3, 0, 240, []), (.getfield 79, 3, 0, 212, []), (.iload_n 3, 1, 0, 3, []), (.invokevirtual 154, 3, 1, 235, []), (.checkcast 133, 3, 0, 11, []), (.getfield 158, 3, 0, 330, []), (.laload, 1, 0, 0, []), (.lload_n 1, 1, 0, 1, []), (.lcmp, 1, 0, 0, []), (.ifCond .ne 5, 3, 0, 60, [])]
def KX7_lookUp_58 : List RI := [(.iload_n 3, 1, 0, 3, []), (.ireturn, 1, 1, 0, [])]
def KX7_lookUp_60 : List RI := [(.iinc 3 (-1), 3, 0, 0, []), (.goto (-50), 3, 0, 13, [])]
def KX7_lookUp_66 : List RI := [(.iconst (-1), 1, 0, 0, []), (.ireturn, 1, 1, 0, [])]
def KX7_lookUp : RB := [(0, KX7_lookUp_0), (13, KX7_lookUp_13), (17, KX7_lookUp_17), (28, KX7_lookUp_28), (58, KX7_lookUp_58), (60, KX7_lookUp_60), (66, KX7_lookUp_66)]
def rX7_lookUp : CmC := (yX7_lookUp, cX7_lookUp, 4, (some .int), 1, 8, false)
theorem hX7_lookUp : mtC[139]? = some rX7_lookUp := rfl
set_option maxRecDepth 100000 in
theorem okX7_lookUp : cokMC rX7_lookUp KX7_lookUp = true := by sorry
def KX7_meant_0 : List RI := [(.aload_n 0, 1, 0, 0, []), (.aload_n 0, 1, 0, 0, []), (.getfield 21, 3, 0, 241, []), (.getfield 75, 3, 0, 304, []), (.iload_n 1, 1, 0, 1, []), (.laload, 1, 0, 0, []), (.invokevirtual 138, 3, 1, 139, [(0, 0), (0, 0), (0, 0), (0, 0), (0, 0), (0, 0), (0, 0), (0, 0)]), (.istore_n 2, 1, 0, 2, []), (.aload_n 0, 1, 0, 0, []), (.getfield 21, 3, 0, 241, []), (.getfield 89, 3, 0, 303, []), (.iload_n 1, 1, 0, 1, []), (.iload_n 2, 1, 0, 2, []), (.iastore, 1, 0, 0, []), (.iload_n 2, 1, 0, 2, []), (.ireturn, 1, 1, 0, [])]
def KX7_meant : RB := [(0, KX7_meant_0)]
def rX7_meant : CmC := (yX7_meant, cX7_meant, 3, (some .int), 1, 8, false)
theorem hX7_meant : mtC[140]? = some rX7_meant := rfl
set_option maxRecDepth 100000 in
theorem okX7_meant : cokMC rX7_meant KX7_meant = true := by sorry
def KX7_readVariable_0 : List RI := [(.aload_n 0, 1, 0, 0, []), (.iload_n 1, 1, 0, 1, []), (.iload_n 2, 1, 0, 2, []), (.invokevirtual 161, 3, 2, 142, [(0, 0), (0, 0), (0, 0), (0, 0), (0, 0), (0, 0), (0, 0), (0, 0)]), (.astore_n 3, 1, 0, 3, []), (.aload_n 0, 1, 0, 0, []), (.bipush 71, 2, 0, 0, []), (.invokevirtual 114, 3, 1, 130, [(0, 0), (0, 0), (0, 0), (0, 0), (0, 0), (0, 0), (0, 0), (0, 0)]), (.istore 4, 2, 0, 0, []), (.aload_n 0, 1, 0, 0, []), (.invokevirtual 117, 3, 0, 136, [(0, 0), (0, 0), (0, 0), (0, 0), (0, 0), (0, 0), (0, 0), (0, 0)]), (.istore 5, 2, 0, 0, []), (.aload_n 3, 1, 0, 3, []), (.aload_n 0, 1, 0, 0, []), (.iload 5, 2, 0, 0, []), (.iload 4, 2, 0, 0, []), (.iconst 1, 1, 0, 0, []), (.invokevirtual 123, 3, 3, 137, [(0, 0), (0, 0), (0, 0), (0, 0), (0, 0), (0, 0), (0, 0), (0, 0)]), (.putfield 165, 3, 0, 280, []), (.aload_n 0, 1, 0, 0, []), (.aload_n 3, 1, 0, 3, []), (.getfield 165, 3, 0, 280, []), (.invokevirtual 127, 3, 1, 138, [(0, 0), (0, 0), (0, 0), (0, 0), (0, 0), (0, 0), (0, 0), (0, 0)]), (.iload 4, 2, 0, 0, []), (.ifCond .ne 12, 3, 0, 56, [])]
def KX7_readVariable_47 : List RI := [(.aload_n 0, 1, 0, 0, []), (.invokevirtual 38, 3, 0, 125, [(0, 0), (0, 0), (0, 0), (0, 0), (0, 0), (0, 0), (0, 0), (0, 0)]), (.bipush 8, 2, 0, 0, []), (.if_icmp .ne 67, 3, 0, 120, [])]
def KX7_readVariable_56 : List RI := [(.aload_n 0, 1, 0, 0, []), (.bipush 8, 2, 0, 0, []), (.invokevirtual 111, 3, 1, 129, [(0, 0), (0, 0), (0, 0), (0, 0), (0, 0), (0, 0), (0, 0), (0, 0)]), (.aload_n 3, 1, 0, 3, []), (.aload_n 0, 1, 0, 0, []), (.iload_n 2, 1, 0, 2, []), (.invokevirtual 170, 3, 1, 164, [(0, 0), (0, 0), (0, 0), (0, 0), (0, 0), (0, 0), (0, 0), (0, 0)]), (.putfield 174, 3, 0, 279, []), (.new 178, 3, 0, 2, []), (.dup, 1, 0, 0, []), (.bipush 15, 2, 0, 0, []), (.bipush 8, 2, 0, 0, []), (.aload_n 3, 1, 0, 3, []), (.getfield 180, 3, 0, 271, []), (.aload_n 3, 1, 0, 3, []), (.getfield 174, 3, 0, 279, []), (.getfield 183, 3, 0, 63, []), (.invokespecial 186, 3, 4, 17, []), (.astore 6, 2, 0, 0, []), (.aload 6, 2, 0, 0, []), (.aload_n 3, 1, 0, 3, []), (.getfield 165, 3, 0, 280, []), (.putfield 189, 3, 0, 67, []), (.aload 6, 2, 0, 0, []), (.aload_n 3, 1, 0, 3, []), (.getfield 174, 3, 0, 279, []), (.putfield 190, 3, 0, 72, []), (.aload_n 0, 1, 0, 0, []), (.aload 6, 2, 0, 0, []), (.invokevirtual 193, 3, 1, 161, [(0, 0), (0, 0), (0, 0), (0, 0), (0, 0), (0, 0), (0, 0), (0, 0)]), (.pop, 1, 0, 0, [])]
def KX7_readVariable_120 : List RI := [(.aload_n 3, 1, 0, 3, []), (.areturn, 1, 0, 0, [])]
def KX7_readVariable : RB := [(0, KX7_readVariable_0), (47, KX7_readVariable_47), (56, KX7_readVariable_56), (120, KX7_readVariable_120)]
def rX7_readVariable : CmC := (yX7_readVariable, cX7_readVariable, 7, (some (.object "PlainJava$Statement")), 2, 8, false)
theorem hX7_readVariable : mtC[141]? = some rX7_readVariable := rfl
set_option maxRecDepth 100000 in
theorem okX7_readVariable : cokMC rX7_readVariable KX7_readVariable = true := by sorry
def KX7_begin_0 : List RI := [(.new 166, 3, 0, 9, []), (.dup, 1, 0, 0, []), (.iload_n 1, 1, 0, 1, []), (.aload_n 0, 1, 0, 0, []), (.getfield 31, 3, 0, 242, []), (.iload_n 2, 1, 0, 2, []), (.aload_n 0, 1, 0, 0, []), (.getfield 96, 3, 0, 246, []), (.aload_n 0, 1, 0, 0, []), (.getfield 92, 3, 0, 245, []), (.invokespecial 197, 3, 5, 178, []), (.astore_n 3, 1, 0, 3, []), (.aload_n 0, 1, 0, 0, []), (.getfield 9, 3, 0, 240, []), (.getfield 200, 3, 0, 214, []), (.aload_n 3, 1, 0, 3, []), (.invokevirtual 85, 3, 1, 236, []), (.pop, 1, 0, 0, []), (.aload_n 3, 1, 0, 3, []), (.areturn, 1, 0, 0, [])]
def KX7_begin : RB := [(0, KX7_begin_0)]
def rX7_begin : CmC := (yX7_begin, cX7_begin, 4, (some (.object "PlainJava$Statement")), 2, 8, false)
theorem hX7_begin : mtC[142]? = some rX7_begin := rfl
set_option maxRecDepth 100000 in
theorem okX7_begin : cokMC rX7_begin KX7_begin = true := by sorry
def KX7_readBody_0 : List RI := [(.aload_n 0, 1, 0, 0, []), (.bipush 92, 2, 0, 0, []), (.iload_n 1, 1, 0, 1, []), (.invokevirtual 161, 3, 2, 142, [(0, 0), (0, 0), (0, 0), (0, 0), (0, 0), (0, 0), (0, 0), (0, 0)]), (.astore_n 2, 1, 0, 2, []), (.aload_n 0, 1, 0, 0, []), (.aload_n 2, 1, 0, 2, []), (.iload_n 1, 1, 0, 1, []), (.invokevirtual 203, 3, 2, 144, [(0, 0), (0, 0), (0, 0), (0, 0), (0, 0), (0, 0), (0, 0), (0, 0)]), (.aload_n 2, 1, 0, 2, []), (.areturn, 1, 0, 0, [])]
def KX7_readBody : RB := [(0, KX7_readBody_0)]
def rX7_readBody : CmC := (yX7_readBody, cX7_readBody, 3, (some (.object "PlainJava$Statement")), 1, 8, false)
theorem hX7_readBody : mtC[143]? = some rX7_readBody := rfl
set_option maxRecDepth 100000 in
theorem okX7_readBody : cokMC rX7_readBody KX7_readBody = true := by sorry
def KX7_readBlock_0 : List RI := [(.aload_n 0, 1, 0, 0, []), (.getfield 96, 3, 0, 246, []), (.astore_n 3, 1, 0, 3, []), (.aload_n 0, 1, 0, 0, []), (.getfield 92, 3, 0, 245, []), (.lstore 4, 2, 0, 0, []), (.aload_n 0, 1, 0, 0, []), (.aload_n 1, 1, 0, 1, []), (.putfield 96, 3, 0, 246, []), (.aload_n 0, 1, 0, 0, []), (.iconst 2, 1, 0, 0, []), (.invokevirtual 111, 3, 1, 129, [(0, 0), (0, 0), (0, 0), (0, 0), (0, 0), (0, 0), (0, 0), (0, 0)]), (.aload_n 1, 1, 0, 1, []), (.aload_n 0, 1, 0, 0, []), (.iload_n 2, 1, 0, 2, []), (.iconst 1, 1, 0, 0, []), (.iadd, 1, 0, 0, []), (.iconst 0, 1, 0, 0, []), (.invokevirtual 207, 3, 2, 145, [(0, 0), (0, 0), (0, 0), (0, 0), (0, 0), (0, 0), (0, 0), (0, 0)]), (.putfield 211, 3, 0, 276, []), (.aload_n 0, 1, 0, 0, []), (.iconst 3, 1, 0, 0, []), (.invokevirtual 111, 3, 1, 129, [(0, 0), (0, 0), (0, 0), (0, 0), (0, 0), (0, 0), (0, 0), (0, 0)]), (.aload_n 0, 1, 0, 0, []), (.lload 4, 2, 0, 0, []), (.putfield 92, 3, 0, 245, []), (.aload_n 0, 1, 0, 0, []), (.aload_n 3, 1, 0, 3, []), (.putfield 96, 3, 0, 246, []), (.return_, 1, 0, 0, [])]
def KX7_readBlock : RB := [(0, KX7_readBlock_0)]
def rX7_readBlock : CmC := (yX7_readBlock, cX7_readBlock, 6, none, 2, 8, false)
theorem hX7_readBlock : mtC[144]? = some rX7_readBlock := rfl
set_option maxRecDepth 100000 in
theorem okX7_readBlock : cokMC rX7_readBlock KX7_readBlock = true := by sorry
def KX7_readRow_0 : List RI := [(.aconst_null, 1, 0, 0, []), (.astore_n 3, 1, 0, 3, []), (.aconst_null, 1, 0, 0, []), (.astore 4, 2, 0, 0, []), (.aload_n 0, 1, 0, 0, []), (.iload_n 1, 1, 0, 1, []), (.invokevirtual 212, 3, 1, 131, [(0, 0), (0, 0), (0, 0), (0, 0), (0, 0), (0, 0), (0, 0), (0, 0)]), (.pop, 1, 0, 0, []), (.iconst 0, 1, 0, 0, []), (.istore 5, 2, 0, 0, [])]
def KX7_readRow_14 : List RI := [(.iload 5, 2, 0, 0, []), (.sipush 500, 3, 0, 0, []), (.if_icmp .gt 63, 3, 0, 82, [])]
def KX7_readRow_22 : List RI := [(.aload_n 0, 1, 0, 0, []), (.getfield 35, 3, 0, 243, []), (.ifCond .ne 56, 3, 0, 82, [])]
def KX7_readRow_29 : List RI := [(.aload_n 0, 1, 0, 0, []), (.invokevirtual 38, 3, 0, 125, [(0, 0), (0, 0), (0, 0), (0, 0), (0, 0), (0, 0), (0, 0), (0, 0)]), (.iconst 3, 1, 0, 0, []), (.if_icmp .eq 48, 3, 0, 82, [])]
def KX7_readRow_37 : List RI := [(.aload_n 0, 1, 0, 0, []), (.iload_n 1, 1, 0, 1, []), (.iload_n 2, 1, 0, 2, []), (.aload_n 3, 1, 0, 3, []), (.ifnonnull 7, 3, 0, 48, [])]
def KX7_readRow_44 : List RI := [(.iconst 1, 1, 0, 0, []), (.goto 4, 3, 0, 49, [])]
def KX7_readRow_48 : List RI := [(.iconst 0, 1, 0, 0, [])]
def KX7_readRow_49 : List RI := [(.invokevirtual 215, 3, 3, 146, [(0, 0), (0, 0), (0, 0), (0, 0), (0, 0), (0, 0), (0, 0), (0, 0)]), (.astore 6, 2, 0, 0, []), (.aload 4, 2, 0, 0, []), (.ifnonnull 9, 3, 0, 65, [])]
def KX7_readRow_59 : List RI := [(.aload 6, 2, 0, 0, []), (.astore_n 3, 1, 0, 3, []), (.goto 10, 3, 0, 72, [])]
def KX7_readRow_65 : List RI := [(.aload 4, 2, 0, 0, []), (.aload 6, 2, 0, 0, []), (.putfield 219, 3, 0, 275, [])]
def KX7_readRow_72 : List RI := [(.aload 6, 2, 0, 0, []), (.astore 4, 2, 0, 0, []), (.iinc 5 1, 3, 0, 0, []), (.goto (-65), 3, 0, 14, [])]
def KX7_readRow_82 : List RI := [(.aload_n 3, 1, 0, 3, []), (.areturn, 1, 0, 0, [])]
def KX7_readRow : RB := [(0, KX7_readRow_0), (14, KX7_readRow_14), (22, KX7_readRow_22), (29, KX7_readRow_29), (37, KX7_readRow_37), (44, KX7_readRow_44), (48, KX7_readRow_48), (49, KX7_readRow_49), (59, KX7_readRow_59), (65, KX7_readRow_65), (72, KX7_readRow_72), (82, KX7_readRow_82)]
def rX7_readRow : CmC := (yX7_readRow, cX7_readRow, 7, (some (.object "PlainJava$Statement")), 2, 8, false)
theorem hX7_readRow : mtC[145]? = some rX7_readRow := rfl
set_option maxRecDepth 100000 in
theorem okX7_readRow : cokMC rX7_readRow KX7_readRow = true := by sorry
def KX7_readRowPart_0 : List RI := [(.iload_n 2, 1, 0, 2, []), (.ifCond .eq 27, 3, 0, 28, [])]
def KX7_readRowPart_4 : List RI := [(.aload_n 0, 1, 0, 0, []), (.invokevirtual 38, 3, 0, 125, [(0, 0), (0, 0), (0, 0), (0, 0), (0, 0), (0, 0), (0, 0), (0, 0)]), (.bipush 62, 2, 0, 0, []), (.if_icmp .eq 12, 3, 0, 22, [])]
def KX7_readRowPart_13 : List RI := [(.aload_n 0, 1, 0, 0, []), (.invokevirtual 38, 3, 0, 125, [(0, 0), (0, 0), (0, 0), (0, 0), (0, 0), (0, 0), (0, 0), (0, 0)]), (.bipush 63, 2, 0, 0, []), (.if_icmp .ne 9, 3, 0, 28, [])]
def KX7_readRowPart_22 : List RI := [(.aload_n 0, 1, 0, 0, []), (.iload_n 1, 1, 0, 1, []), (.invokevirtual 222, 3, 1, 147, [(0, 0), (0, 0), (0, 0), (0, 0), (0, 0), (0, 0), (0, 0), (0, 0)]), (.areturn, 1, 0, 0, [])]
def KX7_readRowPart_28 : List RI := [(.iload_n 2, 1, 0, 2, []), (.ifCond .eq 12, 3, 0, 41, [])]
def KX7_readRowPart_32 : List RI := [(.iload_n 3, 1, 0, 3, []), (.ifCond .eq 8, 3, 0, 41, [])]
def KX7_readRowPart_36 : List RI := [(.aload_n 0, 1, 0, 0, []), (.iconst 2, 1, 0, 0, []), (.invokevirtual 53, 3, 1, 127, [(0, 0), (0, 0), (0, 0), (0, 0), (0, 0), (0, 0), (0, 0), (0, 0)])]
def KX7_readRowPart_41 : List RI := [(.aload_n 0, 1, 0, 0, []), (.invokevirtual 38, 3, 0, 125, [(0, 0), (0, 0), (0, 0), (0, 0), (0, 0), (0, 0), (0, 0), (0, 0)]), (.bipush 71, 2, 0, 0, []), (.if_icmp .eq 13, 3, 0, 60, [])]
def KX7_readRowPart_50 : List RI := [(.aload_n 0, 1, 0, 0, []), (.invokevirtual 38, 3, 0, 125, [(0, 0), (0, 0), (0, 0), (0, 0), (0, 0), (0, 0), (0, 0), (0, 0)]), (.invokestatic 60, 3, 1, 132, []), (.ifCond .eq 20, 3, 0, 77, [])]
def KX7_readRowPart_60 : List RI := [(.aload_n 0, 1, 0, 0, []), (.bipush 91, 2, 0, 0, []), (.iload_n 1, 1, 0, 1, []), (.invokevirtual 225, 3, 2, 141, [(0, 0), (0, 0), (0, 0), (0, 0), (0, 0), (0, 0), (0, 0), (0, 0)]), (.astore 4, 2, 0, 0, []), (.aload_n 0, 1, 0, 0, []), (.iconst 4, 1, 0, 0, []), (.invokevirtual 111, 3, 1, 129, [(0, 0), (0, 0), (0, 0), (0, 0), (0, 0), (0, 0), (0, 0), (0, 0)]), (.aload 4, 2, 0, 0, []), (.areturn, 1, 0, 0, [])]
def KX7_readRowPart_77 : List RI := [(.aload_n 0, 1, 0, 0, []), (.iload_n 1, 1, 0, 1, []), (.invokevirtual 228, 3, 1, 149, [(0, 0), (0, 0), (0, 0), (0, 0), (0, 0), (0, 0), (0, 0), (0, 0)]), (.areturn, 1, 0, 0, [])]
def KX7_readRowPart : RB := [(0, KX7_readRowPart_0), (4, KX7_readRowPart_4), (13, KX7_readRowPart_13), (22, KX7_readRowPart_22), (28, KX7_readRowPart_28), (32, KX7_readRowPart_32), (36, KX7_readRowPart_36), (41, KX7_readRowPart_41), (50, KX7_readRowPart_50), (60, KX7_readRowPart_60), (77, KX7_readRowPart_77)]
def rX7_readRowPart : CmC := (yX7_readRowPart, cX7_readRowPart, 5, (some (.object "PlainJava$Statement")), 3, 8, false)
theorem hX7_readRowPart : mtC[146]? = some rX7_readRowPart := rfl
set_option maxRecDepth 100000 in
theorem okX7_readRowPart : cokMC rX7_readRowPart KX7_readRowPart = true := by sorry
def KX7_readCase_0 : List RI := [(.aload_n 0, 1, 0, 0, []), (.aload_n 0, 1, 0, 0, []), (.invokevirtual 38, 3, 0, 125, [(0, 0), (0, 0), (0, 0), (0, 0), (0, 0), (0, 0), (0, 0), (0, 0)]), (.iload_n 1, 1, 0, 1, []), (.invokevirtual 161, 3, 2, 142, [(0, 0), (0, 0), (0, 0), (0, 0), (0, 0), (0, 0), (0, 0), (0, 0)]), (.astore_n 2, 1, 0, 2, []), (.aload_n 0, 1, 0, 0, []), (.invokevirtual 57, 3, 0, 128, [(0, 0), (0, 0), (0, 0), (0, 0), (0, 0), (0, 0), (0, 0), (0, 0)]), (.aload_n 2, 1, 0, 2, []), (.getfield 231, 3, 0, 270, []), (.bipush 62, 2, 0, 0, []), (.if_icmp .ne 12, 3, 0, 32, [])]
def KX7_readCase_23 : List RI := [(.aload_n 2, 1, 0, 2, []), (.aload_n 0, 1, 0, 0, []), (.iload_n 1, 1, 0, 1, []), (.invokevirtual 170, 3, 1, 164, [(0, 0), (0, 0), (0, 0), (0, 0), (0, 0), (0, 0), (0, 0), (0, 0)]), (.putfield 174, 3, 0, 279, [])]
def KX7_readCase_32 : List RI := [(.aload_n 0, 1, 0, 0, []), (.bipush 6, 2, 0, 0, []), (.invokevirtual 111, 3, 1, 129, [(0, 0), (0, 0), (0, 0), (0, 0), (0, 0), (0, 0), (0, 0), (0, 0)]), (.aload_n 2, 1, 0, 2, []), (.areturn, 1, 0, 0, [])]
def KX7_readCase : RB := [(0, KX7_readCase_0), (23, KX7_readCase_23), (32, KX7_readCase_32)]
def rX7_readCase : CmC := (yX7_readCase, cX7_readCase, 3, (some (.object "PlainJava$Statement")), 1, 8, false)
theorem hX7_readCase : mtC[147]? = some rX7_readCase := rfl
set_option maxRecDepth 100000 in
theorem okX7_readCase : cokMC rX7_readCase KX7_readCase = true := by sorry
def KX7_readInner_0 : List RI := [(.aload_n 0, 1, 0, 0, []), (.getfield 96, 3, 0, 246, []), (.astore_n 3, 1, 0, 3, []), (.aload_n 0, 1, 0, 0, []), (.aload_n 1, 1, 0, 1, []), (.putfield 96, 3, 0, 246, []), (.aload_n 0, 1, 0, 0, []), (.iload_n 2, 1, 0, 2, []), (.iconst 1, 1, 0, 0, []), (.iadd, 1, 0, 0, []), (.invokevirtual 228, 3, 1, 149, [(0, 0), (0, 0), (0, 0), (0, 0), (0, 0), (0, 0), (0, 0), (0, 0)]), (.astore 4, 2, 0, 0, []), (.aload_n 0, 1, 0, 0, []), (.aload_n 3, 1, 0, 3, []), (.putfield 96, 3, 0, 246, []), (.aload 4, 2, 0, 0, []), (.areturn, 1, 0, 0, [])]
def KX7_readInner : RB := [(0, KX7_readInner_0)]
def rX7_readInner : CmC := (yX7_readInner, cX7_readInner, 5, (some (.object "PlainJava$Statement")), 2, 8, false)
theorem hX7_readInner : mtC[148]? = some rX7_readInner := rfl
set_option maxRecDepth 100000 in
theorem okX7_readInner : cokMC rX7_readInner KX7_readInner = true := by sorry
def KX7_readStatement_0 : List RI := [(.aload_n 0, 1, 0, 0, []), (.iload_n 1, 1, 0, 1, []), (.invokevirtual 212, 3, 1, 131, [(0, 0), (0, 0), (0, 0), (0, 0), (0, 0), (0, 0), (0, 0), (0, 0)]), (.pop, 1, 0, 0, []), (.aload_n 0, 1, 0, 0, []), (.invokevirtual 38, 3, 0, 125, [(0, 0), (0, 0), (0, 0), (0, 0), (0, 0), (0, 0), (0, 0), (0, 0)]), (.lookupswitch 148 #[(2, 142), (4, 142), (56, 106), (58, 112), (59, 118), (60, 124), (61, 130), (64, 142), (65, 142), (66, 142), (67, 142), (68, 136)], 106, 0, 158, [(2, 152), (4, 152), (56, 116), (58, 122), (59, 128), (60, 134), (61, 140), (64, 152), (65, 152), (66, 152), (67, 152), (68, 146)])]
def KX7_readStatement_116 : List RI := [(.aload_n 0, 1, 0, 0, []), (.iload_n 1, 1, 0, 1, []), (.invokevirtual 234, 3, 1, 154, [(0, 0), (0, 0), (0, 0), (0, 0), (0, 0), (0, 0), (0, 0), (0, 0)]), (.areturn, 1, 0, 0, [])]
def KX7_readStatement_122 : List RI := [(.aload_n 0, 1, 0, 0, []), (.iload_n 1, 1, 0, 1, []), (.invokevirtual 237, 3, 1, 155, [(0, 0), (0, 0), (0, 0), (0, 0), (0, 0), (0, 0), (0, 0), (0, 0)]), (.areturn, 1, 0, 0, [])]
def KX7_readStatement_128 : List RI := [(.aload_n 0, 1, 0, 0, []), (.iload_n 1, 1, 0, 1, []), (.invokevirtual 240, 3, 1, 156, [(0, 0), (0, 0), (0, 0), (0, 0), (0, 0), (0, 0), (0, 0), (0, 0)]), (.areturn, 1, 0, 0, [])]
def KX7_readStatement_134 : List RI := [(.aload_n 0, 1, 0, 0, []), (.iload_n 1, 1, 0, 1, []), (.invokevirtual 243, 3, 1, 157, [(0, 0), (0, 0), (0, 0), (0, 0), (0, 0), (0, 0), (0, 0), (0, 0)]), (.areturn, 1, 0, 0, [])]
def KX7_readStatement_140 : List RI := [(.aload_n 0, 1, 0, 0, []), (.iload_n 1, 1, 0, 1, []), (.invokevirtual 246, 3, 1, 159, [(0, 0), (0, 0), (0, 0), (0, 0), (0, 0), (0, 0), (0, 0), (0, 0)]), (.areturn, 1, 0, 0, [])]
def KX7_readStatement_146 : List RI := [(.aload_n 0, 1, 0, 0, []), (.iload_n 1, 1, 0, 1, []), (.invokevirtual 249, 3, 1, 160, [(0, 0), (0, 0), (0, 0), (0, 0), (0, 0), (0, 0), (0, 0), (0, 0)]), (.areturn, 1, 0, 0, [])]
def KX7_readStatement_152 : List RI := [(.aload_n 0, 1, 0, 0, []), (.iload_n 1, 1, 0, 1, []), (.invokevirtual 252, 3, 1, 150, [(0, 0), (0, 0), (0, 0), (0, 0), (0, 0), (0, 0), (0, 0), (0, 0)]), (.areturn, 1, 0, 0, [])]
def KX7_readStatement_158 : List RI := [(.aload_n 0, 1, 0, 0, []), (.invokevirtual 38, 3, 0, 125, [(0, 0), (0, 0), (0, 0), (0, 0), (0, 0), (0, 0), (0, 0), (0, 0)]), (.bipush 80, 2, 0, 0, []), (.if_icmp .ne 20, 3, 0, 184, [])]
def KX7_readStatement_167 : List RI := [(.aload_n 0, 1, 0, 0, []), (.invokevirtual 255, 3, 0, 126, [(0, 0), (0, 0), (0, 0), (0, 0), (0, 0), (0, 0), (0, 0), (0, 0)]), (.bipush 6, 2, 0, 0, []), (.if_icmp .ne 11, 3, 0, 184, [])]
def KX7_readStatement_176 : List RI := [(.aload_n 0, 1, 0, 0, []), (.iload_n 1, 1, 0, 1, []), (.invokevirtual 258, 3, 1, 151, [(0, 0), (0, 0), (0, 0), (0, 0), (0, 0), (0, 0), (0, 0), (0, 0)]), (.goto 8, 3, 0, 189, [])]
def KX7_readStatement_184 : List RI := [(.aload_n 0, 1, 0, 0, []), (.iload_n 1, 1, 0, 1, []), (.invokevirtual 261, 3, 1, 152, [(0, 0), (0, 0), (0, 0), (0, 0), (0, 0), (0, 0), (0, 0), (0, 0)])]
def KX7_readStatement_189 : List RI := [(.areturn, 1, 0, 0, [])]
def KX7_readStatement : RB := [(0, KX7_readStatement_0), (116, KX7_readStatement_116), (122, KX7_readStatement_122), (128, KX7_readStatement_128), (134, KX7_readStatement_134), (140, KX7_readStatement_140), (146, KX7_readStatement_146), (152, KX7_readStatement_152), (158, KX7_readStatement_158), (167, KX7_readStatement_167), (176, KX7_readStatement_176), (184, KX7_readStatement_184), (189, KX7_readStatement_189)]
def rX7_readStatement : CmC := (yX7_readStatement, cX7_readStatement, 2, (some (.object "PlainJava$Statement")), 1, 8, false)
theorem hX7_readStatement : mtC[149]? = some rX7_readStatement := rfl
set_option maxRecDepth 100000 in
theorem swX7_readStatement_10 : decode cX7_readStatement 10 = .ok (.lookupswitch 148 #[(2, 142), (4, 142), (56, 106), (58, 112), (59, 118), (60, 124), (61, 130), (64, 142), (65, 142), (66, 142), (67, 142), (68, 136)], 106) := by sorry
set_option maxRecDepth 100000 in
theorem okX7_readStatement : cokMC rX7_readStatement KX7_readStatement = true := by sorry
def KX7_readSimple_0 : List RI := [(.aload_n 0, 1, 0, 0, []), (.aload_n 0, 1, 0, 0, []), (.invokevirtual 38, 3, 0, 125, [(0, 0), (0, 0), (0, 0), (0, 0), (0, 0), (0, 0), (0, 0), (0, 0)]), (.iload_n 1, 1, 0, 1, []), (.invokevirtual 161, 3, 2, 142, [(0, 0), (0, 0), (0, 0), (0, 0), (0, 0), (0, 0), (0, 0), (0, 0)]), (.astore_n 2, 1, 0, 2, []), (.aload_n 2, 1, 0, 2, []), (.getfield 231, 3, 0, 270, []), (.iconst 2, 1, 0, 0, []), (.if_icmp .ne 11, 3, 0, 26, [])]
def KX7_readSimple_18 : List RI := [(.aload_n 0, 1, 0, 0, []), (.aload_n 2, 1, 0, 2, []), (.iload_n 1, 1, 0, 1, []), (.invokevirtual 203, 3, 2, 144, [(0, 0), (0, 0), (0, 0), (0, 0), (0, 0), (0, 0), (0, 0), (0, 0)]), (.aload_n 2, 1, 0, 2, []), (.areturn, 1, 0, 0, [])]
def KX7_readSimple_26 : List RI := [(.aload_n 0, 1, 0, 0, []), (.invokevirtual 57, 3, 0, 128, [(0, 0), (0, 0), (0, 0), (0, 0), (0, 0), (0, 0), (0, 0), (0, 0)]), (.aload_n 2, 1, 0, 2, []), (.getfield 231, 3, 0, 270, []), (.iconst 4, 1, 0, 0, []), (.if_icmp .ne 5, 3, 0, 40, [])]
def KX7_readSimple_38 : List RI := [(.aload_n 2, 1, 0, 2, []), (.areturn, 1, 0, 0, [])]
def KX7_readSimple_40 : List RI := [(.aload_n 2, 1, 0, 2, []), (.getfield 231, 3, 0, 270, []), (.bipush 67, 2, 0, 0, []), (.if_icmp .eq 20, 3, 0, 66, [])]
def KX7_readSimple_49 : List RI := [(.aload_n 2, 1, 0, 2, []), (.getfield 231, 3, 0, 270, []), (.bipush 66, 2, 0, 0, []), (.if_icmp .ne 20, 3, 0, 75, [])]
def KX7_readSimple_58 : List RI := [(.aload_n 0, 1, 0, 0, []), (.invokevirtual 38, 3, 0, 125, [(0, 0), (0, 0), (0, 0), (0, 0), (0, 0), (0, 0), (0, 0), (0, 0)]), (.iconst 4, 1, 0, 0, []), (.if_icmp .eq 12, 3, 0, 75, [])]
def KX7_readSimple_66 : List RI := [(.aload_n 2, 1, 0, 2, []), (.aload_n 0, 1, 0, 0, []), (.iload_n 1, 1, 0, 1, []), (.invokevirtual 170, 3, 1, 164, [(0, 0), (0, 0), (0, 0), (0, 0), (0, 0), (0, 0), (0, 0), (0, 0)]), (.putfield 174, 3, 0, 279, [])]
def KX7_readSimple_75 : List RI := [(.aload_n 2, 1, 0, 2, []), (.getfield 231, 3, 0, 270, []), (.bipush 66, 2, 0, 0, []), (.if_icmp .ne 22, 3, 0, 103, [])]
def KX7_readSimple_84 : List RI := [(.aload_n 2, 1, 0, 2, []), (.aload_n 0, 1, 0, 0, []), (.getfield 9, 3, 0, 240, []), (.getfield 64, 3, 0, 211, []), (.invokevirtual 68, 3, 0, 234, []), (.iconst 1, 1, 0, 0, []), (.isub, 1, 0, 0, []), (.putfield 165, 3, 0, 280, []), (.goto 48, 3, 0, 148, [])]
def KX7_readSimple_103 : List RI := [(.aload_n 2, 1, 0, 2, []), (.getfield 231, 3, 0, 270, []), (.bipush 67, 2, 0, 0, []), (.if_icmp .eq 39, 3, 0, 148, [])]
def KX7_readSimple_112 : List RI := [(.aload_n 0, 1, 0, 0, []), (.invokevirtual 38, 3, 0, 125, [(0, 0), (0, 0), (0, 0), (0, 0), (0, 0), (0, 0), (0, 0), (0, 0)]), (.bipush 80, 2, 0, 0, []), (.if_icmp .ne 30, 3, 0, 148, [])]
def KX7_readSimple_121 : List RI := [(.aload_n 2, 1, 0, 2, []), (.aload_n 0, 1, 0, 0, []), (.getfield 31, 3, 0, 242, []), (.putfield 165, 3, 0, 280, []), (.aload_n 0, 1, 0, 0, []), (.getfield 21, 3, 0, 241, []), (.getfield 89, 3, 0, 303, []), (.aload_n 0, 1, 0, 0, []), (.getfield 31, 3, 0, 242, []), (.sipush 200, 3, 0, 0, []), (.iastore, 1, 0, 0, []), (.aload_n 0, 1, 0, 0, []), (.invokevirtual 57, 3, 0, 128, [(0, 0), (0, 0), (0, 0), (0, 0), (0, 0), (0, 0), (0, 0), (0, 0)])]
def KX7_readSimple_148 : List RI := [(.aload_n 0, 1, 0, 0, []), (.iconst 4, 1, 0, 0, []), (.invokevirtual 111, 3, 1, 129, [(0, 0), (0, 0), (0, 0), (0, 0), (0, 0), (0, 0), (0, 0), (0, 0)]), (.aload_n 2, 1, 0, 2, []), (.areturn, 1, 0, 0, [])]
def KX7_readSimple : RB := [(0, KX7_readSimple_0), (18, KX7_readSimple_18), (26, KX7_readSimple_26), (38, KX7_readSimple_38), (40, KX7_readSimple_40), (49, KX7_readSimple_49), (58, KX7_readSimple_58), (66, KX7_readSimple_66), (75, KX7_readSimple_75), (84, KX7_readSimple_84), (103, KX7_readSimple_103), (112, KX7_readSimple_112), (121, KX7_readSimple_121), (148, KX7_readSimple_148)]
def rX7_readSimple : CmC := (yX7_readSimple, cX7_readSimple, 3, (some (.object "PlainJava$Statement")), 1, 8, false)
theorem hX7_readSimple : mtC[150]? = some rX7_readSimple := rfl
set_option maxRecDepth 100000 in
theorem okX7_readSimple : cokMC rX7_readSimple KX7_readSimple = true := by sorry
def KX7_readLabel_0 : List RI := [(.aload_n 0, 1, 0, 0, []), (.bipush 6, 2, 0, 0, []), (.iload_n 1, 1, 0, 1, []), (.invokevirtual 161, 3, 2, 142, [(0, 0), (0, 0), (0, 0), (0, 0), (0, 0), (0, 0), (0, 0), (0, 0)]), (.astore_n 2, 1, 0, 2, []), (.aload_n 2, 1, 0, 2, []), (.aload_n 0, 1, 0, 0, []), (.getfield 31, 3, 0, 242, []), (.putfield 165, 3, 0, 280, []), (.aload_n 0, 1, 0, 0, []), (.getfield 21, 3, 0, 241, []), (.getfield 89, 3, 0, 303, []), (.aload_n 0, 1, 0, 0, []), (.getfield 31, 3, 0, 242, []), (.sipush 200, 3, 0, 0, []), (.iastore, 1, 0, 0, []), (.aload_n 0, 1, 0, 0, []), (.invokevirtual 57, 3, 0, 128, [(0, 0), (0, 0), (0, 0), (0, 0), (0, 0), (0, 0), (0, 0), (0, 0)]), (.aload_n 0, 1, 0, 0, []), (.bipush 6, 2, 0, 0, []), (.invokevirtual 111, 3, 1, 129, [(0, 0), (0, 0), (0, 0), (0, 0), (0, 0), (0, 0), (0, 0), (0, 0)]), (.aload_n 2, 1, 0, 2, []), (.aload_n 0, 1, 0, 0, []), (.aload_n 2, 1, 0, 2, []), (.iload_n 1, 1, 0, 1, []), (.invokevirtual 264, 3, 2, 148, [(0, 0), (0, 0), (0, 0), (0, 0), (0, 0), (0, 0), (0, 0), (0, 0)]), (.putfield 211, 3, 0, 276, []), (.aload_n 2, 1, 0, 2, []), (.areturn, 1, 0, 0, [])]
def KX7_readLabel : RB := [(0, KX7_readLabel_0)]
def rX7_readLabel : CmC := (yX7_readLabel, cX7_readLabel, 3, (some (.object "PlainJava$Statement")), 1, 8, false)
theorem hX7_readLabel : mtC[151]? = some rX7_readLabel := rfl
set_option maxRecDepth 100000 in
theorem okX7_readLabel : cokMC rX7_readLabel KX7_readLabel = true := by sorry
def KX7_readExpStatement_0 : List RI := [(.aload_n 0, 1, 0, 0, []), (.bipush 90, 2, 0, 0, []), (.iload_n 1, 1, 0, 1, []), (.invokevirtual 161, 3, 2, 142, [(0, 0), (0, 0), (0, 0), (0, 0), (0, 0), (0, 0), (0, 0), (0, 0)]), (.astore_n 2, 1, 0, 2, []), (.aload_n 2, 1, 0, 2, []), (.aload_n 0, 1, 0, 0, []), (.iload_n 1, 1, 0, 1, []), (.invokevirtual 170, 3, 1, 164, [(0, 0), (0, 0), (0, 0), (0, 0), (0, 0), (0, 0), (0, 0), (0, 0)]), (.putfield 174, 3, 0, 279, []), (.aload_n 0, 1, 0, 0, []), (.iconst 4, 1, 0, 0, []), (.invokevirtual 111, 3, 1, 129, [(0, 0), (0, 0), (0, 0), (0, 0), (0, 0), (0, 0), (0, 0), (0, 0)]), (.aload_n 2, 1, 0, 2, []), (.areturn, 1, 0, 0, [])]
def KX7_readExpStatement : RB := [(0, KX7_readExpStatement_0)]
def rX7_readExpStatement : CmC := (yX7_readExpStatement, cX7_readExpStatement, 3, (some (.object "PlainJava$Statement")), 1, 8, false)
theorem hX7_readExpStatement : mtC[152]? = some rX7_readExpStatement := rfl
set_option maxRecDepth 100000 in
theorem okX7_readExpStatement : cokMC rX7_readExpStatement KX7_readExpStatement = true := by sorry
def KX7_readCondition_0 : List RI := [(.aload_n 0, 1, 0, 0, []), (.iconst 0, 1, 0, 0, []), (.invokevirtual 111, 3, 1, 129, [(0, 0), (0, 0), (0, 0), (0, 0), (0, 0), (0, 0), (0, 0), (0, 0)]), (.aload_n 1, 1, 0, 1, []), (.aload_n 0, 1, 0, 0, []), (.iload_n 2, 1, 0, 2, []), (.invokevirtual 170, 3, 1, 164, [(0, 0), (0, 0), (0, 0), (0, 0), (0, 0), (0, 0), (0, 0), (0, 0)]), (.putfield 174, 3, 0, 279, []), (.aload_n 0, 1, 0, 0, []), (.iconst 1, 1, 0, 0, []), (.invokevirtual 111, 3, 1, 129, [(0, 0), (0, 0), (0, 0), (0, 0), (0, 0), (0, 0), (0, 0), (0, 0)]), (.return_, 1, 0, 0, [])]
def KX7_readCondition : RB := [(0, KX7_readCondition_0)]
def rX7_readCondition : CmC := (yX7_readCondition, cX7_readCondition, 3, none, 2, 8, false)
theorem hX7_readCondition : mtC[153]? = some rX7_readCondition := rfl
set_option maxRecDepth 100000 in
theorem okX7_readCondition : cokMC rX7_readCondition KX7_readCondition = true := by sorry
def KX7_readIf_0 : List RI := [(.aload_n 0, 1, 0, 0, []), (.bipush 56, 2, 0, 0, []), (.iload_n 1, 1, 0, 1, []), (.invokevirtual 161, 3, 2, 142, [(0, 0), (0, 0), (0, 0), (0, 0), (0, 0), (0, 0), (0, 0), (0, 0)]), (.astore_n 2, 1, 0, 2, []), (.aload_n 0, 1, 0, 0, []), (.invokevirtual 57, 3, 0, 128, [(0, 0), (0, 0), (0, 0), (0, 0), (0, 0), (0, 0), (0, 0), (0, 0)]), (.aload_n 0, 1, 0, 0, []), (.aload_n 2, 1, 0, 2, []), (.iload_n 1, 1, 0, 1, []), (.invokevirtual 268, 3, 2, 153, [(0, 0), (0, 0), (0, 0), (0, 0), (0, 0), (0, 0), (0, 0), (0, 0)]), (.aload_n 2, 1, 0, 2, []), (.aload_n 0, 1, 0, 0, []), (.aload_n 2, 1, 0, 2, []), (.iload_n 1, 1, 0, 1, []), (.invokevirtual 264, 3, 2, 148, [(0, 0), (0, 0), (0, 0), (0, 0), (0, 0), (0, 0), (0, 0), (0, 0)]), (.putfield 211, 3, 0, 276, []), (.aload_n 0, 1, 0, 0, []), (.bipush 57, 2, 0, 0, []), (.invokevirtual 114, 3, 1, 130, [(0, 0), (0, 0), (0, 0), (0, 0), (0, 0), (0, 0), (0, 0), (0, 0)]), (.ifCond .eq 13, 3, 0, 47, [])]
def KX7_readIf_37 : List RI := [(.aload_n 2, 1, 0, 2, []), (.aload_n 0, 1, 0, 0, []), (.aload_n 2, 1, 0, 2, []), (.iload_n 1, 1, 0, 1, []), (.invokevirtual 264, 3, 2, 148, [(0, 0), (0, 0), (0, 0), (0, 0), (0, 0), (0, 0), (0, 0), (0, 0)]), (.putfield 271, 3, 0, 277, [])]
def KX7_readIf_47 : List RI := [(.aload_n 2, 1, 0, 2, []), (.areturn, 1, 0, 0, [])]
def KX7_readIf : RB := [(0, KX7_readIf_0), (37, KX7_readIf_37), (47, KX7_readIf_47)]
def rX7_readIf : CmC := (yX7_readIf, cX7_readIf, 3, (some (.object "PlainJava$Statement")), 1, 8, false)
theorem hX7_readIf : mtC[154]? = some rX7_readIf := rfl
set_option maxRecDepth 100000 in
theorem okX7_readIf : cokMC rX7_readIf KX7_readIf = true := by sorry
def KX7_readWhile_0 : List RI := [(.aload_n 0, 1, 0, 0, []), (.bipush 58, 2, 0, 0, []), (.iload_n 1, 1, 0, 1, []), (.invokevirtual 161, 3, 2, 142, [(0, 0), (0, 0), (0, 0), (0, 0), (0, 0), (0, 0), (0, 0), (0, 0)]), (.astore_n 2, 1, 0, 2, []), (.aload_n 0, 1, 0, 0, []), (.invokevirtual 57, 3, 0, 128, [(0, 0), (0, 0), (0, 0), (0, 0), (0, 0), (0, 0), (0, 0), (0, 0)]), (.aload_n 0, 1, 0, 0, []), (.aload_n 2, 1, 0, 2, []), (.iload_n 1, 1, 0, 1, []), (.invokevirtual 268, 3, 2, 153, [(0, 0), (0, 0), (0, 0), (0, 0), (0, 0), (0, 0), (0, 0), (0, 0)]), (.aload_n 2, 1, 0, 2, []), (.aload_n 0, 1, 0, 0, []), (.aload_n 2, 1, 0, 2, []), (.iload_n 1, 1, 0, 1, []), (.invokevirtual 264, 3, 2, 148, [(0, 0), (0, 0), (0, 0), (0, 0), (0, 0), (0, 0), (0, 0), (0, 0)]), (.putfield 211, 3, 0, 276, []), (.aload_n 2, 1, 0, 2, []), (.areturn, 1, 0, 0, [])]
def KX7_readWhile : RB := [(0, KX7_readWhile_0)]
def rX7_readWhile : CmC := (yX7_readWhile, cX7_readWhile, 3, (some (.object "PlainJava$Statement")), 1, 8, false)
theorem hX7_readWhile : mtC[155]? = some rX7_readWhile := rfl
set_option maxRecDepth 100000 in
theorem okX7_readWhile : cokMC rX7_readWhile KX7_readWhile = true := by sorry
def KX7_readDo_0 : List RI := [(.aload_n 0, 1, 0, 0, []), (.bipush 59, 2, 0, 0, []), (.iload_n 1, 1, 0, 1, []), (.invokevirtual 161, 3, 2, 142, [(0, 0), (0, 0), (0, 0), (0, 0), (0, 0), (0, 0), (0, 0), (0, 0)]), (.astore_n 2, 1, 0, 2, []), (.aload_n 0, 1, 0, 0, []), (.invokevirtual 57, 3, 0, 128, [(0, 0), (0, 0), (0, 0), (0, 0), (0, 0), (0, 0), (0, 0), (0, 0)]), (.aload_n 2, 1, 0, 2, []), (.aload_n 0, 1, 0, 0, []), (.aload_n 2, 1, 0, 2, []), (.iload_n 1, 1, 0, 1, []), (.invokevirtual 264, 3, 2, 148, [(0, 0), (0, 0), (0, 0), (0, 0), (0, 0), (0, 0), (0, 0), (0, 0)]), (.putfield 211, 3, 0, 276, []), (.aload_n 0, 1, 0, 0, []), (.bipush 58, 2, 0, 0, []), (.invokevirtual 111, 3, 1, 129, [(0, 0), (0, 0), (0, 0), (0, 0), (0, 0), (0, 0), (0, 0), (0, 0)]), (.aload_n 0, 1, 0, 0, []), (.aload_n 2, 1, 0, 2, []), (.iload_n 1, 1, 0, 1, []), (.invokevirtual 268, 3, 2, 153, [(0, 0), (0, 0), (0, 0), (0, 0), (0, 0), (0, 0), (0, 0), (0, 0)]), (.aload_n 0, 1, 0, 0, []), (.iconst 4, 1, 0, 0, []), (.invokevirtual 111, 3, 1, 129, [(0, 0), (0, 0), (0, 0), (0, 0), (0, 0), (0, 0), (0, 0), (0, 0)]), (.aload_n 2, 1, 0, 2, []), (.areturn, 1, 0, 0, [])]
def KX7_readDo : RB := [(0, KX7_readDo_0)]
def rX7_readDo : CmC := (yX7_readDo, cX7_readDo, 3, (some (.object "PlainJava$Statement")), 1, 8, false)
theorem hX7_readDo : mtC[156]? = some rX7_readDo := rfl
set_option maxRecDepth 100000 in
theorem okX7_readDo : cokMC rX7_readDo KX7_readDo = true := by sorry
def KX7_readFor_0 : List RI := [(.aload_n 0, 1, 0, 0, []), (.bipush 60, 2, 0, 0, []), (.iload_n 1, 1, 0, 1, []), (.invokevirtual 161, 3, 2, 142, [(0, 0), (0, 0), (0, 0), (0, 0), (0, 0), (0, 0), (0, 0), (0, 0)]), (.astore_n 2, 1, 0, 2, []), (.aload_n 0, 1, 0, 0, []), (.getfield 96, 3, 0, 246, []), (.astore_n 3, 1, 0, 3, []), (.aload_n 0, 1, 0, 0, []), (.getfield 92, 3, 0, 245, []), (.lstore 4, 2, 0, 0, []), (.aload_n 0, 1, 0, 0, []), (.invokevirtual 57, 3, 0, 128, [(0, 0), (0, 0), (0, 0), (0, 0), (0, 0), (0, 0), (0, 0), (0, 0)]), (.aload_n 0, 1, 0, 0, []), (.iconst 0, 1, 0, 0, []), (.invokevirtual 111, 3, 1, 129, [(0, 0), (0, 0), (0, 0), (0, 0), (0, 0), (0, 0), (0, 0), (0, 0)]), (.aload_n 0, 1, 0, 0, []), (.aload_n 2, 1, 0, 2, []), (.putfield 96, 3, 0, 246, []), (.aload_n 0, 1, 0, 0, []), (.invokevirtual 38, 3, 0, 125, [(0, 0), (0, 0), (0, 0), (0, 0), (0, 0), (0, 0), (0, 0), (0, 0)]), (.bipush 71, 2, 0, 0, []), (.if_icmp .eq 13, 3, 0, 52, [])]
def KX7_readFor_42 : List RI := [(.aload_n 0, 1, 0, 0, []), (.invokevirtual 38, 3, 0, 125, [(0, 0), (0, 0), (0, 0), (0, 0), (0, 0), (0, 0), (0, 0), (0, 0)]), (.invokestatic 60, 3, 1, 132, []), (.ifCond .eq 17, 3, 0, 66, [])]
def KX7_readFor_52 : List RI := [(.aload_n 2, 1, 0, 2, []), (.aload_n 0, 1, 0, 0, []), (.bipush 93, 2, 0, 0, []), (.iload_n 1, 1, 0, 1, []), (.invokevirtual 225, 3, 2, 141, [(0, 0), (0, 0), (0, 0), (0, 0), (0, 0), (0, 0), (0, 0), (0, 0)]), (.putfield 271, 3, 0, 277, []), (.goto 20, 3, 0, 83, [])]
def KX7_readFor_66 : List RI := [(.aload_n 0, 1, 0, 0, []), (.invokevirtual 38, 3, 0, 125, [(0, 0), (0, 0), (0, 0), (0, 0), (0, 0), (0, 0), (0, 0), (0, 0)]), (.iconst 4, 1, 0, 0, []), (.if_icmp .eq 12, 3, 0, 83, [])]
def KX7_readFor_74 : List RI := [(.aload_n 2, 1, 0, 2, []), (.aload_n 0, 1, 0, 0, []), (.iload_n 1, 1, 0, 1, []), (.invokevirtual 274, 3, 1, 158, [(0, 0), (0, 0), (0, 0), (0, 0), (0, 0), (0, 0), (0, 0), (0, 0)]), (.putfield 271, 3, 0, 277, [])]
def KX7_readFor_83 : List RI := [(.aload_n 0, 1, 0, 0, []), (.iconst 4, 1, 0, 0, []), (.invokevirtual 111, 3, 1, 129, [(0, 0), (0, 0), (0, 0), (0, 0), (0, 0), (0, 0), (0, 0), (0, 0)]), (.aload_n 0, 1, 0, 0, []), (.invokevirtual 38, 3, 0, 125, [(0, 0), (0, 0), (0, 0), (0, 0), (0, 0), (0, 0), (0, 0), (0, 0)]), (.iconst 4, 1, 0, 0, []), (.if_icmp .eq 12, 3, 0, 105, [])]
def KX7_readFor_96 : List RI := [(.aload_n 2, 1, 0, 2, []), (.aload_n 0, 1, 0, 0, []), (.iload_n 1, 1, 0, 1, []), (.invokevirtual 170, 3, 1, 164, [(0, 0), (0, 0), (0, 0), (0, 0), (0, 0), (0, 0), (0, 0), (0, 0)]), (.putfield 174, 3, 0, 279, [])]
def KX7_readFor_105 : List RI := [(.aload_n 0, 1, 0, 0, []), (.iconst 4, 1, 0, 0, []), (.invokevirtual 111, 3, 1, 129, [(0, 0), (0, 0), (0, 0), (0, 0), (0, 0), (0, 0), (0, 0), (0, 0)]), (.aload_n 0, 1, 0, 0, []), (.invokevirtual 38, 3, 0, 125, [(0, 0), (0, 0), (0, 0), (0, 0), (0, 0), (0, 0), (0, 0), (0, 0)]), (.iconst 1, 1, 0, 0, []), (.if_icmp .eq 12, 3, 0, 127, [])]
def KX7_readFor_118 : List RI := [(.aload_n 2, 1, 0, 2, []), (.aload_n 0, 1, 0, 0, []), (.iload_n 1, 1, 0, 1, []), (.invokevirtual 274, 3, 1, 158, [(0, 0), (0, 0), (0, 0), (0, 0), (0, 0), (0, 0), (0, 0), (0, 0)]), (.putfield 277, 3, 0, 278, [])]
def KX7_readFor_127 : List RI := [(.aload_n 0, 1, 0, 0, []), (.iconst 1, 1, 0, 0, []), (.invokevirtual 111, 3, 1, 129, [(0, 0), (0, 0), (0, 0), (0, 0), (0, 0), (0, 0), (0, 0), (0, 0)]), (.aload_n 2, 1, 0, 2, []), (.aload_n 0, 1, 0, 0, []), (.aload_n 2, 1, 0, 2, []), (.iload_n 1, 1, 0, 1, []), (.invokevirtual 264, 3, 2, 148, [(0, 0), (0, 0), (0, 0), (0, 0), (0, 0), (0, 0), (0, 0), (0, 0)]), (.putfield 211, 3, 0, 276, []), (.aload_n 0, 1, 0, 0, []), (.lload 4, 2, 0, 0, []), (.putfield 92, 3, 0, 245, []), (.aload_n 0, 1, 0, 0, []), (.aload_n 3, 1, 0, 3, []), (.putfield 96, 3, 0, 246, []), (.aload_n 2, 1, 0, 2, []), (.areturn, 1, 0, 0, [])]
def KX7_readFor : RB := [(0, KX7_readFor_0), (42, KX7_readFor_42), (52, KX7_readFor_52), (66, KX7_readFor_66), (74, KX7_readFor_74), (83, KX7_readFor_83), (96, KX7_readFor_96), (105, KX7_readFor_105), (118, KX7_readFor_118), (127, KX7_readFor_127)]
def rX7_readFor : CmC := (yX7_readFor, cX7_readFor, 6, (some (.object "PlainJava$Statement")), 1, 8, false)
theorem hX7_readFor : mtC[157]? = some rX7_readFor := rfl
set_option maxRecDepth 100000 in
theorem okX7_readFor : cokMC rX7_readFor KX7_readFor = true := by sorry
def KX7_readForExps_0 : List RI := [(.aload_n 0, 1, 0, 0, []), (.bipush 94, 2, 0, 0, []), (.iload_n 1, 1, 0, 1, []), (.invokevirtual 161, 3, 2, 142, [(0, 0), (0, 0), (0, 0), (0, 0), (0, 0), (0, 0), (0, 0), (0, 0)]), (.astore_n 2, 1, 0, 2, []), (.aload_n 2, 1, 0, 2, []), (.aload_n 0, 1, 0, 0, []), (.iload_n 1, 1, 0, 1, []), (.invokevirtual 170, 3, 1, 164, [(0, 0), (0, 0), (0, 0), (0, 0), (0, 0), (0, 0), (0, 0), (0, 0)]), (.putfield 174, 3, 0, 279, []), (.aload_n 2, 1, 0, 2, []), (.astore_n 3, 1, 0, 3, []), (.iconst 0, 1, 0, 0, []), (.istore 4, 2, 0, 0, [])]
def KX7_readForExps_22 : List RI := [(.iload 4, 2, 0, 0, []), (.sipush 500, 3, 0, 0, []), (.if_icmp .gt 42, 3, 0, 69, [])]
def KX7_readForExps_30 : List RI := [(.aload_n 0, 1, 0, 0, []), (.iconst 5, 1, 0, 0, []), (.invokevirtual 114, 3, 1, 130, [(0, 0), (0, 0), (0, 0), (0, 0), (0, 0), (0, 0), (0, 0), (0, 0)]), (.ifCond .eq 34, 3, 0, 69, [])]
def KX7_readForExps_38 : List RI := [(.aload_n 3, 1, 0, 3, []), (.aload_n 0, 1, 0, 0, []), (.bipush 94, 2, 0, 0, []), (.iload_n 1, 1, 0, 1, []), (.invokevirtual 161, 3, 2, 142, [(0, 0), (0, 0), (0, 0), (0, 0), (0, 0), (0, 0), (0, 0), (0, 0)]), (.putfield 219, 3, 0, 275, []), (.aload_n 3, 1, 0, 3, []), (.getfield 219, 3, 0, 275, []), (.astore_n 3, 1, 0, 3, []), (.aload_n 3, 1, 0, 3, []), (.aload_n 0, 1, 0, 0, []), (.iload_n 1, 1, 0, 1, []), (.invokevirtual 170, 3, 1, 164, [(0, 0), (0, 0), (0, 0), (0, 0), (0, 0), (0, 0), (0, 0), (0, 0)]), (.putfield 174, 3, 0, 279, []), (.iinc 4 1, 3, 0, 0, []), (.goto (-44), 3, 0, 22, [])]
def KX7_readForExps_69 : List RI := [(.aload_n 2, 1, 0, 2, []), (.areturn, 1, 0, 0, [])]
def KX7_readForExps : RB := [(0, KX7_readForExps_0), (22, KX7_readForExps_22), (30, KX7_readForExps_30), (38, KX7_readForExps_38), (69, KX7_readForExps_69)]
def rX7_readForExps : CmC := (yX7_readForExps, cX7_readForExps, 5, (some (.object "PlainJava$Statement")), 1, 8, false)
theorem hX7_readForExps : mtC[158]? = some rX7_readForExps := rfl
set_option maxRecDepth 100000 in
theorem okX7_readForExps : cokMC rX7_readForExps KX7_readForExps = true := by sorry
def KX7_readSwitch_0 : List RI := [(.aload_n 0, 1, 0, 0, []), (.bipush 61, 2, 0, 0, []), (.iload_n 1, 1, 0, 1, []), (.invokevirtual 161, 3, 2, 142, [(0, 0), (0, 0), (0, 0), (0, 0), (0, 0), (0, 0), (0, 0), (0, 0)]), (.astore_n 2, 1, 0, 2, []), (.aload_n 0, 1, 0, 0, []), (.getfield 96, 3, 0, 246, []), (.astore_n 3, 1, 0, 3, []), (.aload_n 0, 1, 0, 0, []), (.getfield 92, 3, 0, 245, []), (.lstore 4, 2, 0, 0, []), (.aload_n 0, 1, 0, 0, []), (.invokevirtual 57, 3, 0, 128, [(0, 0), (0, 0), (0, 0), (0, 0), (0, 0), (0, 0), (0, 0), (0, 0)]), (.aload_n 0, 1, 0, 0, []), (.aload_n 2, 1, 0, 2, []), (.iload_n 1, 1, 0, 1, []), (.invokevirtual 268, 3, 2, 153, [(0, 0), (0, 0), (0, 0), (0, 0), (0, 0), (0, 0), (0, 0), (0, 0)]), (.aload_n 0, 1, 0, 0, []), (.aload_n 2, 1, 0, 2, []), (.putfield 96, 3, 0, 246, []), (.aload_n 0, 1, 0, 0, []), (.iconst 2, 1, 0, 0, []), (.invokevirtual 111, 3, 1, 129, [(0, 0), (0, 0), (0, 0), (0, 0), (0, 0), (0, 0), (0, 0), (0, 0)]), (.aload_n 2, 1, 0, 2, []), (.aload_n 0, 1, 0, 0, []), (.iload_n 1, 1, 0, 1, []), (.iconst 1, 1, 0, 0, []), (.iadd, 1, 0, 0, []), (.iconst 1, 1, 0, 0, []), (.invokevirtual 207, 3, 2, 145, [(0, 0), (0, 0), (0, 0), (0, 0), (0, 0), (0, 0), (0, 0), (0, 0)]), (.putfield 211, 3, 0, 276, []), (.aload_n 0, 1, 0, 0, []), (.iconst 3, 1, 0, 0, []), (.invokevirtual 111, 3, 1, 129, [(0, 0), (0, 0), (0, 0), (0, 0), (0, 0), (0, 0), (0, 0), (0, 0)]), (.aload_n 0, 1, 0, 0, []), (.lload 4, 2, 0, 0, []), (.putfield 92, 3, 0, 245, []), (.aload_n 0, 1, 0, 0, []), (.aload_n 3, 1, 0, 3, []), (.putfield 96, 3, 0, 246, []), (.aload_n 2, 1, 0, 2, []), (.areturn, 1, 0, 0, [])]
def KX7_readSwitch : RB := [(0, KX7_readSwitch_0)]
def rX7_readSwitch : CmC := (yX7_readSwitch, cX7_readSwitch, 6, (some (.object "PlainJava$Statement")), 1, 8, false)
theorem hX7_readSwitch : mtC[159]? = some rX7_readSwitch := rfl
set_option maxRecDepth 100000 in
theorem okX7_readSwitch : cokMC rX7_readSwitch KX7_readSwitch = true := by sorry
def KX7_readTry_0 : List RI := [(.aload_n 0, 1, 0, 0, []), (.bipush 68, 2, 0, 0, []), (.iload_n 1, 1, 0, 1, []), (.invokevirtual 161, 3, 2, 142, [(0, 0), (0, 0), (0, 0), (0, 0), (0, 0), (0, 0), (0, 0), (0, 0)]), (.astore_n 2, 1, 0, 2, []), (.aload_n 0, 1, 0, 0, []), (.getfield 96, 3, 0, 246, []), (.astore_n 3, 1, 0, 3, []), (.aload_n 0, 1, 0, 0, []), (.getfield 92, 3, 0, 245, []), (.lstore 4, 2, 0, 0, []), (.aload_n 0, 1, 0, 0, []), (.invokevirtual 57, 3, 0, 128, [(0, 0), (0, 0), (0, 0), (0, 0), (0, 0), (0, 0), (0, 0), (0, 0)]), (.aload_n 0, 1, 0, 0, []), (.aload_n 2, 1, 0, 2, []), (.putfield 96, 3, 0, 246, []), (.aload_n 2, 1, 0, 2, []), (.aload_n 0, 1, 0, 0, []), (.iload_n 1, 1, 0, 1, []), (.invokevirtual 104, 3, 1, 143, [(0, 0), (0, 0), (0, 0), (0, 0), (0, 0), (0, 0), (0, 0), (0, 0)]), (.putfield 211, 3, 0, 276, []), (.aload_n 0, 1, 0, 0, []), (.invokevirtual 38, 3, 0, 125, [(0, 0), (0, 0), (0, 0), (0, 0), (0, 0), (0, 0), (0, 0), (0, 0)]), (.bipush 69, 2, 0, 0, []), (.if_icmp .eq 17, 3, 0, 60, [])]
def KX7_readTry_46 : List RI := [(.aload_n 0, 1, 0, 0, []), (.invokevirtual 38, 3, 0, 125, [(0, 0), (0, 0), (0, 0), (0, 0), (0, 0), (0, 0), (0, 0), (0, 0)]), (.bipush 70, 2, 0, 0, []), (.if_icmp .eq 8, 3, 0, 60, [])]
def KX7_readTry_55 : List RI := [(.aload_n 0, 1, 0, 0, []), (.iconst 2, 1, 0, 0, []), (.invokevirtual 53, 3, 1, 127, [(0, 0), (0, 0), (0, 0), (0, 0), (0, 0), (0, 0), (0, 0), (0, 0)])]
def KX7_readTry_60 : List RI := [(.aload_n 0, 1, 0, 0, []), (.bipush 69, 2, 0, 0, []), (.invokevirtual 114, 3, 1, 130, [(0, 0), (0, 0), (0, 0), (0, 0), (0, 0), (0, 0), (0, 0), (0, 0)]), (.ifCond .eq 47, 3, 0, 113, [])]
def KX7_readTry_69 : List RI := [(.aload_n 0, 1, 0, 0, []), (.iconst 0, 1, 0, 0, []), (.invokevirtual 111, 3, 1, 129, [(0, 0), (0, 0), (0, 0), (0, 0), (0, 0), (0, 0), (0, 0), (0, 0)]), (.aload_n 2, 1, 0, 2, []), (.aload_n 0, 1, 0, 0, []), (.iconst 3, 1, 0, 0, []), (.iconst 0, 1, 0, 0, []), (.iconst 1, 1, 0, 0, []), (.invokevirtual 123, 3, 3, 137, [(0, 0), (0, 0), (0, 0), (0, 0), (0, 0), (0, 0), (0, 0), (0, 0)]), (.putfield 165, 3, 0, 280, []), (.aload_n 0, 1, 0, 0, []), (.aload_n 2, 1, 0, 2, []), (.getfield 165, 3, 0, 280, []), (.invokevirtual 127, 3, 1, 138, [(0, 0), (0, 0), (0, 0), (0, 0), (0, 0), (0, 0), (0, 0), (0, 0)]), (.aload_n 0, 1, 0, 0, []), (.iconst 1, 1, 0, 0, []), (.invokevirtual 111, 3, 1, 129, [(0, 0), (0, 0), (0, 0), (0, 0), (0, 0), (0, 0), (0, 0), (0, 0)]), (.aload_n 2, 1, 0, 2, []), (.aload_n 0, 1, 0, 0, []), (.iload_n 1, 1, 0, 1, []), (.invokevirtual 104, 3, 1, 143, [(0, 0), (0, 0), (0, 0), (0, 0), (0, 0), (0, 0), (0, 0), (0, 0)]), (.putfield 271, 3, 0, 277, []), (.aload_n 0, 1, 0, 0, []), (.lload 4, 2, 0, 0, []), (.putfield 92, 3, 0, 245, [])]
def KX7_readTry_113 : List RI := [(.aload_n 0, 1, 0, 0, []), (.bipush 70, 2, 0, 0, []), (.invokevirtual 114, 3, 1, 130, [(0, 0), (0, 0), (0, 0), (0, 0), (0, 0), (0, 0), (0, 0), (0, 0)]), (.ifCond .eq 12, 3, 0, 131, [])]
def KX7_readTry_122 : List RI := [(.aload_n 2, 1, 0, 2, []), (.aload_n 0, 1, 0, 0, []), (.iload_n 1, 1, 0, 1, []), (.invokevirtual 104, 3, 1, 143, [(0, 0), (0, 0), (0, 0), (0, 0), (0, 0), (0, 0), (0, 0), (0, 0)]), (.putfield 277, 3, 0, 278, [])]
def KX7_readTry_131 : List RI := [(.aload_n 0, 1, 0, 0, []), (.aload_n 3, 1, 0, 3, []), (.putfield 96, 3, 0, 246, []), (.aload_n 2, 1, 0, 2, []), (.areturn, 1, 0, 0, [])]
def KX7_readTry : RB := [(0, KX7_readTry_0), (46, KX7_readTry_46), (55, KX7_readTry_55), (60, KX7_readTry_60), (69, KX7_readTry_69), (113, KX7_readTry_113), (122, KX7_readTry_122), (131, KX7_readTry_131)]
def rX7_readTry : CmC := (yX7_readTry, cX7_readTry, 6, (some (.object "PlainJava$Statement")), 1, 8, false)
theorem hX7_readTry : mtC[160]? = some rX7_readTry := rfl
set_option maxRecDepth 100000 in
theorem okX7_readTry : cokMC rX7_readTry KX7_readTry = true := by sorry
def KX7_put_0 : List RI := [(.aload_n 1, 1, 0, 1, []), (.aload_n 0, 1, 0, 0, []), (.getfield 9, 3, 0, 240, []), (.getfield 280, 3, 0, 213, []), (.invokevirtual 68, 3, 0, 234, []), (.putfield 283, 3, 0, 65, []), (.aload_n 1, 1, 0, 1, []), (.aload_n 0, 1, 0, 0, []), (.getfield 31, 3, 0, 242, []), (.iconst 1, 1, 0, 0, []), (.isub, 1, 0, 0, []), (.putfield 286, 3, 0, 64, []), (.aload_n 0, 1, 0, 0, []), (.getfield 9, 3, 0, 240, []), (.getfield 280, 3, 0, 213, []), (.aload_n 1, 1, 0, 1, []), (.invokevirtual 85, 3, 1, 236, []), (.pop, 1, 0, 0, []), (.aload_n 1, 1, 0, 1, []), (.areturn, 1, 0, 0, [])]
def KX7_put : RB := [(0, KX7_put_0)]
def rX7_put : CmC := (yX7_put, cX7_put, 2, (some (.object "PlainJava$Exp")), 1, 8, false)
theorem hX7_put : mtC[161]? = some rX7_put := rfl
set_option maxRecDepth 100000 in
theorem okX7_put : cokMC rX7_put KX7_put = true := by sorry
def KX7_opened_0 : List RI := [(.new 178, 3, 0, 2, []), (.dup, 1, 0, 0, []), (.iload_n 1, 1, 0, 1, []), (.iload_n 2, 1, 0, 2, []), (.aload_n 0, 1, 0, 0, []), (.getfield 31, 3, 0, 242, []), (.aload_n 0, 1, 0, 0, []), (.getfield 9, 3, 0, 240, []), (.getfield 280, 3, 0, 213, []), (.invokevirtual 68, 3, 0, 234, []), (.invokespecial 186, 3, 4, 17, []), (.areturn, 1, 0, 0, [])]
def KX7_opened : RB := [(0, KX7_opened_0)]
def rX7_opened : CmC := (yX7_opened, cX7_opened, 3, (some (.object "PlainJava$Exp")), 2, 8, false)
theorem hX7_opened : mtC[162]? = some rX7_opened := rfl
set_option maxRecDepth 100000 in
theorem okX7_opened : cokMC rX7_opened KX7_opened = true := by sorry
def KX7_putMark_0 : List RI := [(.aload_n 0, 1, 0, 0, []), (.aload_n 0, 1, 0, 0, []), (.iload_n 1, 1, 0, 1, []), (.iload_n 2, 1, 0, 2, []), (.invokevirtual 288, 3, 2, 162, [(0, 0), (0, 0), (0, 0), (0, 0), (0, 0), (0, 0), (0, 0), (0, 0)]), (.invokevirtual 193, 3, 1, 161, [(0, 0), (0, 0), (0, 0), (0, 0), (0, 0), (0, 0), (0, 0), (0, 0)]), (.areturn, 1, 0, 0, [])]
def KX7_putMark : RB := [(0, KX7_putMark_0)]
def rX7_putMark : CmC := (yX7_putMark, cX7_putMark, 3, (some (.object "PlainJava$Exp")), 2, 8, false)
theorem hX7_putMark : mtC[163]? = some rX7_putMark := rfl
set_option maxRecDepth 100000 in
theorem okX7_putMark : cokMC rX7_putMark KX7_putMark = true := by sorry
def KX7_readExp_0 : List RI := [(.aload_n 0, 1, 0, 0, []), (.iload_n 1, 1, 0, 1, []), (.invokevirtual 212, 3, 1, 131, [(0, 0), (0, 0), (0, 0), (0, 0), (0, 0), (0, 0), (0, 0), (0, 0)]), (.ifCond .eq 10, 3, 0, 15, [])]
def KX7_readExp_8 : List RI := [(.aload_n 0, 1, 0, 0, []), (.iconst 1, 1, 0, 0, []), (.iconst (-1), 1, 0, 0, []), (.invokevirtual 288, 3, 2, 162, [(0, 0), (0, 0), (0, 0), (0, 0), (0, 0), (0, 0), (0, 0), (0, 0)]), (.areturn, 1, 0, 0, [])]
def KX7_readExp_15 : List RI := [(.aload_n 0, 1, 0, 0, []), (.invokevirtual 38, 3, 0, 125, [(0, 0), (0, 0), (0, 0), (0, 0), (0, 0), (0, 0), (0, 0), (0, 0)]), (.bipush 80, 2, 0, 0, []), (.if_icmp .ne 21, 3, 0, 42, [])]
def KX7_readExp_24 : List RI := [(.aload_n 0, 1, 0, 0, []), (.invokevirtual 255, 3, 0, 126, [(0, 0), (0, 0), (0, 0), (0, 0), (0, 0), (0, 0), (0, 0), (0, 0)]), (.invokestatic 292, 3, 1, 133, []), (.ifCond .eq 11, 3, 0, 42, [])]
def KX7_readExp_34 : List RI := [(.aload_n 0, 1, 0, 0, []), (.iload_n 1, 1, 0, 1, []), (.invokevirtual 295, 3, 1, 165, [(0, 0), (0, 0), (0, 0), (0, 0), (0, 0), (0, 0), (0, 0), (0, 0)]), (.goto 8, 3, 0, 47, [])]
def KX7_readExp_42 : List RI := [(.aload_n 0, 1, 0, 0, []), (.iload_n 1, 1, 0, 1, []), (.invokevirtual 298, 3, 1, 166, [(0, 0), (0, 0), (0, 0), (0, 0), (0, 0), (0, 0), (0, 0), (0, 0)])]
def KX7_readExp_47 : List RI := [(.areturn, 1, 0, 0, [])]
def KX7_readExp : RB := [(0, KX7_readExp_0), (8, KX7_readExp_8), (15, KX7_readExp_15), (24, KX7_readExp_24), (34, KX7_readExp_34), (42, KX7_readExp_42), (47, KX7_readExp_47)]
def rX7_readExp : CmC := (yX7_readExp, cX7_readExp, 2, (some (.object "PlainJava$Exp")), 1, 8, false)
theorem hX7_readExp : mtC[164]? = some rX7_readExp := rfl
set_option maxRecDepth 100000 in
theorem okX7_readExp : cokMC rX7_readExp KX7_readExp = true := by sorry
def KX7_readAssignment_0 : List RI := [(.aload_n 0, 1, 0, 0, []), (.invokevirtual 255, 3, 0, 126, [(0, 0), (0, 0), (0, 0), (0, 0), (0, 0), (0, 0), (0, 0), (0, 0)]), (.istore_n 2, 1, 0, 2, []), (.aload_n 0, 1, 0, 0, []), (.bipush 9, 2, 0, 0, []), (.iload_n 2, 1, 0, 2, []), (.invokestatic 301, 3, 1, 226, []), (.invokevirtual 288, 3, 2, 162, [(0, 0), (0, 0), (0, 0), (0, 0), (0, 0), (0, 0), (0, 0), (0, 0)]), (.astore_n 3, 1, 0, 3, []), (.aload_n 3, 1, 0, 3, []), (.aload_n 0, 1, 0, 0, []), (.aload_n 0, 1, 0, 0, []), (.getfield 31, 3, 0, 242, []), (.invokevirtual 305, 3, 1, 140, [(0, 0), (0, 0), (0, 0), (0, 0), (0, 0), (0, 0), (0, 0), (0, 0)]), (.putfield 189, 3, 0, 67, []), (.iload_n 2, 1, 0, 2, []), (.bipush 8, 2, 0, 0, []), (.if_icmp .eq 25, 3, 0, 56, [])]
def KX7_readAssignment_34 : List RI := [(.aload_n 3, 1, 0, 3, []), (.aload_n 0, 1, 0, 0, []), (.bipush 14, 2, 0, 0, []), (.iload_n 2, 1, 0, 2, []), (.invokevirtual 308, 3, 2, 163, [(0, 0), (0, 0), (0, 0), (0, 0), (0, 0), (0, 0), (0, 0), (0, 0)]), (.putfield 311, 3, 0, 76, []), (.aload_n 3, 1, 0, 3, []), (.getfield 311, 3, 0, 76, []), (.aload_n 3, 1, 0, 3, []), (.getfield 189, 3, 0, 67, []), (.putfield 189, 3, 0, 67, [])]
def KX7_readAssignment_56 : List RI := [(.aload_n 0, 1, 0, 0, []), (.invokevirtual 57, 3, 0, 128, [(0, 0), (0, 0), (0, 0), (0, 0), (0, 0), (0, 0), (0, 0), (0, 0)]), (.aload_n 0, 1, 0, 0, []), (.invokevirtual 57, 3, 0, 128, [(0, 0), (0, 0), (0, 0), (0, 0), (0, 0), (0, 0), (0, 0), (0, 0)]), (.aload_n 3, 1, 0, 3, []), (.aload_n 0, 1, 0, 0, []), (.iload_n 1, 1, 0, 1, []), (.iconst 1, 1, 0, 0, []), (.iadd, 1, 0, 0, []), (.invokevirtual 170, 3, 1, 164, [(0, 0), (0, 0), (0, 0), (0, 0), (0, 0), (0, 0), (0, 0), (0, 0)]), (.putfield 314, 3, 0, 73, []), (.aload_n 0, 1, 0, 0, []), (.aload_n 3, 1, 0, 3, []), (.invokevirtual 193, 3, 1, 161, [(0, 0), (0, 0), (0, 0), (0, 0), (0, 0), (0, 0), (0, 0), (0, 0)]), (.areturn, 1, 0, 0, [])]
def KX7_readAssignment : RB := [(0, KX7_readAssignment_0), (34, KX7_readAssignment_34), (56, KX7_readAssignment_56)]
def rX7_readAssignment : CmC := (yX7_readAssignment, cX7_readAssignment, 4, (some (.object "PlainJava$Exp")), 1, 8, false)
theorem hX7_readAssignment : mtC[165]? = some rX7_readAssignment := rfl
set_option maxRecDepth 100000 in
theorem okX7_readAssignment : cokMC rX7_readAssignment KX7_readAssignment = true := by sorry
def KX7_readChoice_0 : List RI := [(.aload_n 0, 1, 0, 0, []), (.getfield 31, 3, 0, 242, []), (.istore_n 2, 1, 0, 2, []), (.aload_n 0, 1, 0, 0, []), (.getfield 9, 3, 0, 240, []), (.getfield 280, 3, 0, 213, []), (.invokevirtual 68, 3, 0, 234, []), (.istore_n 3, 1, 0, 3, []), (.aload_n 0, 1, 0, 0, []), (.iload_n 1, 1, 0, 1, []), (.invokevirtual 317, 3, 1, 167, [(0, 0), (0, 0), (0, 0), (0, 0), (0, 0), (0, 0), (0, 0), (0, 0)]), (.astore 4, 2, 0, 0, []), (.aload_n 0, 1, 0, 0, []), (.invokevirtual 38, 3, 0, 125, [(0, 0), (0, 0), (0, 0), (0, 0), (0, 0), (0, 0), (0, 0), (0, 0)]), (.bipush 7, 2, 0, 0, []), (.if_icmp .eq 6, 3, 0, 35, [])]
def KX7_readChoice_32 : List RI := [(.aload 4, 2, 0, 0, []), (.areturn, 1, 0, 0, [])]
def KX7_readChoice_35 : List RI := [(.new 178, 3, 0, 2, []), (.dup, 1, 0, 0, []), (.bipush 8, 2, 0, 0, []), (.bipush 7, 2, 0, 0, []), (.iload_n 2, 1, 0, 2, []), (.iload_n 3, 1, 0, 3, []), (.invokespecial 186, 3, 4, 17, []), (.astore 5, 2, 0, 0, []), (.aload 5, 2, 0, 0, []), (.aload 4, 2, 0, 0, []), (.putfield 190, 3, 0, 72, []), (.aload_n 0, 1, 0, 0, []), (.bipush 12, 2, 0, 0, []), (.bipush 7, 2, 0, 0, []), (.invokevirtual 308, 3, 2, 163, [(0, 0), (0, 0), (0, 0), (0, 0), (0, 0), (0, 0), (0, 0), (0, 0)]), (.astore 6, 2, 0, 0, []), (.aload_n 0, 1, 0, 0, []), (.invokevirtual 57, 3, 0, 128, [(0, 0), (0, 0), (0, 0), (0, 0), (0, 0), (0, 0), (0, 0), (0, 0)]), (.aload 5, 2, 0, 0, []), (.aload_n 0, 1, 0, 0, []), (.iload_n 1, 1, 0, 1, []), (.iconst 1, 1, 0, 0, []), (.iadd, 1, 0, 0, []), (.invokevirtual 170, 3, 1, 164, [(0, 0), (0, 0), (0, 0), (0, 0), (0, 0), (0, 0), (0, 0), (0, 0)]), (.putfield 314, 3, 0, 73, []), (.aload 5, 2, 0, 0, []), (.aload_n 0, 1, 0, 0, []), (.bipush 13, 2, 0, 0, []), (.bipush 7, 2, 0, 0, []), (.invokevirtual 308, 3, 2, 163, [(0, 0), (0, 0), (0, 0), (0, 0), (0, 0), (0, 0), (0, 0), (0, 0)]), (.putfield 311, 3, 0, 76, []), (.aload 5, 2, 0, 0, []), (.getfield 311, 3, 0, 76, []), (.aload 6, 2, 0, 0, []), (.putfield 311, 3, 0, 76, []), (.aload_n 0, 1, 0, 0, []), (.bipush 6, 2, 0, 0, []), (.invokevirtual 111, 3, 1, 129, [(0, 0), (0, 0), (0, 0), (0, 0), (0, 0), (0, 0), (0, 0), (0, 0)]), (.aload 5, 2, 0, 0, []), (.aload_n 0, 1, 0, 0, []), (.iload_n 1, 1, 0, 1, []), (.iconst 1, 1, 0, 0, []), (.iadd, 1, 0, 0, []), (.invokevirtual 212, 3, 1, 131, [(0, 0), (0, 0), (0, 0), (0, 0), (0, 0), (0, 0), (0, 0), (0, 0)]), (.ifCond .eq 12, 3, 0, 133, [])]
def KX7_readChoice_124 : List RI := [(.aload_n 0, 1, 0, 0, []), (.iconst 1, 1, 0, 0, []), (.iconst (-1), 1, 0, 0, []), (.invokevirtual 288, 3, 2, 162, [(0, 0), (0, 0), (0, 0), (0, 0), (0, 0), (0, 0), (0, 0), (0, 0)]), (.goto 10, 3, 0, 140, [])]
def KX7_readChoice_133 : List RI := [(.aload_n 0, 1, 0, 0, []), (.iload_n 1, 1, 0, 1, []), (.iconst 1, 1, 0, 0, []), (.iadd, 1, 0, 0, []), (.invokevirtual 298, 3, 1, 166, [(0, 0), (0, 0), (0, 0), (0, 0), (0, 0), (0, 0), (0, 0), (0, 0)])]
def KX7_readChoice_140 : List RI := [(.putfield 320, 3, 0, 74, []), (.aload_n 0, 1, 0, 0, []), (.aload 5, 2, 0, 0, []), (.invokevirtual 193, 3, 1, 161, [(0, 0), (0, 0), (0, 0), (0, 0), (0, 0), (0, 0), (0, 0), (0, 0)]), (.areturn, 1, 0, 0, [])]
def KX7_readChoice : RB := [(0, KX7_readChoice_0), (32, KX7_readChoice_32), (35, KX7_readChoice_35), (124, KX7_readChoice_124), (133, KX7_readChoice_133), (140, KX7_readChoice_140)]
def rX7_readChoice : CmC := (yX7_readChoice, cX7_readChoice, 7, (some (.object "PlainJava$Exp")), 1, 8, false)
theorem hX7_readChoice : mtC[166]? = some rX7_readChoice := rfl
set_option maxRecDepth 100000 in
theorem okX7_readChoice : cokMC rX7_readChoice KX7_readChoice = true := by sorry
def KX7_readChain_0 : List RI := [(.aload_n 0, 1, 0, 0, []), (.iload_n 1, 1, 0, 1, []), (.invokevirtual 323, 3, 1, 170, [(0, 0), (0, 0), (0, 0), (0, 0), (0, 0), (0, 0), (0, 0), (0, 0)]), (.astore_n 2, 1, 0, 2, []), (.aconst_null, 1, 0, 0, []), (.astore_n 3, 1, 0, 3, []), (.iconst 0, 1, 0, 0, []), (.istore 4, 2, 0, 0, [])]
def KX7_readChain_11 : List RI := [(.iload 4, 2, 0, 0, []), (.sipush 500, 3, 0, 0, []), (.if_icmp .gt 82, 3, 0, 98, [])]
def KX7_readChain_19 : List RI := [(.aload_n 0, 1, 0, 0, []), (.invokevirtual 38, 3, 0, 125, [(0, 0), (0, 0), (0, 0), (0, 0), (0, 0), (0, 0), (0, 0), (0, 0)]), (.invokestatic 326, 3, 1, 225, []), (.ifCond .le 72, 3, 0, 98, [])]
def KX7_readChain_29 : List RI := [(.aload_n 0, 1, 0, 0, []), (.invokevirtual 38, 3, 0, 125, [(0, 0), (0, 0), (0, 0), (0, 0), (0, 0), (0, 0), (0, 0), (0, 0)]), (.istore 5, 2, 0, 0, [])]
def KX7_readChain_35 : List RI := [(.aload_n 3, 1, 0, 3, []), (.ifnull 37, 3, 0, 73, [])]
def KX7_readChain_39 : List RI := [(.aload_n 3, 1, 0, 3, []), (.getfield 329, 3, 0, 61, []), (.invokestatic 326, 3, 1, 225, []), (.iload 5, 2, 0, 0, []), (.invokestatic 326, 3, 1, 225, []), (.if_icmp .lt 22, 3, 0, 73, [])]
def KX7_readChain_54 : List RI := [(.aload_n 3, 1, 0, 3, []), (.getfield 332, 3, 0, 75, []), (.astore 6, 2, 0, 0, []), (.aload_n 0, 1, 0, 0, []), (.aload_n 3, 1, 0, 3, []), (.aload_n 2, 1, 0, 2, []), (.invokevirtual 334, 3, 2, 169, [(0, 0), (0, 0), (0, 0), (0, 0), (0, 0), (0, 0), (0, 0), (0, 0)]), (.astore_n 2, 1, 0, 2, []), (.aload 6, 2, 0, 0, []), (.astore_n 3, 1, 0, 3, []), (.goto (-35), 3, 0, 35, [])]
def KX7_readChain_73 : List RI := [(.aload_n 0, 1, 0, 0, []), (.iload 5, 2, 0, 0, []), (.aload_n 2, 1, 0, 2, []), (.aload_n 3, 1, 0, 3, []), (.invokevirtual 338, 3, 3, 168, [(0, 0), (0, 0), (0, 0), (0, 0), (0, 0), (0, 0), (0, 0), (0, 0)]), (.astore_n 3, 1, 0, 3, []), (.aload_n 0, 1, 0, 0, []), (.invokevirtual 57, 3, 0, 128, [(0, 0), (0, 0), (0, 0), (0, 0), (0, 0), (0, 0), (0, 0), (0, 0)]), (.aload_n 0, 1, 0, 0, []), (.iload_n 1, 1, 0, 1, []), (.invokevirtual 323, 3, 1, 170, [(0, 0), (0, 0), (0, 0), (0, 0), (0, 0), (0, 0), (0, 0), (0, 0)]), (.astore_n 2, 1, 0, 2, []), (.iinc 4 1, 3, 0, 0, []), (.goto (-84), 3, 0, 11, [])]
def KX7_readChain_98 : List RI := [(.aload_n 3, 1, 0, 3, []), (.ifnull 22, 3, 0, 121, [])]
def KX7_readChain_102 : List RI := [(.aload_n 3, 1, 0, 3, []), (.getfield 332, 3, 0, 75, []), (.astore 4, 2, 0, 0, []), (.aload_n 0, 1, 0, 0, []), (.aload_n 3, 1, 0, 3, []), (.aload_n 2, 1, 0, 2, []), (.invokevirtual 334, 3, 2, 169, [(0, 0), (0, 0), (0, 0), (0, 0), (0, 0), (0, 0), (0, 0), (0, 0)]), (.astore_n 2, 1, 0, 2, []), (.aload 4, 2, 0, 0, []), (.astore_n 3, 1, 0, 3, []), (.goto (-20), 3, 0, 98, [])]
def KX7_readChain_121 : List RI := [(.aload_n 2, 1, 0, 2, []), (.areturn, 1, 0, 0, [])]
def KX7_readChain : RB := [(0, KX7_readChain_0), (11, KX7_readChain_11), (19, KX7_readChain_19), (29, KX7_readChain_29), (35, KX7_readChain_35), (39, KX7_readChain_39), (54, KX7_readChain_54), (73, KX7_readChain_73), (98, KX7_readChain_98), (102, KX7_readChain_102), (121, KX7_readChain_121)]
def rX7_readChain : CmC := (yX7_readChain, cX7_readChain, 7, (some (.object "PlainJava$Exp")), 1, 8, false)
theorem hX7_readChain : mtC[167]? = some rX7_readChain := rfl
set_option maxRecDepth 100000 in
theorem okX7_readChain : cokMC rX7_readChain KX7_readChain = true := by sorry
def KX7_waitingFor_0 : List RI := [(.new 178, 3, 0, 2, []), (.dup, 1, 0, 0, []), (.bipush 7, 2, 0, 0, []), (.iload_n 1, 1, 0, 1, []), (.aload_n 2, 1, 0, 2, []), (.getfield 342, 3, 0, 62, []), (.aload_n 2, 1, 0, 2, []), (.getfield 183, 3, 0, 63, []), (.invokespecial 186, 3, 4, 17, []), (.astore 4, 2, 0, 0, []), (.aload 4, 2, 0, 0, []), (.aload_n 2, 1, 0, 2, []), (.putfield 190, 3, 0, 72, []), (.aload 4, 2, 0, 0, []), (.aload_n 3, 1, 0, 3, []), (.putfield 332, 3, 0, 75, []), (.iload_n 1, 1, 0, 1, []), (.bipush 21, 2, 0, 0, []), (.if_icmp .eq 9, 3, 0, 44, [])]
def KX7_waitingFor_38 : List RI := [(.iload_n 1, 1, 0, 1, []), (.bipush 20, 2, 0, 0, []), (.if_icmp .ne 15, 3, 0, 56, [])]
def KX7_waitingFor_44 : List RI := [(.aload 4, 2, 0, 0, []), (.aload_n 0, 1, 0, 0, []), (.bipush 11, 2, 0, 0, []), (.iload_n 1, 1, 0, 1, []), (.invokevirtual 308, 3, 2, 163, [(0, 0), (0, 0), (0, 0), (0, 0), (0, 0), (0, 0), (0, 0), (0, 0)]), (.putfield 311, 3, 0, 76, [])]
def KX7_waitingFor_56 : List RI := [(.aload 4, 2, 0, 0, []), (.areturn, 1, 0, 0, [])]
def KX7_waitingFor : RB := [(0, KX7_waitingFor_0), (38, KX7_waitingFor_38), (44, KX7_waitingFor_44), (56, KX7_waitingFor_56)]
def rX7_waitingFor : CmC := (yX7_waitingFor, cX7_waitingFor, 5, (some (.object "PlainJava$Exp")), 3, 8, false)
theorem hX7_waitingFor : mtC[168]? = some rX7_waitingFor := rfl
set_option maxRecDepth 100000 in
theorem okX7_waitingFor : cokMC rX7_waitingFor KX7_waitingFor = true := by sorry
def KX7_closed_0 : List RI := [(.aload_n 1, 1, 0, 1, []), (.aload_n 2, 1, 0, 2, []), (.putfield 314, 3, 0, 73, []), (.aload_n 1, 1, 0, 1, []), (.aconst_null, 1, 0, 0, []), (.putfield 332, 3, 0, 75, []), (.aload_n 0, 1, 0, 0, []), (.aload_n 1, 1, 0, 1, []), (.invokevirtual 193, 3, 1, 161, [(0, 0), (0, 0), (0, 0), (0, 0), (0, 0), (0, 0), (0, 0), (0, 0)]), (.areturn, 1, 0, 0, [])]
def KX7_closed : RB := [(0, KX7_closed_0)]
def rX7_closed : CmC := (yX7_closed, cX7_closed, 3, (some (.object "PlainJava$Exp")), 2, 8, false)
theorem hX7_closed : mtC[169]? = some rX7_closed := rfl
set_option maxRecDepth 100000 in
theorem okX7_closed : cokMC rX7_closed KX7_closed = true := by sorry
def KX7_readOperand_0 : List RI := [(.aload_n 0, 1, 0, 0, []), (.invokevirtual 38, 3, 0, 125, [(0, 0), (0, 0), (0, 0), (0, 0), (0, 0), (0, 0), (0, 0), (0, 0)]), (.lookupswitch 144 #[(0, 127), (34, 116), (35, 116), (39, 116), (40, 116), (41, 122), (42, 122), (72, 139), (73, 139), (80, 133), (81, 139), (82, 139), (83, 139)], 116, 0, 148, [(0, 131), (34, 120), (35, 120), (39, 120), (40, 120), (41, 126), (42, 126), (72, 143), (73, 143), (80, 137), (81, 143), (82, 143), (83, 143)])]
def KX7_readOperand_120 : List RI := [(.aload_n 0, 1, 0, 0, []), (.iload_n 1, 1, 0, 1, []), (.invokevirtual 343, 3, 1, 172, [(0, 0), (0, 0), (0, 0), (0, 0), (0, 0), (0, 0), (0, 0), (0, 0)]), (.areturn, 1, 0, 0, [])]
def KX7_readOperand_126 : List RI := [(.aload_n 0, 1, 0, 0, []), (.invokevirtual 346, 3, 0, 173, [(0, 0), (0, 0), (0, 0), (0, 0), (0, 0), (0, 0), (0, 0), (0, 0)]), (.areturn, 1, 0, 0, [])]
def KX7_readOperand_131 : List RI := [(.aload_n 0, 1, 0, 0, []), (.iload_n 1, 1, 0, 1, []), (.invokevirtual 350, 3, 1, 174, [(0, 0), (0, 0), (0, 0), (0, 0), (0, 0), (0, 0), (0, 0), (0, 0)]), (.areturn, 1, 0, 0, [])]
def KX7_readOperand_137 : List RI := [(.aload_n 0, 1, 0, 0, []), (.iload_n 1, 1, 0, 1, []), (.invokevirtual 353, 3, 1, 175, [(0, 0), (0, 0), (0, 0), (0, 0), (0, 0), (0, 0), (0, 0), (0, 0)]), (.areturn, 1, 0, 0, [])]
def KX7_readOperand_143 : List RI := [(.aload_n 0, 1, 0, 0, []), (.invokevirtual 356, 3, 0, 177, [(0, 0), (0, 0), (0, 0), (0, 0), (0, 0), (0, 0), (0, 0), (0, 0)]), (.areturn, 1, 0, 0, [])]
def KX7_readOperand_148 : List RI := [(.aload_n 0, 1, 0, 0, []), (.iconst 2, 1, 0, 0, []), (.invokevirtual 53, 3, 1, 127, [(0, 0), (0, 0), (0, 0), (0, 0), (0, 0), (0, 0), (0, 0), (0, 0)]), (.aload_n 0, 1, 0, 0, []), (.iconst 1, 1, 0, 0, []), (.iconst (-1), 1, 0, 0, []), (.invokevirtual 288, 3, 2, 162, [(0, 0), (0, 0), (0, 0), (0, 0), (0, 0), (0, 0), (0, 0), (0, 0)]), (.areturn, 1, 0, 0, [])]
def KX7_readOperand : RB := [(0, KX7_readOperand_0), (120, KX7_readOperand_120), (126, KX7_readOperand_126), (131, KX7_readOperand_131), (137, KX7_readOperand_137), (143, KX7_readOperand_143), (148, KX7_readOperand_148)]
def rX7_readOperand : CmC := (yX7_readOperand, cX7_readOperand, 2, (some (.object "PlainJava$Exp")), 1, 8, false)
theorem hX7_readOperand : mtC[170]? = some rX7_readOperand := rfl
set_option maxRecDepth 100000 in
theorem swX7_readOperand_4 : decode cX7_readOperand 4 = .ok (.lookupswitch 144 #[(0, 127), (34, 116), (35, 116), (39, 116), (40, 116), (41, 122), (42, 122), (72, 139), (73, 139), (80, 133), (81, 139), (82, 139), (83, 139)], 116) := by sorry
set_option maxRecDepth 100000 in
theorem okX7_readOperand : cokMC rX7_readOperand KX7_readOperand = true := by sorry
def KX7_readInnerOperand_0 : List RI := [(.aload_n 0, 1, 0, 0, []), (.iload_n 1, 1, 0, 1, []), (.invokevirtual 212, 3, 1, 131, [(0, 0), (0, 0), (0, 0), (0, 0), (0, 0), (0, 0), (0, 0), (0, 0)]), (.ifCond .eq 12, 3, 0, 17, [])]
def KX7_readInnerOperand_8 : List RI := [(.aload_n 0, 1, 0, 0, []), (.iconst 1, 1, 0, 0, []), (.iconst (-1), 1, 0, 0, []), (.invokevirtual 288, 3, 2, 162, [(0, 0), (0, 0), (0, 0), (0, 0), (0, 0), (0, 0), (0, 0), (0, 0)]), (.goto 8, 3, 0, 22, [])]
def KX7_readInnerOperand_17 : List RI := [(.aload_n 0, 1, 0, 0, []), (.iload_n 1, 1, 0, 1, []), (.invokevirtual 323, 3, 1, 170, [(0, 0), (0, 0), (0, 0), (0, 0), (0, 0), (0, 0), (0, 0), (0, 0)])]
def KX7_readInnerOperand_22 : List RI := [(.areturn, 1, 0, 0, [])]
def KX7_readInnerOperand : RB := [(0, KX7_readInnerOperand_0), (8, KX7_readInnerOperand_8), (17, KX7_readInnerOperand_17), (22, KX7_readInnerOperand_22)]
def rX7_readInnerOperand : CmC := (yX7_readInnerOperand, cX7_readInnerOperand, 2, (some (.object "PlainJava$Exp")), 1, 8, false)
theorem hX7_readInnerOperand : mtC[171]? = some rX7_readInnerOperand := rfl
set_option maxRecDepth 100000 in
theorem okX7_readInnerOperand : cokMC rX7_readInnerOperand KX7_readInnerOperand = true := by sorry
def KX7_readAlone_0 : List RI := [(.aload_n 0, 1, 0, 0, []), (.iconst 4, 1, 0, 0, []), (.aload_n 0, 1, 0, 0, []), (.invokevirtual 38, 3, 0, 125, [(0, 0), (0, 0), (0, 0), (0, 0), (0, 0), (0, 0), (0, 0), (0, 0)]), (.invokevirtual 288, 3, 2, 162, [(0, 0), (0, 0), (0, 0), (0, 0), (0, 0), (0, 0), (0, 0), (0, 0)]), (.astore_n 2, 1, 0, 2, []), (.aload_n 0, 1, 0, 0, []), (.invokevirtual 57, 3, 0, 128, [(0, 0), (0, 0), (0, 0), (0, 0), (0, 0), (0, 0), (0, 0), (0, 0)]), (.aload_n 2, 1, 0, 2, []), (.aload_n 0, 1, 0, 0, []), (.iload_n 1, 1, 0, 1, []), (.iconst 1, 1, 0, 0, []), (.iadd, 1, 0, 0, []), (.invokevirtual 359, 3, 1, 171, [(0, 0), (0, 0), (0, 0), (0, 0), (0, 0), (0, 0), (0, 0), (0, 0)]), (.putfield 190, 3, 0, 72, []), (.aload_n 2, 1, 0, 2, []), (.getfield 329, 3, 0, 61, []), (.bipush 35, 2, 0, 0, []), (.if_icmp .ne 21, 3, 0, 52, [])]
def KX7_readAlone_34 : List RI := [(.aload_n 2, 1, 0, 2, []), (.getfield 190, 3, 0, 72, []), (.getfield 362, 3, 0, 60, []), (.ifCond .ne 11, 3, 0, 52, [])]
def KX7_readAlone_44 : List RI := [(.aload_n 2, 1, 0, 2, []), (.getfield 190, 3, 0, 72, []), (.iconst 1, 1, 0, 0, []), (.putfield 189, 3, 0, 67, [])]
def KX7_readAlone_52 : List RI := [(.aload_n 0, 1, 0, 0, []), (.aload_n 2, 1, 0, 2, []), (.invokevirtual 193, 3, 1, 161, [(0, 0), (0, 0), (0, 0), (0, 0), (0, 0), (0, 0), (0, 0), (0, 0)]), (.areturn, 1, 0, 0, [])]
def KX7_readAlone : RB := [(0, KX7_readAlone_0), (34, KX7_readAlone_34), (44, KX7_readAlone_44), (52, KX7_readAlone_52)]
def rX7_readAlone : CmC := (yX7_readAlone, cX7_readAlone, 3, (some (.object "PlainJava$Exp")), 1, 8, false)
theorem hX7_readAlone : mtC[172]? = some rX7_readAlone := rfl
set_option maxRecDepth 100000 in
theorem okX7_readAlone : cokMC rX7_readAlone KX7_readAlone = true := by sorry
def KX7_readCountAhead_0 : List RI := [(.aload_n 0, 1, 0, 0, []), (.bipush 6, 2, 0, 0, []), (.aload_n 0, 1, 0, 0, []), (.invokevirtual 38, 3, 0, 125, [(0, 0), (0, 0), (0, 0), (0, 0), (0, 0), (0, 0), (0, 0), (0, 0)]), (.invokevirtual 288, 3, 2, 162, [(0, 0), (0, 0), (0, 0), (0, 0), (0, 0), (0, 0), (0, 0), (0, 0)]), (.astore_n 1, 1, 0, 1, []), (.aload_n 0, 1, 0, 0, []), (.invokevirtual 57, 3, 0, 128, [(0, 0), (0, 0), (0, 0), (0, 0), (0, 0), (0, 0), (0, 0), (0, 0)]), (.aload_n 1, 1, 0, 1, []), (.aload_n 0, 1, 0, 0, []), (.getfield 31, 3, 0, 242, []), (.putfield 363, 3, 0, 66, []), (.aload_n 1, 1, 0, 1, []), (.aload_n 0, 1, 0, 0, []), (.invokevirtual 38, 3, 0, 125, [(0, 0), (0, 0), (0, 0), (0, 0), (0, 0), (0, 0), (0, 0), (0, 0)]), (.bipush 80, 2, 0, 0, []), (.if_icmp .ne 14, 3, 0, 44, [])]
def KX7_readCountAhead_33 : List RI := [(.aload_n 0, 1, 0, 0, []), (.aload_n 0, 1, 0, 0, []), (.getfield 31, 3, 0, 242, []), (.invokevirtual 305, 3, 1, 140, [(0, 0), (0, 0), (0, 0), (0, 0), (0, 0), (0, 0), (0, 0), (0, 0)]), (.goto 4, 3, 0, 45, [])]
def KX7_readCountAhead_44 : List RI := [(.iconst (-1), 1, 0, 0, [])]
def KX7_readCountAhead_45 : List RI := [(.putfield 189, 3, 0, 67, []), (.aload_n 0, 1, 0, 0, []), (.bipush 80, 2, 0, 0, []), (.invokevirtual 111, 3, 1, 129, [(0, 0), (0, 0), (0, 0), (0, 0), (0, 0), (0, 0), (0, 0), (0, 0)]), (.aload_n 0, 1, 0, 0, []), (.aload_n 1, 1, 0, 1, []), (.invokevirtual 193, 3, 1, 161, [(0, 0), (0, 0), (0, 0), (0, 0), (0, 0), (0, 0), (0, 0), (0, 0)]), (.areturn, 1, 0, 0, [])]
def KX7_readCountAhead : RB := [(0, KX7_readCountAhead_0), (33, KX7_readCountAhead_33), (44, KX7_readCountAhead_44), (45, KX7_readCountAhead_45)]
def rX7_readCountAhead : CmC := (yX7_readCountAhead, cX7_readCountAhead, 2, (some (.object "PlainJava$Exp")), 0, 8, false)
theorem hX7_readCountAhead : mtC[173]? = some rX7_readCountAhead := rfl
set_option maxRecDepth 100000 in
theorem okX7_readCountAhead : cokMC rX7_readCountAhead KX7_readCountAhead = true := by sorry
def KX7_readBehindOpen_0 : List RI := [(.aload_n 0, 1, 0, 0, []), (.getfield 31, 3, 0, 242, []), (.istore_n 2, 1, 0, 2, []), (.aload_n 0, 1, 0, 0, []), (.getfield 9, 3, 0, 240, []), (.getfield 280, 3, 0, 213, []), (.invokevirtual 68, 3, 0, 234, []), (.istore_n 3, 1, 0, 3, []), (.aload_n 0, 1, 0, 0, []), (.invokevirtual 57, 3, 0, 128, [(0, 0), (0, 0), (0, 0), (0, 0), (0, 0), (0, 0), (0, 0), (0, 0)]), (.aload_n 0, 1, 0, 0, []), (.invokevirtual 38, 3, 0, 125, [(0, 0), (0, 0), (0, 0), (0, 0), (0, 0), (0, 0), (0, 0), (0, 0)]), (.invokestatic 60, 3, 1, 132, []), (.ifCond .eq 49, 3, 0, 76, [])]
def KX7_readBehindOpen_30 : List RI := [(.new 178, 3, 0, 2, []), (.dup, 1, 0, 0, []), (.iconst 5, 1, 0, 0, []), (.iconst 0, 1, 0, 0, []), (.iload_n 2, 1, 0, 2, []), (.iload_n 3, 1, 0, 3, []), (.invokespecial 186, 3, 4, 17, []), (.astore 4, 2, 0, 0, []), (.aload 4, 2, 0, 0, []), (.aload_n 0, 1, 0, 0, []), (.invokevirtual 117, 3, 0, 136, [(0, 0), (0, 0), (0, 0), (0, 0), (0, 0), (0, 0), (0, 0), (0, 0)]), (.putfield 364, 3, 0, 69, []), (.aload_n 0, 1, 0, 0, []), (.iconst 1, 1, 0, 0, []), (.invokevirtual 111, 3, 1, 129, [(0, 0), (0, 0), (0, 0), (0, 0), (0, 0), (0, 0), (0, 0), (0, 0)]), (.aload 4, 2, 0, 0, []), (.aload_n 0, 1, 0, 0, []), (.iload_n 1, 1, 0, 1, []), (.iconst 1, 1, 0, 0, []), (.iadd, 1, 0, 0, []), (.invokevirtual 359, 3, 1, 171, [(0, 0), (0, 0), (0, 0), (0, 0), (0, 0), (0, 0), (0, 0), (0, 0)]), (.putfield 190, 3, 0, 72, []), (.aload_n 0, 1, 0, 0, []), (.aload 4, 2, 0, 0, []), (.invokevirtual 193, 3, 1, 161, [(0, 0), (0, 0), (0, 0), (0, 0), (0, 0), (0, 0), (0, 0), (0, 0)]), (.areturn, 1, 0, 0, [])]
def KX7_readBehindOpen_76 : List RI := [(.new 178, 3, 0, 2, []), (.dup, 1, 0, 0, []), (.iconst 3, 1, 0, 0, []), (.iconst 0, 1, 0, 0, []), (.iload_n 2, 1, 0, 2, []), (.iload_n 3, 1, 0, 3, []), (.invokespecial 186, 3, 4, 17, []), (.astore 4, 2, 0, 0, []), (.aload 4, 2, 0, 0, []), (.aload_n 0, 1, 0, 0, []), (.iload_n 1, 1, 0, 1, []), (.iconst 1, 1, 0, 0, []), (.iadd, 1, 0, 0, []), (.invokevirtual 170, 3, 1, 164, [(0, 0), (0, 0), (0, 0), (0, 0), (0, 0), (0, 0), (0, 0), (0, 0)]), (.putfield 190, 3, 0, 72, []), (.aload_n 0, 1, 0, 0, []), (.iconst 1, 1, 0, 0, []), (.invokevirtual 111, 3, 1, 129, [(0, 0), (0, 0), (0, 0), (0, 0), (0, 0), (0, 0), (0, 0), (0, 0)]), (.aload_n 0, 1, 0, 0, []), (.aload 4, 2, 0, 0, []), (.invokevirtual 193, 3, 1, 161, [(0, 0), (0, 0), (0, 0), (0, 0), (0, 0), (0, 0), (0, 0), (0, 0)]), (.areturn, 1, 0, 0, [])]
def KX7_readBehindOpen : RB := [(0, KX7_readBehindOpen_0), (30, KX7_readBehindOpen_30), (76, KX7_readBehindOpen_76)]
def rX7_readBehindOpen : CmC := (yX7_readBehindOpen, cX7_readBehindOpen, 5, (some (.object "PlainJava$Exp")), 1, 8, false)
theorem hX7_readBehindOpen : mtC[174]? = some rX7_readBehindOpen := rfl
set_option maxRecDepth 100000 in
theorem okX7_readBehindOpen : cokMC rX7_readBehindOpen KX7_readBehindOpen = true := by sorry
def KX7_readName_0 : List RI := [(.aload_n 0, 1, 0, 0, []), (.invokevirtual 255, 3, 0, 126, [(0, 0), (0, 0), (0, 0), (0, 0), (0, 0), (0, 0), (0, 0), (0, 0)]), (.istore_n 2, 1, 0, 2, []), (.iload_n 2, 1, 0, 2, []), (.ifCond .ne 9, 3, 0, 15, [])]
def KX7_readName_9 : List RI := [(.aload_n 0, 1, 0, 0, []), (.iload_n 1, 1, 0, 1, []), (.invokevirtual 367, 3, 1, 176, [(0, 0), (0, 0), (0, 0), (0, 0), (0, 0), (0, 0), (0, 0), (0, 0)]), (.areturn, 1, 0, 0, [])]
def KX7_readName_15 : List RI := [(.iload_n 2, 1, 0, 2, []), (.bipush 41, 2, 0, 0, []), (.if_icmp .eq 9, 3, 0, 27, [])]
def KX7_readName_21 : List RI := [(.iload_n 2, 1, 0, 2, []), (.bipush 42, 2, 0, 0, []), (.if_icmp .ne 7, 3, 0, 31, [])]
def KX7_readName_27 : List RI := [(.iconst 1, 1, 0, 0, []), (.goto 4, 3, 0, 32, [])]
def KX7_readName_31 : List RI := [(.iconst 0, 1, 0, 0, [])]
def KX7_readName_32 : List RI := [(.istore_n 3, 1, 0, 3, []), (.aload_n 0, 1, 0, 0, []), (.iload_n 3, 1, 0, 3, []), (.ifCond .eq 8, 3, 0, 43, [])]
def KX7_readName_38 : List RI := [(.bipush 6, 2, 0, 0, []), (.goto 4, 3, 0, 44, [])]
def KX7_readName_43 : List RI := [(.iconst 2, 1, 0, 0, [])]
def KX7_readName_44 : List RI := [(.iload_n 3, 1, 0, 3, []), (.ifCond .eq 7, 3, 0, 52, [])]
def KX7_readName_48 : List RI := [(.iload_n 2, 1, 0, 2, []), (.goto 4, 3, 0, 53, [])]
def KX7_readName_52 : List RI := [(.iconst (-1), 1, 0, 0, [])]
def KX7_readName_53 : List RI := [(.invokevirtual 288, 3, 2, 162, [(0, 0), (0, 0), (0, 0), (0, 0), (0, 0), (0, 0), (0, 0), (0, 0)]), (.astore 4, 2, 0, 0, []), (.aload 4, 2, 0, 0, []), (.aload_n 0, 1, 0, 0, []), (.aload_n 0, 1, 0, 0, []), (.getfield 31, 3, 0, 242, []), (.invokevirtual 305, 3, 1, 140, [(0, 0), (0, 0), (0, 0), (0, 0), (0, 0), (0, 0), (0, 0), (0, 0)]), (.putfield 189, 3, 0, 67, []), (.aload_n 0, 1, 0, 0, []), (.invokevirtual 57, 3, 0, 128, [(0, 0), (0, 0), (0, 0), (0, 0), (0, 0), (0, 0), (0, 0), (0, 0)]), (.iload_n 3, 1, 0, 3, []), (.ifCond .eq 7, 3, 0, 83, [])]
def KX7_readName_79 : List RI := [(.aload_n 0, 1, 0, 0, []), (.invokevirtual 57, 3, 0, 128, [(0, 0), (0, 0), (0, 0), (0, 0), (0, 0), (0, 0), (0, 0), (0, 0)])]
def KX7_readName_83 : List RI := [(.aload_n 0, 1, 0, 0, []), (.aload 4, 2, 0, 0, []), (.invokevirtual 193, 3, 1, 161, [(0, 0), (0, 0), (0, 0), (0, 0), (0, 0), (0, 0), (0, 0), (0, 0)]), (.areturn, 1, 0, 0, [])]
def KX7_readName : RB := [(0, KX7_readName_0), (9, KX7_readName_9), (15, KX7_readName_15), (21, KX7_readName_21), (27, KX7_readName_27), (31, KX7_readName_31), (32, KX7_readName_32), (38, KX7_readName_38), (43, KX7_readName_43), (44, KX7_readName_44), (48, KX7_readName_48), (52, KX7_readName_52), (53, KX7_readName_53), (79, KX7_readName_79), (83, KX7_readName_83)]
def rX7_readName : CmC := (yX7_readName, cX7_readName, 5, (some (.object "PlainJava$Exp")), 1, 8, false)
theorem hX7_readName : mtC[175]? = some rX7_readName := rfl
set_option maxRecDepth 100000 in
theorem okX7_readName : cokMC rX7_readName KX7_readName = true := by sorry
def KX7_readCall_0 : List RI := [(.aload_n 0, 1, 0, 0, []), (.bipush 10, 2, 0, 0, []), (.iconst 0, 1, 0, 0, []), (.invokevirtual 288, 3, 2, 162, [(0, 0), (0, 0), (0, 0), (0, 0), (0, 0), (0, 0), (0, 0), (0, 0)]), (.astore_n 2, 1, 0, 2, []), (.aload_n 0, 1, 0, 0, []), (.invokevirtual 57, 3, 0, 128, [(0, 0), (0, 0), (0, 0), (0, 0), (0, 0), (0, 0), (0, 0), (0, 0)]), (.aload_n 0, 1, 0, 0, []), (.invokevirtual 57, 3, 0, 128, [(0, 0), (0, 0), (0, 0), (0, 0), (0, 0), (0, 0), (0, 0), (0, 0)]), (.aload_n 0, 1, 0, 0, []), (.iload_n 1, 1, 0, 1, []), (.iconst 1, 1, 0, 0, []), (.iadd, 1, 0, 0, []), (.invokevirtual 212, 3, 1, 131, [(0, 0), (0, 0), (0, 0), (0, 0), (0, 0), (0, 0), (0, 0), (0, 0)]), (.ifCond .ne 68, 3, 0, 91, [])]
def KX7_readCall_26 : List RI := [(.aload_n 0, 1, 0, 0, []), (.invokevirtual 38, 3, 0, 125, [(0, 0), (0, 0), (0, 0), (0, 0), (0, 0), (0, 0), (0, 0), (0, 0)]), (.iconst 1, 1, 0, 0, []), (.if_icmp .eq 60, 3, 0, 91, [])]
def KX7_readCall_34 : List RI := [(.aload_n 2, 1, 0, 2, []), (.aload_n 0, 1, 0, 0, []), (.iload_n 1, 1, 0, 1, []), (.iconst 1, 1, 0, 0, []), (.iadd, 1, 0, 0, []), (.invokevirtual 170, 3, 1, 164, [(0, 0), (0, 0), (0, 0), (0, 0), (0, 0), (0, 0), (0, 0), (0, 0)]), (.putfield 190, 3, 0, 72, []), (.aload_n 2, 1, 0, 2, []), (.getfield 190, 3, 0, 72, []), (.astore_n 3, 1, 0, 3, []), (.iconst 0, 1, 0, 0, []), (.istore 4, 2, 0, 0, [])]
def KX7_readCall_53 : List RI := [(.iload 4, 2, 0, 0, []), (.sipush 500, 3, 0, 0, []), (.if_icmp .gt 33, 3, 0, 91, [])]
def KX7_readCall_61 : List RI := [(.aload_n 0, 1, 0, 0, []), (.iconst 5, 1, 0, 0, []), (.invokevirtual 114, 3, 1, 130, [(0, 0), (0, 0), (0, 0), (0, 0), (0, 0), (0, 0), (0, 0), (0, 0)]), (.ifCond .eq 25, 3, 0, 91, [])]
def KX7_readCall_69 : List RI := [(.aload_n 3, 1, 0, 3, []), (.aload_n 0, 1, 0, 0, []), (.iload_n 1, 1, 0, 1, []), (.iconst 1, 1, 0, 0, []), (.iadd, 1, 0, 0, []), (.invokevirtual 170, 3, 1, 164, [(0, 0), (0, 0), (0, 0), (0, 0), (0, 0), (0, 0), (0, 0), (0, 0)]), (.putfield 332, 3, 0, 75, []), (.aload_n 3, 1, 0, 3, []), (.getfield 332, 3, 0, 75, []), (.astore_n 3, 1, 0, 3, []), (.iinc 4 1, 3, 0, 0, []), (.goto (-35), 3, 0, 53, [])]
def KX7_readCall_91 : List RI := [(.aload_n 0, 1, 0, 0, []), (.iconst 1, 1, 0, 0, []), (.invokevirtual 111, 3, 1, 129, [(0, 0), (0, 0), (0, 0), (0, 0), (0, 0), (0, 0), (0, 0), (0, 0)]), (.aload_n 0, 1, 0, 0, []), (.aload_n 2, 1, 0, 2, []), (.invokevirtual 193, 3, 1, 161, [(0, 0), (0, 0), (0, 0), (0, 0), (0, 0), (0, 0), (0, 0), (0, 0)]), (.areturn, 1, 0, 0, [])]
def KX7_readCall : RB := [(0, KX7_readCall_0), (26, KX7_readCall_26), (34, KX7_readCall_34), (53, KX7_readCall_53), (61, KX7_readCall_61), (69, KX7_readCall_69), (91, KX7_readCall_91)]
def rX7_readCall : CmC := (yX7_readCall, cX7_readCall, 5, (some (.object "PlainJava$Exp")), 1, 8, false)
theorem hX7_readCall : mtC[176]? = some rX7_readCall := rfl
set_option maxRecDepth 100000 in
theorem okX7_readCall : cokMC rX7_readCall KX7_readCall = true := by sorry
def KX7_readLiteral_0 : List RI := [(.aload_n 0, 1, 0, 0, []), (.invokevirtual 38, 3, 0, 125, [(0, 0), (0, 0), (0, 0), (0, 0), (0, 0), (0, 0), (0, 0), (0, 0)]), (.bipush 81, 2, 0, 0, []), (.if_icmp .eq 12, 3, 0, 18, [])]
def KX7_readLiteral_9 : List RI := [(.aload_n 0, 1, 0, 0, []), (.invokevirtual 38, 3, 0, 125, [(0, 0), (0, 0), (0, 0), (0, 0), (0, 0), (0, 0), (0, 0), (0, 0)]), (.bipush 82, 2, 0, 0, []), (.if_icmp .ne 7, 3, 0, 22, [])]
def KX7_readLiteral_18 : List RI := [(.iconst 1, 1, 0, 0, []), (.goto 4, 3, 0, 23, [])]
def KX7_readLiteral_22 : List RI := [(.iconst 0, 1, 0, 0, [])]
def KX7_readLiteral_23 : List RI := [(.istore_n 1, 1, 0, 1, []), (.aload_n 0, 1, 0, 0, []), (.iload_n 1, 1, 0, 1, []), (.ifCond .eq 7, 3, 0, 33, [])]
def KX7_readLiteral_29 : List RI := [(.iconst 0, 1, 0, 0, []), (.goto 4, 3, 0, 34, [])]
def KX7_readLiteral_33 : List RI := [(.iconst 1, 1, 0, 0, [])]
def KX7_readLiteral_34 : List RI := [(.aload_n 0, 1, 0, 0, []), (.invokevirtual 38, 3, 0, 125, [(0, 0), (0, 0), (0, 0), (0, 0), (0, 0), (0, 0), (0, 0), (0, 0)]), (.invokevirtual 288, 3, 2, 162, [(0, 0), (0, 0), (0, 0), (0, 0), (0, 0), (0, 0), (0, 0), (0, 0)]), (.astore_n 2, 1, 0, 2, []), (.aload_n 2, 1, 0, 2, []), (.iconst 1, 1, 0, 0, []), (.putfield 370, 3, 0, 70, []), (.aload_n 2, 1, 0, 2, []), (.aload_n 0, 1, 0, 0, []), (.invokevirtual 38, 3, 0, 125, [(0, 0), (0, 0), (0, 0), (0, 0), (0, 0), (0, 0), (0, 0), (0, 0)]), (.bipush 72, 2, 0, 0, []), (.if_icmp .ne 7, 3, 0, 61, [])]
def KX7_readLiteral_57 : List RI := [(.lconst 1, 1, 0, 0, []), (.goto 28, 3, 0, 86, [])]
def KX7_readLiteral_61 : List RI := [(.aload_n 0, 1, 0, 0, []), (.invokevirtual 38, 3, 0, 125, [(0, 0), (0, 0), (0, 0), (0, 0), (0, 0), (0, 0), (0, 0), (0, 0)]), (.bipush 73, 2, 0, 0, []), (.if_icmp .ne 7, 3, 0, 74, [])]
def KX7_readLiteral_70 : List RI := [(.lconst 0, 1, 0, 0, []), (.goto 15, 3, 0, 86, [])]
def KX7_readLiteral_74 : List RI := [(.aload_n 0, 1, 0, 0, []), (.getfield 21, 3, 0, 241, []), (.getfield 75, 3, 0, 304, []), (.aload_n 0, 1, 0, 0, []), (.getfield 31, 3, 0, 242, []), (.laload, 1, 0, 0, [])]
def KX7_readLiteral_86 : List RI := [(.putfield 373, 3, 0, 71, []), (.aload_n 2, 1, 0, 2, []), (.aload_n 0, 1, 0, 0, []), (.invokevirtual 38, 3, 0, 125, [(0, 0), (0, 0), (0, 0), (0, 0), (0, 0), (0, 0), (0, 0), (0, 0)]), (.bipush 83, 2, 0, 0, []), (.if_icmp .ne 7, 3, 0, 103, [])]
def KX7_readLiteral_99 : List RI := [(.iconst 2, 1, 0, 0, []), (.goto 12, 3, 0, 112, [])]
def KX7_readLiteral_103 : List RI := [(.iload_n 1, 1, 0, 1, []), (.ifCond .eq 7, 3, 0, 111, [])]
def KX7_readLiteral_107 : List RI := [(.iconst (-1), 1, 0, 0, []), (.goto 4, 3, 0, 112, [])]
def KX7_readLiteral_111 : List RI := [(.iconst 0, 1, 0, 0, [])]
def KX7_readLiteral_112 : List RI := [(.putfield 376, 3, 0, 68, []), (.aload_n 0, 1, 0, 0, []), (.invokevirtual 57, 3, 0, 128, [(0, 0), (0, 0), (0, 0), (0, 0), (0, 0), (0, 0), (0, 0), (0, 0)]), (.aload_n 0, 1, 0, 0, []), (.aload_n 2, 1, 0, 2, []), (.invokevirtual 193, 3, 1, 161, [(0, 0), (0, 0), (0, 0), (0, 0), (0, 0), (0, 0), (0, 0), (0, 0)]), (.areturn, 1, 0, 0, [])]
def KX7_readLiteral : RB := [(0, KX7_readLiteral_0), (9, KX7_readLiteral_9), (18, KX7_readLiteral_18), (22, KX7_readLiteral_22), (23, KX7_readLiteral_23), (29, KX7_readLiteral_29), (33, KX7_readLiteral_33), (34, KX7_readLiteral_34), (57, KX7_readLiteral_57), (61, KX7_readLiteral_61), (70, KX7_readLiteral_70), (74, KX7_readLiteral_74), (86, KX7_readLiteral_86), (99, KX7_readLiteral_99), (103, KX7_readLiteral_103), (107, KX7_readLiteral_107), (111, KX7_readLiteral_111), (112, KX7_readLiteral_112)]
def rX7_readLiteral : CmC := (yX7_readLiteral, cX7_readLiteral, 3, (some (.object "PlainJava$Exp")), 0, 8, false)
theorem hX7_readLiteral : mtC[177]? = some rX7_readLiteral := rfl
set_option maxRecDepth 100000 in
theorem okX7_readLiteral : cokMC rX7_readLiteral KX7_readLiteral = true := by sorry
def KX8_init_0 : List RI := [(.aload_n 0, 1, 0, 0, []), (.invokespecial 3, 3, 0, 9999, []), (.aload_n 0, 1, 0, 0, []), (.iconst (-1), 1, 0, 0, []), (.putfield 9, 3, 0, 280, []), (.aload_n 0, 1, 0, 0, []), (.ldc2_w 15, 3, (-1), 0, []), (.putfield 17, 3, 0, 287, []), (.aload_n 0, 1, 0, 0, []), (.ldc2_w 15, 3, (-1), 0, []), (.putfield 21, 3, 0, 288, []), (.aload_n 0, 1, 0, 0, []), (.iload_n 1, 1, 0, 1, []), (.putfield 24, 3, 0, 270, []), (.aload_n 0, 1, 0, 0, []), (.iload_n 2, 1, 0, 2, []), (.putfield 27, 3, 0, 271, []), (.aload_n 0, 1, 0, 0, []), (.iload_n 3, 1, 0, 3, []), (.putfield 30, 3, 0, 272, []), (.aload_n 0, 1, 0, 0, []), (.aload 4, 2, 0, 0, []), (.putfield 33, 3, 0, 273, []), (.aload_n 0, 1, 0, 0, []), (.lload 5, 2, 0, 0, []), (.putfield 37, 3, 0, 274, []), (.return_, 1, 0, 0, [])]
def KX8_init : RB := [(0, KX8_init_0)]
def rX8_init : CmC := (yX8_init, cX8_init, 7, none, 5, 9, false)
theorem hX8_init : mtC[178]? = some rX8_init := rfl
set_option maxRecDepth 100000 in
theorem okX8_init : cokMC rX8_init KX8_init = true := by sorry
def KX8_isLoop_0 : List RI := [(.aload_n 0, 1, 0, 0, []), (.getfield 24, 3, 0, 270, []), (.bipush 58, 2, 0, 0, []), (.if_icmp .eq 21, 3, 0, 27, [])]
def KX8_isLoop_9 : List RI := [(.aload_n 0, 1, 0, 0, []), (.getfield 24, 3, 0, 270, []), (.bipush 59, 2, 0, 0, []), (.if_icmp .eq 12, 3, 0, 27, [])]
def KX8_isLoop_18 : List RI := [(.aload_n 0, 1, 0, 0, []), (.getfield 24, 3, 0, 270, []), (.bipush 60, 2, 0, 0, []), (.if_icmp .ne 7, 3, 0, 31, [])]
def KX8_isLoop_27 : List RI := [(.iconst 1, 1, 0, 0, []), (.goto 4, 3, 0, 32, [])]
def KX8_isLoop_31 : List RI := [(.iconst 0, 1, 0, 0, [])]
def KX8_isLoop_32 : List RI := [(.ireturn, 1, 2, 0, [])]
def KX8_isLoop : RB := [(0, KX8_isLoop_0), (9, KX8_isLoop_9), (18, KX8_isLoop_18), (27, KX8_isLoop_27), (31, KX8_isLoop_31), (32, KX8_isLoop_32)]
def rX8_isLoop : CmC := (yX8_isLoop, cX8_isLoop, 1, (some .boolean), 0, 9, false)
theorem hX8_isLoop : mtC[179]? = some rX8_isLoop := rfl
set_option maxRecDepth 100000 in
theorem okX8_isLoop : cokMC rX8_isLoop KX8_isLoop = true := by sorry
def KX8_isPart_0 : List RI := [(.aload_n 0, 1, 0, 0, []), (.getfield 24, 3, 0, 270, []), (.bipush 62, 2, 0, 0, []), (.if_icmp .eq 39, 3, 0, 45, [])]
def KX8_isPart_9 : List RI := [(.aload_n 0, 1, 0, 0, []), (.getfield 24, 3, 0, 270, []), (.bipush 63, 2, 0, 0, []), (.if_icmp .eq 30, 3, 0, 45, [])]
def KX8_isPart_18 : List RI := [(.aload_n 0, 1, 0, 0, []), (.getfield 24, 3, 0, 270, []), (.bipush 92, 2, 0, 0, []), (.if_icmp .eq 21, 3, 0, 45, [])]
def KX8_isPart_27 : List RI := [(.aload_n 0, 1, 0, 0, []), (.getfield 24, 3, 0, 270, []), (.bipush 93, 2, 0, 0, []), (.if_icmp .eq 12, 3, 0, 45, [])]
def KX8_isPart_36 : List RI := [(.aload_n 0, 1, 0, 0, []), (.getfield 24, 3, 0, 270, []), (.bipush 94, 2, 0, 0, []), (.if_icmp .ne 7, 3, 0, 49, [])]
def KX8_isPart_45 : List RI := [(.iconst 1, 1, 0, 0, []), (.goto 4, 3, 0, 50, [])]
def KX8_isPart_49 : List RI := [(.iconst 0, 1, 0, 0, [])]
def KX8_isPart_50 : List RI := [(.ireturn, 1, 2, 0, [])]
def KX8_isPart : RB := [(0, KX8_isPart_0), (9, KX8_isPart_9), (18, KX8_isPart_18), (27, KX8_isPart_27), (36, KX8_isPart_36), (45, KX8_isPart_45), (49, KX8_isPart_49), (50, KX8_isPart_50)]
def rX8_isPart : CmC := (yX8_isPart, cX8_isPart, 1, (some .boolean), 0, 9, false)
theorem hX8_isPart : mtC[180]? = some rX8_isPart := rfl
set_option maxRecDepth 100000 in
theorem okX8_isPart : cokMC rX8_isPart KX8_isPart = true := by sorry
def KX8_hasFinallyAhead_0 : List RI := [(.aload_n 0, 1, 0, 0, []), (.getfield 24, 3, 0, 270, []), (.bipush 92, 2, 0, 0, []), (.if_icmp .ne 35, 3, 0, 41, [])]
def KX8_hasFinallyAhead_9 : List RI := [(.aload_n 0, 1, 0, 0, []), (.getfield 33, 3, 0, 273, []), (.ifnull 28, 3, 0, 41, [])]
def KX8_hasFinallyAhead_16 : List RI := [(.aload_n 0, 1, 0, 0, []), (.getfield 33, 3, 0, 273, []), (.getfield 40, 3, 0, 278, []), (.ifnull 18, 3, 0, 41, [])]
def KX8_hasFinallyAhead_26 : List RI := [(.aload_n 0, 1, 0, 0, []), (.getfield 33, 3, 0, 273, []), (.getfield 40, 3, 0, 278, []), (.aload_n 0, 1, 0, 0, []), (.if_acmp .eq 7, 3, 0, 41, [])]
def KX8_hasFinallyAhead_37 : List RI := [(.iconst 1, 1, 0, 0, []), (.goto 4, 3, 0, 42, [])]
def KX8_hasFinallyAhead_41 : List RI := [(.iconst 0, 1, 0, 0, [])]
def KX8_hasFinallyAhead_42 : List RI := [(.ireturn, 1, 2, 0, [])]
def KX8_hasFinallyAhead : RB := [(0, KX8_hasFinallyAhead_0), (9, KX8_hasFinallyAhead_9), (16, KX8_hasFinallyAhead_16), (26, KX8_hasFinallyAhead_26), (37, KX8_hasFinallyAhead_37), (41, KX8_hasFinallyAhead_41), (42, KX8_hasFinallyAhead_42)]
def rX8_hasFinallyAhead : CmC := (yX8_hasFinallyAhead, cX8_hasFinallyAhead, 1, (some .boolean), 0, 9, false)
theorem hX8_hasFinallyAhead : mtC[181]? = some rX8_hasFinallyAhead := rfl
set_option maxRecDepth 100000 in
theorem okX8_hasFinallyAhead : cokMC rX8_hasFinallyAhead KX8_hasFinallyAhead = true := by sorry
def KX8_isCaught_0 : List RI := [(.aload_n 0, 1, 0, 0, []), (.getfield 24, 3, 0, 270, []), (.bipush 92, 2, 0, 0, []), (.if_icmp .ne 35, 3, 0, 41, [])]
def KX8_isCaught_9 : List RI := [(.aload_n 0, 1, 0, 0, []), (.getfield 33, 3, 0, 273, []), (.ifnull 28, 3, 0, 41, [])]
def KX8_isCaught_16 : List RI := [(.aload_n 0, 1, 0, 0, []), (.getfield 33, 3, 0, 273, []), (.getfield 43, 3, 0, 277, []), (.ifnull 18, 3, 0, 41, [])]
def KX8_isCaught_26 : List RI := [(.aload_n 0, 1, 0, 0, []), (.getfield 33, 3, 0, 273, []), (.getfield 46, 3, 0, 276, []), (.aload_n 0, 1, 0, 0, []), (.if_acmp .ne 7, 3, 0, 41, [])]
def KX8_isCaught_37 : List RI := [(.iconst 1, 1, 0, 0, []), (.goto 4, 3, 0, 42, [])]
def KX8_isCaught_41 : List RI := [(.iconst 0, 1, 0, 0, [])]
def KX8_isCaught_42 : List RI := [(.ireturn, 1, 2, 0, [])]
def KX8_isCaught : RB := [(0, KX8_isCaught_0), (9, KX8_isCaught_9), (16, KX8_isCaught_16), (26, KX8_isCaught_26), (37, KX8_isCaught_37), (41, KX8_isCaught_41), (42, KX8_isCaught_42)]
def rX8_isCaught : CmC := (yX8_isCaught, cX8_isCaught, 1, (some .boolean), 0, 9, false)
theorem hX8_isCaught : mtC[182]? = some rX8_isCaught := rfl
set_option maxRecDepth 100000 in
theorem okX8_isCaught : cokMC rX8_isCaught KX8_isCaught = true := by sorry
def KX8_isAlways_0 : List RI := [(.aload_n 0, 1, 0, 0, []), (.getfield 49, 3, 0, 279, []), (.ifnonnull 14, 3, 0, 18, [])]
def KX8_isAlways_7 : List RI := [(.iload_n 1, 1, 0, 1, []), (.iconst 1, 1, 0, 0, []), (.if_icmp .ne 7, 3, 0, 16, [])]
def KX8_isAlways_12 : List RI := [(.iconst 1, 1, 0, 0, []), (.goto 4, 3, 0, 17, [])]
def KX8_isAlways_16 : List RI := [(.iconst 0, 1, 0, 0, [])]
def KX8_isAlways_17 : List RI := [(.ireturn, 1, 2, 0, [])]
def KX8_isAlways_18 : List RI := [(.aload_n 0, 1, 0, 0, []), (.getfield 49, 3, 0, 279, []), (.getfield 53, 3, 0, 70, []), (.ifCond .eq 20, 3, 0, 45, [])]
def KX8_isAlways_28 : List RI := [(.aload_n 0, 1, 0, 0, []), (.getfield 49, 3, 0, 279, []), (.getfield 59, 3, 0, 71, []), (.iload_n 1, 1, 0, 1, []), (.i2l, 1, 0, 0, []), (.lcmp, 1, 0, 0, []), (.ifCond .ne 7, 3, 0, 45, [])]
def KX8_isAlways_41 : List RI := [(.iconst 1, 1, 0, 0, []), (.goto 4, 3, 0, 46, [])]
def KX8_isAlways_45 : List RI := [(.iconst 0, 1, 0, 0, [])]
def KX8_isAlways_46 : List RI := [(.ireturn, 1, 2, 0, [])]
def KX8_isAlways : RB := [(0, KX8_isAlways_0), (7, KX8_isAlways_7), (12, KX8_isAlways_12), (16, KX8_isAlways_16), (17, KX8_isAlways_17), (18, KX8_isAlways_18), (28, KX8_isAlways_28), (41, KX8_isAlways_41), (45, KX8_isAlways_45), (46, KX8_isAlways_46)]
def rX8_isAlways : CmC := (yX8_isAlways, cX8_isAlways, 2, (some .boolean), 1, 9, false)
theorem hX8_isAlways : mtC[183]? = some rX8_isAlways := rfl
set_option maxRecDepth 100000 in
theorem okX8_isAlways : cokMC rX8_isAlways KX8_isAlways = true := by sorry
def KX9_init_0 : List RI := [(.aload_n 0, 1, 0, 0, []), (.invokespecial 3, 3, 0, 9999, []), (.aload_n 0, 1, 0, 0, []), (.sipush 503, 3, 0, 0, []), (.newarray .int, 2, 3, 100, []), (.putfield 11, 3, 0, 300, []), (.aload_n 0, 1, 0, 0, []), (.sipush 503, 3, 0, 0, []), (.newarray .int, 2, 4, 100, []), (.putfield 15, 3, 0, 301, []), (.aload_n 0, 1, 0, 0, []), (.sipush 503, 3, 0, 0, []), (.newarray .int, 2, 2, 100, []), (.putfield 18, 3, 0, 302, []), (.aload_n 0, 1, 0, 0, []), (.sipush 503, 3, 0, 0, []), (.newarray .int, 2, 0, 100, []), (.putfield 21, 3, 0, 303, []), (.aload_n 0, 1, 0, 0, []), (.sipush 503, 3, 0, 0, []), (.newarray .long, 2, 0, 102, []), (.putfield 24, 3, 0, 304, []), (.aload_n 0, 1, 0, 0, []), (.bipush 24, 2, 0, 0, []), (.newarray .long, 2, 5, 102, []), (.putfield 28, 3, 0, 306, []), (.aload_n 0, 1, 0, 0, []), (.iconst 0, 1, 0, 0, []), (.newarray .byte, 2, 0, 101, []), (.putfield 31, 3, 0, 307, []), (.iconst 0, 1, 0, 0, []), (.istore_n 1, 1, 0, 1, []), (.iconst 0, 1, 0, 0, []), (.istore_n 2, 1, 0, 2, [])]
def KX9_init_68 : List RI := [(.iload_n 2, 1, 0, 2, []), (.ldc 35, 2, 0, 1000003, []), (.invokevirtual 37, 3, 0, 239, [(0, 0), (0, 0), (0, 0), (0, 0), (0, 0), (0, 0), (0, 0), (0, 0), (0, 0), (0, 0), (0, 0), (0, 0), (0, 0)]), (.if_icmp .ge 50, 3, 0, 124, [])]
def KX9_init_77 : List RI := [(.ldc 35, 2, 0, 1000003, []), (.iload_n 2, 1, 0, 2, []), (.invokevirtual 43, 3, 1, 238, [(0, 0), (0, 0), (0, 0), (0, 0), (0, 0), (0, 0), (0, 0), (0, 0), (0, 0), (0, 0), (0, 0), (0, 0), (0, 0)]), (.istore_n 3, 1, 0, 3, []), (.iload_n 3, 1, 0, 3, []), (.bipush 32, 2, 0, 0, []), (.if_icmp .ne 9, 3, 0, 96, [])]
def KX9_init_90 : List RI := [(.iinc 1 1, 3, 0, 0, []), (.goto 25, 3, 0, 118, [])]
def KX9_init_96 : List RI := [(.iload_n 1, 1, 0, 1, []), (.bipush 24, 2, 0, 0, []), (.if_icmp .ge 19, 3, 0, 118, [])]
def KX9_init_102 : List RI := [(.aload_n 0, 1, 0, 0, []), (.getfield 28, 3, 0, 306, []), (.iload_n 1, 1, 0, 1, []), (.aload_n 0, 1, 0, 0, []), (.getfield 28, 3, 0, 306, []), (.iload_n 1, 1, 0, 1, []), (.laload, 1, 0, 0, []), (.iload_n 3, 1, 0, 3, []), (.invokestatic 47, 3, 2, 185, []), (.lastore, 1, 0, 0, [])]
def KX9_init_118 : List RI := [(.iinc 2 1, 3, 0, 0, []), (.goto (-53), 3, 0, 68, [])]
def KX9_init_124 : List RI := [(.return_, 1, 0, 0, [])]
def KX9_init : RB := [(0, KX9_init_0), (68, KX9_init_68), (77, KX9_init_77), (90, KX9_init_90), (96, KX9_init_96), (102, KX9_init_102), (118, KX9_init_118), (124, KX9_init_124)]
def rX9_init : CmC := (yX9_init, cX9_init, 4, none, 0, 10, false)
theorem hX9_init : mtC[184]? = some rX9_init := rfl
set_option maxRecDepth 100000 in
theorem swX9_init_8 : decode cX9_init 8 = .ok (.newarray .int, 2) := by sorry
set_option maxRecDepth 100000 in
theorem swX9_init_17 : decode cX9_init 17 = .ok (.newarray .int, 2) := by sorry
set_option maxRecDepth 100000 in
theorem swX9_init_26 : decode cX9_init 26 = .ok (.newarray .int, 2) := by sorry
set_option maxRecDepth 100000 in
theorem swX9_init_35 : decode cX9_init 35 = .ok (.newarray .int, 2) := by sorry
set_option maxRecDepth 100000 in
theorem swX9_init_44 : decode cX9_init 44 = .ok (.newarray .long, 2) := by sorry
set_option maxRecDepth 100000 in
theorem swX9_init_52 : decode cX9_init 52 = .ok (.newarray .long, 2) := by sorry
set_option maxRecDepth 100000 in
theorem swX9_init_59 : decode cX9_init 59 = .ok (.newarray .byte, 2) := by sorry
set_option maxRecDepth 100000 in
theorem okX9_init : cokMC rX9_init KX9_init = true := by sorry
def KX9_longerKey_0 : List RI := [(.iload_n 2, 1, 0, 2, []), (.bipush 97, 2, 0, 0, []), (.if_icmp .lt 13, 3, 0, 16, [])]
def KX9_longerKey_6 : List RI := [(.iload_n 2, 1, 0, 2, []), (.bipush 97, 2, 0, 0, []), (.isub, 1, 0, 0, []), (.bipush 37, 2, 0, 0, []), (.iadd, 1, 0, 0, []), (.goto 25, 3, 0, 38, [])]
def KX9_longerKey_16 : List RI := [(.iload_n 2, 1, 0, 2, []), (.bipush 65, 2, 0, 0, []), (.if_icmp .lt 13, 3, 0, 32, [])]
def KX9_longerKey_22 : List RI := [(.iload_n 2, 1, 0, 2, []), (.bipush 65, 2, 0, 0, []), (.isub, 1, 0, 0, []), (.bipush 11, 2, 0, 0, []), (.iadd, 1, 0, 0, []), (.goto 9, 3, 0, 38, [])]
def KX9_longerKey_32 : List RI := [(.iload_n 2, 1, 0, 2, []), (.bipush 48, 2, 0, 0, []), (.isub, 1, 0, 0, []), (.iconst 1, 1, 0, 0, []), (.iadd, 1, 0, 0, [])]
def KX9_longerKey_38 : List RI := [(.istore_n 3, 1, 0, 3, []), (.lload_n 0, 1, 0, 0, []), (.bipush 6, 2, 0, 0, []), (.lshl, 1, 0, 0, []), (.iload_n 3, 1, 0, 3, []), (.i2l, 1, 0, 0, []), (.lor, 1, 0, 0, []), (.lreturn, 1, 0, 0, [])]
def KX9_longerKey : RB := [(0, KX9_longerKey_0), (6, KX9_longerKey_6), (16, KX9_longerKey_16), (22, KX9_longerKey_22), (32, KX9_longerKey_32), (38, KX9_longerKey_38)]
def rX9_longerKey : CmC := (yX9_longerKey, cX9_longerKey, 4, (some .long), 2, 10, true)
theorem hX9_longerKey : mtC[185]? = some rX9_longerKey := rfl
set_option maxRecDepth 100000 in
theorem okX9_longerKey : cokMC rX9_longerKey KX9_longerKey = true := by sorry
def KX9_keyOf_0 : List RI := [(.lconst 0, 1, 0, 0, []), (.lstore_n 1, 1, 0, 1, []), (.iconst 0, 1, 0, 0, []), (.istore_n 3, 1, 0, 3, [])]
def KX9_keyOf_4 : List RI := [(.iload_n 3, 1, 0, 3, []), (.aload_n 0, 1, 0, 0, []), (.invokevirtual 37, 3, 0, 239, [(0, 0), (0, 0), (0, 0), (0, 0), (0, 0), (0, 0), (0, 0), (0, 0), (0, 0), (0, 0), (0, 0), (0, 0), (0, 0)]), (.if_icmp .ge 19, 3, 0, 28, [])]
def KX9_keyOf_12 : List RI := [(.lload_n 1, 1, 0, 1, []), (.aload_n 0, 1, 0, 0, []), (.iload_n 3, 1, 0, 3, []), (.invokevirtual 43, 3, 1, 238, [(0, 0), (0, 0), (0, 0), (0, 0), (0, 0), (0, 0), (0, 0), (0, 0), (0, 0), (0, 0), (0, 0), (0, 0), (0, 0)]), (.invokestatic 47, 3, 2, 185, []), (.lstore_n 1, 1, 0, 1, []), (.iinc 3 1, 3, 0, 0, []), (.goto (-21), 3, 0, 4, [])]
def KX9_keyOf_28 : List RI := [(.lload_n 1, 1, 0, 1, []), (.lreturn, 1, 0, 0, [])]
def KX9_keyOf : RB := [(0, KX9_keyOf_0), (4, KX9_keyOf_4), (12, KX9_keyOf_12), (28, KX9_keyOf_28)]
def rX9_keyOf : CmC := (yX9_keyOf, cX9_keyOf, 4, (some .long), 1, 10, true)
theorem hX9_keyOf : mtC[186]? = some rX9_keyOf := rfl
set_option maxRecDepth 100000 in
theorem okX9_keyOf : cokMC rX9_keyOf KX9_keyOf = true := by sorry
def KX9_sort_0 : List RI := [(.aload_n 0, 1, 0, 0, []), (.getfield 18, 3, 0, 302, []), (.iload_n 1, 1, 0, 1, []), (.iaload, 1, 0, 0, []), (.istore_n 2, 1, 0, 2, []), (.iload_n 2, 1, 0, 2, []), (.bipush 80, 2, 0, 0, []), (.if_icmp .ne 5, 3, 0, 15, [])]
def KX9_sort_13 : List RI := [(.iconst 1, 1, 0, 0, []), (.ireturn, 1, 1, 0, [])]
def KX9_sort_15 : List RI := [(.iload_n 2, 1, 0, 2, []), (.bipush 81, 2, 0, 0, []), (.if_icmp .eq 9, 3, 0, 27, [])]
def KX9_sort_21 : List RI := [(.iload_n 2, 1, 0, 2, []), (.bipush 82, 2, 0, 0, []), (.if_icmp .ne 5, 3, 0, 29, [])]
def KX9_sort_27 : List RI := [(.iconst 2, 1, 0, 0, []), (.ireturn, 1, 1, 0, [])]
def KX9_sort_29 : List RI := [(.iload_n 2, 1, 0, 2, []), (.bipush 83, 2, 0, 0, []), (.if_icmp .ne 5, 3, 0, 37, [])]
def KX9_sort_35 : List RI := [(.iconst 3, 1, 0, 0, []), (.ireturn, 1, 1, 0, [])]
def KX9_sort_37 : List RI := [(.iload_n 2, 1, 0, 2, []), (.bipush 50, 2, 0, 0, []), (.if_icmp .lt 7, 3, 0, 47, [])]
def KX9_sort_43 : List RI := [(.iconst 4, 1, 0, 0, []), (.goto 4, 3, 0, 48, [])]
def KX9_sort_47 : List RI := [(.iconst 5, 1, 0, 0, [])]
def KX9_sort_48 : List RI := [(.ireturn, 1, 1, 0, [])]
def KX9_sort : RB := [(0, KX9_sort_0), (13, KX9_sort_13), (15, KX9_sort_15), (21, KX9_sort_21), (27, KX9_sort_27), (29, KX9_sort_29), (35, KX9_sort_35), (37, KX9_sort_37), (43, KX9_sort_43), (47, KX9_sort_47), (48, KX9_sort_48)]
def rX9_sort : CmC := (yX9_sort, cX9_sort, 3, (some .int), 1, 10, false)
theorem hX9_sort : mtC[187]? = some rX9_sort := rfl
set_option maxRecDepth 100000 in
theorem okX9_sort : cokMC rX9_sort KX9_sort = true := by sorry
def KX9_cutText_0 : List RI := [(.aload_n 0, 1, 0, 0, []), (.aload_n 1, 1, 0, 1, []), (.putfield 31, 3, 0, 307, []), (.aload_n 0, 1, 0, 0, []), (.iload_n 2, 1, 0, 2, []), (.aload_n 1, 1, 0, 1, []), (.arraylength, 1, 0, 0, []), (.invokestatic 51, 3, 2, 9996, []), (.putfield 57, 3, 0, 308, []), (.aload_n 0, 1, 0, 0, []), (.iconst 0, 1, 0, 0, []), (.putfield 60, 3, 0, 305, []), (.iconst 1, 1, 0, 0, []), (.istore_n 3, 1, 0, 3, []), (.aload_n 0, 1, 0, 0, []), (.iconst 0, 1, 0, 0, []), (.invokevirtual 63, 3, 1, 190, [(0, 0), (0, 0), (0, 0), (0, 0), (0, 0), (0, 0), (0, 0), (0, 0), (0, 0), (0, 0)]), (.istore 4, 2, 0, 0, [])]
def KX9_cutText_29 : List RI := [(.iload_n 3, 1, 0, 3, []), (.ifCond .eq 102, 3, 0, 132, [])]
def KX9_cutText_33 : List RI := [(.iload 4, 2, 0, 0, []), (.aload_n 0, 1, 0, 0, []), (.getfield 57, 3, 0, 308, []), (.if_icmp .ge 93, 3, 0, 132, [])]
def KX9_cutText_42 : List RI := [(.aload_n 0, 1, 0, 0, []), (.getfield 60, 3, 0, 305, []), (.sipush 500, 3, 0, 0, []), (.if_icmp .gt 83, 3, 0, 132, [])]
def KX9_cutText_52 : List RI := [(.aload_n 0, 1, 0, 0, []), (.iload 4, 2, 0, 0, []), (.invokevirtual 67, 3, 1, 191, [(0, 0), (0, 0), (0, 0), (0, 0), (0, 0), (0, 0), (0, 0), (0, 0), (0, 0), (0, 0)]), (.istore 5, 2, 0, 0, []), (.iload 5, 2, 0, 0, []), (.ifCond .le 7, 3, 0, 69, [])]
def KX9_cutText_65 : List RI := [(.iconst 1, 1, 0, 0, []), (.goto 4, 3, 0, 70, [])]
def KX9_cutText_69 : List RI := [(.iconst 0, 1, 0, 0, [])]
def KX9_cutText_70 : List RI := [(.istore_n 3, 1, 0, 3, []), (.iload_n 3, 1, 0, 3, []), (.ifCond .eq 57, 3, 0, 129, [])]
def KX9_cutText_75 : List RI := [(.aload_n 0, 1, 0, 0, []), (.getfield 11, 3, 0, 300, []), (.aload_n 0, 1, 0, 0, []), (.getfield 60, 3, 0, 305, []), (.iload 4, 2, 0, 0, []), (.iastore, 1, 0, 0, []), (.aload_n 0, 1, 0, 0, []), (.getfield 15, 3, 0, 301, []), (.aload_n 0, 1, 0, 0, []), (.getfield 60, 3, 0, 305, []), (.iload 5, 2, 0, 0, []), (.iastore, 1, 0, 0, []), (.aload_n 0, 1, 0, 0, []), (.getfield 21, 3, 0, 303, []), (.aload_n 0, 1, 0, 0, []), (.getfield 60, 3, 0, 305, []), (.bipush (-2), 2, 0, 0, []), (.iastore, 1, 0, 0, []), (.aload_n 0, 1, 0, 0, []), (.dup, 1, 0, 0, []), (.getfield 60, 3, 0, 305, []), (.iconst 1, 1, 0, 0, []), (.iadd, 1, 0, 0, []), (.putfield 60, 3, 0, 305, []), (.aload_n 0, 1, 0, 0, []), (.iload 4, 2, 0, 0, []), (.iload 5, 2, 0, 0, []), (.iadd, 1, 0, 0, []), (.invokevirtual 63, 3, 1, 190, [(0, 0), (0, 0), (0, 0), (0, 0), (0, 0), (0, 0), (0, 0), (0, 0), (0, 0), (0, 0)]), (.istore 4, 2, 0, 0, [])]
def KX9_cutText_129 : List RI := [(.goto (-100), 3, 0, 29, [])]
def KX9_cutText_132 : List RI := [(.aload_n 0, 1, 0, 0, []), (.getfield 11, 3, 0, 300, []), (.aload_n 0, 1, 0, 0, []), (.getfield 60, 3, 0, 305, []), (.iload 4, 2, 0, 0, []), (.iastore, 1, 0, 0, []), (.aload_n 0, 1, 0, 0, []), (.getfield 18, 3, 0, 302, []), (.aload_n 0, 1, 0, 0, []), (.getfield 60, 3, 0, 305, []), (.iload_n 3, 1, 0, 3, []), (.ifCond .eq 8, 3, 0, 160, [])]
def KX9_cutText_155 : List RI := [(.bipush 84, 2, 0, 0, []), (.goto 5, 3, 0, 162, [])]
def KX9_cutText_160 : List RI := [(.bipush 85, 2, 0, 0, [])]
def KX9_cutText_162 : List RI := [(.iastore, 1, 0, 0, []), (.return_, 1, 0, 0, [])]
def KX9_cutText : RB := [(0, KX9_cutText_0), (29, KX9_cutText_29), (33, KX9_cutText_33), (42, KX9_cutText_42), (52, KX9_cutText_52), (65, KX9_cutText_65), (69, KX9_cutText_69), (70, KX9_cutText_70), (75, KX9_cutText_75), (129, KX9_cutText_129), (132, KX9_cutText_132), (155, KX9_cutText_155), (160, KX9_cutText_160), (162, KX9_cutText_162)]
def rX9_cutText : CmC := (yX9_cutText, cX9_cutText, 6, none, 2, 10, false)
theorem hX9_cutText : mtC[188]? = some rX9_cutText := rfl
set_option maxRecDepth 100000 in
theorem okX9_cutText : cokMC rX9_cutText KX9_cutText = true := by sorry
def KX9_byteAt_0 : List RI := [(.iload_n 1, 1, 0, 1, []), (.ifCond .lt 24, 3, 0, 25, [])]
def KX9_byteAt_4 : List RI := [(.iload_n 1, 1, 0, 1, []), (.aload_n 0, 1, 0, 0, []), (.getfield 57, 3, 0, 308, []), (.if_icmp .ge 16, 3, 0, 25, [])]
def KX9_byteAt_12 : List RI := [(.aload_n 0, 1, 0, 0, []), (.getfield 31, 3, 0, 307, []), (.iload_n 1, 1, 0, 1, []), (.baload, 1, 0, 0, []), (.sipush 255, 3, 0, 0, []), (.iand, 1, 0, 0, []), (.goto 4, 3, 0, 26, [])]
def KX9_byteAt_25 : List RI := [(.iconst (-1), 1, 0, 0, [])]
def KX9_byteAt_26 : List RI := [(.ireturn, 1, 1, 0, [])]
def KX9_byteAt : RB := [(0, KX9_byteAt_0), (4, KX9_byteAt_4), (12, KX9_byteAt_12), (25, KX9_byteAt_25), (26, KX9_byteAt_26)]
def rX9_byteAt : CmC := (yX9_byteAt, cX9_byteAt, 2, (some .int), 1, 10, false)
theorem hX9_byteAt : mtC[189]? = some rX9_byteAt := rfl
set_option maxRecDepth 100000 in
theorem okX9_byteAt : cokMC rX9_byteAt KX9_byteAt = true := by sorry
def KX9_behindBlanks_0 : List RI := [(.iload_n 1, 1, 0, 1, []), (.istore_n 2, 1, 0, 2, []), (.iconst 0, 1, 0, 0, []), (.istore_n 3, 1, 0, 3, [])]
def KX9_behindBlanks_4 : List RI := [(.iload_n 2, 1, 0, 2, []), (.aload_n 0, 1, 0, 0, []), (.getfield 57, 3, 0, 308, []), (.if_icmp .ge 83, 3, 0, 92, [])]
def KX9_behindBlanks_12 : List RI := [(.aload_n 0, 1, 0, 0, []), (.iload_n 2, 1, 0, 2, []), (.invokevirtual 70, 3, 1, 189, [(0, 0), (0, 0), (0, 0), (0, 0), (0, 0), (0, 0), (0, 0), (0, 0), (0, 0), (0, 0)]), (.istore 4, 2, 0, 0, []), (.iload 4, 2, 0, 0, []), (.bipush 10, 2, 0, 0, []), (.if_icmp .ne 8, 3, 0, 31, [])]
def KX9_behindBlanks_26 : List RI := [(.iconst 0, 1, 0, 0, []), (.istore_n 3, 1, 0, 3, []), (.goto 58, 3, 0, 86, [])]
def KX9_behindBlanks_31 : List RI := [(.iload_n 3, 1, 0, 3, []), (.ifCond .ne 27, 3, 0, 59, [])]
def KX9_behindBlanks_35 : List RI := [(.iload 4, 2, 0, 0, []), (.bipush 47, 2, 0, 0, []), (.if_icmp .ne 20, 3, 0, 59, [])]
def KX9_behindBlanks_42 : List RI := [(.aload_n 0, 1, 0, 0, []), (.iload_n 2, 1, 0, 2, []), (.iconst 1, 1, 0, 0, []), (.iadd, 1, 0, 0, []), (.invokevirtual 70, 3, 1, 189, [(0, 0), (0, 0), (0, 0), (0, 0), (0, 0), (0, 0), (0, 0), (0, 0), (0, 0), (0, 0)]), (.bipush 47, 2, 0, 0, []), (.if_icmp .ne 8, 3, 0, 59, [])]
def KX9_behindBlanks_54 : List RI := [(.iconst 1, 1, 0, 0, []), (.istore_n 3, 1, 0, 3, []), (.goto 30, 3, 0, 86, [])]
def KX9_behindBlanks_59 : List RI := [(.iload_n 3, 1, 0, 3, []), (.ifCond .ne 26, 3, 0, 86, [])]
def KX9_behindBlanks_63 : List RI := [(.iload 4, 2, 0, 0, []), (.bipush 32, 2, 0, 0, []), (.if_icmp .eq 19, 3, 0, 86, [])]
def KX9_behindBlanks_70 : List RI := [(.iload 4, 2, 0, 0, []), (.bipush 9, 2, 0, 0, []), (.if_icmp .eq 12, 3, 0, 86, [])]
def KX9_behindBlanks_77 : List RI := [(.iload 4, 2, 0, 0, []), (.bipush 13, 2, 0, 0, []), (.if_icmp .eq 5, 3, 0, 86, [])]
def KX9_behindBlanks_84 : List RI := [(.iload_n 2, 1, 0, 2, []), (.ireturn, 1, 1, 0, [])]
def KX9_behindBlanks_86 : List RI := [(.iinc 2 1, 3, 0, 0, []), (.goto (-85), 3, 0, 4, [])]
def KX9_behindBlanks_92 : List RI := [(.aload_n 0, 1, 0, 0, []), (.getfield 57, 3, 0, 308, []), (.ireturn, 1, 1, 0, [])]
def KX9_behindBlanks : RB := [(0, KX9_behindBlanks_0), (4, KX9_behindBlanks_4), (12, KX9_behindBlanks_12), (26, KX9_behindBlanks_26), (31, KX9_behindBlanks_31), (35, KX9_behindBlanks_35), (42, KX9_behindBlanks_42), (54, KX9_behindBlanks_54), (59, KX9_behindBlanks_59), (63, KX9_behindBlanks_63), (70, KX9_behindBlanks_70), (77, KX9_behindBlanks_77), (84, KX9_behindBlanks_84), (86, KX9_behindBlanks_86), (92, KX9_behindBlanks_92)]
def rX9_behindBlanks : CmC := (yX9_behindBlanks, cX9_behindBlanks, 5, (some .int), 1, 10, false)
theorem hX9_behindBlanks : mtC[190]? = some rX9_behindBlanks := rfl
set_option maxRecDepth 100000 in
theorem okX9_behindBlanks : cokMC rX9_behindBlanks KX9_behindBlanks = true := by sorry
def KX9_cutOne_0 : List RI := [(.aload_n 0, 1, 0, 0, []), (.iload_n 1, 1, 0, 1, []), (.invokevirtual 70, 3, 1, 189, [(0, 0), (0, 0), (0, 0), (0, 0), (0, 0), (0, 0), (0, 0), (0, 0), (0, 0), (0, 0)]), (.istore_n 2, 1, 0, 2, []), (.iload_n 2, 1, 0, 2, []), (.invokestatic 73, 3, 1, 192, []), (.ifCond .eq 9, 3, 0, 19, [])]
def KX9_cutOne_13 : List RI := [(.aload_n 0, 1, 0, 0, []), (.iload_n 1, 1, 0, 1, []), (.invokevirtual 77, 3, 1, 194, [(0, 0), (0, 0), (0, 0), (0, 0), (0, 0), (0, 0), (0, 0), (0, 0), (0, 0), (0, 0)]), (.ireturn, 1, 1, 0, [])]
def KX9_cutOne_19 : List RI := [(.iload_n 2, 1, 0, 2, []), (.invokestatic 80, 3, 1, 193, []), (.ifCond .eq 9, 3, 0, 32, [])]
def KX9_cutOne_26 : List RI := [(.aload_n 0, 1, 0, 0, []), (.iload_n 1, 1, 0, 1, []), (.invokevirtual 83, 3, 1, 195, [(0, 0), (0, 0), (0, 0), (0, 0), (0, 0), (0, 0), (0, 0), (0, 0), (0, 0), (0, 0)]), (.ireturn, 1, 1, 0, [])]
def KX9_cutOne_32 : List RI := [(.iload_n 2, 1, 0, 2, []), (.bipush 39, 2, 0, 0, []), (.if_icmp .ne 11, 3, 0, 46, [])]
def KX9_cutOne_38 : List RI := [(.aload_n 0, 1, 0, 0, []), (.iload_n 1, 1, 0, 1, []), (.invokevirtual 86, 3, 1, 196, [(0, 0), (0, 0), (0, 0), (0, 0), (0, 0), (0, 0), (0, 0), (0, 0), (0, 0), (0, 0)]), (.goto 8, 3, 0, 51, [])]
def KX9_cutOne_46 : List RI := [(.aload_n 0, 1, 0, 0, []), (.iload_n 1, 1, 0, 1, []), (.invokevirtual 89, 3, 1, 197, [(0, 0), (0, 0), (0, 0), (0, 0), (0, 0), (0, 0), (0, 0), (0, 0), (0, 0), (0, 0)])]
def KX9_cutOne_51 : List RI := [(.ireturn, 1, 1, 0, [])]
def KX9_cutOne : RB := [(0, KX9_cutOne_0), (13, KX9_cutOne_13), (19, KX9_cutOne_19), (26, KX9_cutOne_26), (32, KX9_cutOne_32), (38, KX9_cutOne_38), (46, KX9_cutOne_46), (51, KX9_cutOne_51)]
def rX9_cutOne : CmC := (yX9_cutOne, cX9_cutOne, 3, (some .int), 1, 10, false)
theorem hX9_cutOne : mtC[191]? = some rX9_cutOne := rfl
set_option maxRecDepth 100000 in
theorem okX9_cutOne : cokMC rX9_cutOne KX9_cutOne = true := by sorry
def KX9_isLetter_0 : List RI := [(.iload_n 0, 1, 0, 0, []), (.bipush 97, 2, 0, 0, []), (.if_icmp .lt 9, 3, 0, 12, [])]
def KX9_isLetter_6 : List RI := [(.iload_n 0, 1, 0, 0, []), (.bipush 122, 2, 0, 0, []), (.if_icmp .le 15, 3, 0, 24, [])]
def KX9_isLetter_12 : List RI := [(.iload_n 0, 1, 0, 0, []), (.bipush 65, 2, 0, 0, []), (.if_icmp .lt 13, 3, 0, 28, [])]
def KX9_isLetter_18 : List RI := [(.iload_n 0, 1, 0, 0, []), (.bipush 90, 2, 0, 0, []), (.if_icmp .gt 7, 3, 0, 28, [])]
def KX9_isLetter_24 : List RI := [(.iconst 1, 1, 0, 0, []), (.goto 4, 3, 0, 29, [])]
def KX9_isLetter_28 : List RI := [(.iconst 0, 1, 0, 0, [])]
def KX9_isLetter_29 : List RI := [(.ireturn, 1, 2, 0, [])]
def KX9_isLetter : RB := [(0, KX9_isLetter_0), (6, KX9_isLetter_6), (12, KX9_isLetter_12), (18, KX9_isLetter_18), (24, KX9_isLetter_24), (28, KX9_isLetter_28), (29, KX9_isLetter_29)]
def rX9_isLetter : CmC := (yX9_isLetter, cX9_isLetter, 1, (some .boolean), 1, 10, true)
theorem hX9_isLetter : mtC[192]? = some rX9_isLetter := rfl
set_option maxRecDepth 100000 in
theorem okX9_isLetter : cokMC rX9_isLetter KX9_isLetter = true := by sorry
def KX9_isDigit_0 : List RI := [(.iload_n 0, 1, 0, 0, []), (.bipush 48, 2, 0, 0, []), (.if_icmp .lt 13, 3, 0, 16, [])]
def KX9_isDigit_6 : List RI := [(.iload_n 0, 1, 0, 0, []), (.bipush 57, 2, 0, 0, []), (.if_icmp .gt 7, 3, 0, 16, [])]
def KX9_isDigit_12 : List RI := [(.iconst 1, 1, 0, 0, []), (.goto 4, 3, 0, 17, [])]
def KX9_isDigit_16 : List RI := [(.iconst 0, 1, 0, 0, [])]
def KX9_isDigit_17 : List RI := [(.ireturn, 1, 2, 0, [])]
def KX9_isDigit : RB := [(0, KX9_isDigit_0), (6, KX9_isDigit_6), (12, KX9_isDigit_12), (16, KX9_isDigit_16), (17, KX9_isDigit_17)]
def rX9_isDigit : CmC := (yX9_isDigit, cX9_isDigit, 1, (some .boolean), 1, 10, true)
theorem hX9_isDigit : mtC[193]? = some rX9_isDigit := rfl
set_option maxRecDepth 100000 in
theorem okX9_isDigit : cokMC rX9_isDigit KX9_isDigit = true := by sorry
def KX9_cutName_0 : List RI := [(.iload_n 1, 1, 0, 1, []), (.istore_n 2, 1, 0, 2, []), (.lconst 0, 1, 0, 0, []), (.lstore_n 3, 1, 0, 3, [])]
def KX9_cutName_4 : List RI := [(.iload_n 2, 1, 0, 2, []), (.aload_n 0, 1, 0, 0, []), (.getfield 57, 3, 0, 308, []), (.if_icmp .ge 41, 3, 0, 50, [])]
def KX9_cutName_12 : List RI := [(.aload_n 0, 1, 0, 0, []), (.iload_n 2, 1, 0, 2, []), (.invokevirtual 70, 3, 1, 189, [(0, 0), (0, 0), (0, 0), (0, 0), (0, 0), (0, 0), (0, 0), (0, 0), (0, 0), (0, 0)]), (.invokestatic 73, 3, 1, 192, []), (.ifCond .ne 14, 3, 0, 34, [])]
def KX9_cutName_23 : List RI := [(.aload_n 0, 1, 0, 0, []), (.iload_n 2, 1, 0, 2, []), (.invokevirtual 70, 3, 1, 189, [(0, 0), (0, 0), (0, 0), (0, 0), (0, 0), (0, 0), (0, 0), (0, 0), (0, 0), (0, 0)]), (.invokestatic 80, 3, 1, 193, []), (.ifCond .eq 19, 3, 0, 50, [])]
def KX9_cutName_34 : List RI := [(.lload_n 3, 1, 0, 3, []), (.aload_n 0, 1, 0, 0, []), (.iload_n 2, 1, 0, 2, []), (.invokevirtual 70, 3, 1, 189, [(0, 0), (0, 0), (0, 0), (0, 0), (0, 0), (0, 0), (0, 0), (0, 0), (0, 0), (0, 0)]), (.invokestatic 47, 3, 2, 185, []), (.lstore_n 3, 1, 0, 3, []), (.iinc 2 1, 3, 0, 0, []), (.goto (-43), 3, 0, 4, [])]
def KX9_cutName_50 : List RI := [(.iload_n 2, 1, 0, 2, []), (.iload_n 1, 1, 0, 1, []), (.isub, 1, 0, 0, []), (.bipush 10, 2, 0, 0, []), (.if_icmp .le 5, 3, 0, 60, [])]
def KX9_cutName_58 : List RI := [(.iconst 0, 1, 0, 0, []), (.ireturn, 1, 1, 0, [])]
def KX9_cutName_60 : List RI := [(.aload_n 0, 1, 0, 0, []), (.getfield 18, 3, 0, 302, []), (.aload_n 0, 1, 0, 0, []), (.getfield 60, 3, 0, 305, []), (.bipush 80, 2, 0, 0, []), (.iastore, 1, 0, 0, []), (.aload_n 0, 1, 0, 0, []), (.getfield 24, 3, 0, 304, []), (.aload_n 0, 1, 0, 0, []), (.getfield 60, 3, 0, 305, []), (.lload_n 3, 1, 0, 3, []), (.lastore, 1, 0, 0, []), (.iconst 0, 1, 0, 0, []), (.istore 5, 2, 0, 0, [])]
def KX9_cutName_84 : List RI := [(.iload 5, 2, 0, 0, []), (.bipush 24, 2, 0, 0, []), (.if_icmp .ge 35, 3, 0, 123, [])]
def KX9_cutName_91 : List RI := [(.aload_n 0, 1, 0, 0, []), (.getfield 28, 3, 0, 306, []), (.iload 5, 2, 0, 0, []), (.laload, 1, 0, 0, []), (.lload_n 3, 1, 0, 3, []), (.lcmp, 1, 0, 0, []), (.ifCond .ne 17, 3, 0, 117, [])]
def KX9_cutName_103 : List RI := [(.aload_n 0, 1, 0, 0, []), (.getfield 18, 3, 0, 302, []), (.aload_n 0, 1, 0, 0, []), (.getfield 60, 3, 0, 305, []), (.bipush 50, 2, 0, 0, []), (.iload 5, 2, 0, 0, []), (.iadd, 1, 0, 0, []), (.iastore, 1, 0, 0, [])]
def KX9_cutName_117 : List RI := [(.iinc 5 1, 3, 0, 0, []), (.goto (-36), 3, 0, 84, [])]
def KX9_cutName_123 : List RI := [(.iload_n 2, 1, 0, 2, []), (.iload_n 1, 1, 0, 1, []), (.isub, 1, 0, 0, []), (.ireturn, 1, 1, 0, [])]
def KX9_cutName : RB := [(0, KX9_cutName_0), (4, KX9_cutName_4), (12, KX9_cutName_12), (23, KX9_cutName_23), (34, KX9_cutName_34), (50, KX9_cutName_50), (58, KX9_cutName_58), (60, KX9_cutName_60), (84, KX9_cutName_84), (91, KX9_cutName_91), (103, KX9_cutName_103), (117, KX9_cutName_117), (123, KX9_cutName_123)]
def rX9_cutName : CmC := (yX9_cutName, cX9_cutName, 6, (some .int), 1, 10, false)
theorem hX9_cutName : mtC[194]? = some rX9_cutName := rfl
set_option maxRecDepth 100000 in
theorem okX9_cutName : cokMC rX9_cutName KX9_cutName = true := by sorry
def KX9_cutNumber_0 : List RI := [(.iload_n 1, 1, 0, 1, []), (.istore_n 2, 1, 0, 2, []), (.lconst 0, 1, 0, 0, []), (.lstore_n 3, 1, 0, 3, [])]
def KX9_cutNumber_4 : List RI := [(.iload_n 2, 1, 0, 2, []), (.aload_n 0, 1, 0, 0, []), (.getfield 57, 3, 0, 308, []), (.if_icmp .ge 36, 3, 0, 45, [])]
def KX9_cutNumber_12 : List RI := [(.aload_n 0, 1, 0, 0, []), (.iload_n 2, 1, 0, 2, []), (.invokevirtual 70, 3, 1, 189, [(0, 0), (0, 0), (0, 0), (0, 0), (0, 0), (0, 0), (0, 0), (0, 0), (0, 0), (0, 0)]), (.invokestatic 80, 3, 1, 193, []), (.ifCond .eq 25, 3, 0, 45, [])]
def KX9_cutNumber_23 : List RI := [(.lload_n 3, 1, 0, 3, []), (.ldc2_w 92, 3, 10, 0, []), (.lmul, 1, 0, 0, []), (.aload_n 0, 1, 0, 0, []), (.iload_n 2, 1, 0, 2, []), (.invokevirtual 70, 3, 1, 189, [(0, 0), (0, 0), (0, 0), (0, 0), (0, 0), (0, 0), (0, 0), (0, 0), (0, 0), (0, 0)]), (.bipush 48, 2, 0, 0, []), (.isub, 1, 0, 0, []), (.i2l, 1, 0, 0, []), (.ladd, 1, 0, 0, []), (.lstore_n 3, 1, 0, 3, []), (.iinc 2 1, 3, 0, 0, []), (.goto (-38), 3, 0, 4, [])]
def KX9_cutNumber_45 : List RI := [(.iload_n 2, 1, 0, 2, []), (.iload_n 1, 1, 0, 1, []), (.isub, 1, 0, 0, []), (.bipush 19, 2, 0, 0, []), (.if_icmp .le 5, 3, 0, 55, [])]
def KX9_cutNumber_53 : List RI := [(.iconst 0, 1, 0, 0, []), (.ireturn, 1, 1, 0, [])]
def KX9_cutNumber_55 : List RI := [(.aload_n 0, 1, 0, 0, []), (.getfield 24, 3, 0, 304, []), (.aload_n 0, 1, 0, 0, []), (.getfield 60, 3, 0, 305, []), (.lload_n 3, 1, 0, 3, []), (.lastore, 1, 0, 0, []), (.aload_n 0, 1, 0, 0, []), (.getfield 18, 3, 0, 302, []), (.aload_n 0, 1, 0, 0, []), (.getfield 60, 3, 0, 305, []), (.bipush 81, 2, 0, 0, []), (.iastore, 1, 0, 0, []), (.aload_n 0, 1, 0, 0, []), (.iload_n 2, 1, 0, 2, []), (.invokevirtual 70, 3, 1, 189, [(0, 0), (0, 0), (0, 0), (0, 0), (0, 0), (0, 0), (0, 0), (0, 0), (0, 0), (0, 0)]), (.bipush 76, 2, 0, 0, []), (.if_icmp .ne 17, 3, 0, 100, [])]
def KX9_cutNumber_86 : List RI := [(.aload_n 0, 1, 0, 0, []), (.getfield 18, 3, 0, 302, []), (.aload_n 0, 1, 0, 0, []), (.getfield 60, 3, 0, 305, []), (.bipush 82, 2, 0, 0, []), (.iastore, 1, 0, 0, []), (.iinc 2 1, 3, 0, 0, [])]
def KX9_cutNumber_100 : List RI := [(.iload_n 2, 1, 0, 2, []), (.iload_n 1, 1, 0, 1, []), (.isub, 1, 0, 0, []), (.ireturn, 1, 1, 0, [])]
def KX9_cutNumber : RB := [(0, KX9_cutNumber_0), (4, KX9_cutNumber_4), (12, KX9_cutNumber_12), (23, KX9_cutNumber_23), (45, KX9_cutNumber_45), (53, KX9_cutNumber_53), (55, KX9_cutNumber_55), (86, KX9_cutNumber_86), (100, KX9_cutNumber_100)]
def rX9_cutNumber : CmC := (yX9_cutNumber, cX9_cutNumber, 5, (some .int), 1, 10, false)
theorem hX9_cutNumber : mtC[195]? = some rX9_cutNumber := rfl
set_option maxRecDepth 100000 in
theorem okX9_cutNumber : cokMC rX9_cutNumber KX9_cutNumber = true := by sorry
def KX9_cutCharacter_0 : List RI := [(.aload_n 0, 1, 0, 0, []), (.iload_n 1, 1, 0, 1, []), (.iconst 1, 1, 0, 0, []), (.iadd, 1, 0, 0, []), (.invokevirtual 70, 3, 1, 189, [(0, 0), (0, 0), (0, 0), (0, 0), (0, 0), (0, 0), (0, 0), (0, 0), (0, 0), (0, 0)]), (.istore_n 2, 1, 0, 2, []), (.iload_n 2, 1, 0, 2, []), (.bipush 32, 2, 0, 0, []), (.if_icmp .lt 33, 3, 0, 44, [])]
def KX9_cutCharacter_14 : List RI := [(.iload_n 2, 1, 0, 2, []), (.bipush 126, 2, 0, 0, []), (.if_icmp .gt 27, 3, 0, 44, [])]
def KX9_cutCharacter_20 : List RI := [(.iload_n 2, 1, 0, 2, []), (.bipush 39, 2, 0, 0, []), (.if_icmp .eq 21, 3, 0, 44, [])]
def KX9_cutCharacter_26 : List RI := [(.iload_n 2, 1, 0, 2, []), (.bipush 92, 2, 0, 0, []), (.if_icmp .eq 15, 3, 0, 44, [])]
def KX9_cutCharacter_32 : List RI := [(.aload_n 0, 1, 0, 0, []), (.iload_n 1, 1, 0, 1, []), (.iconst 2, 1, 0, 0, []), (.iadd, 1, 0, 0, []), (.invokevirtual 70, 3, 1, 189, [(0, 0), (0, 0), (0, 0), (0, 0), (0, 0), (0, 0), (0, 0), (0, 0), (0, 0), (0, 0)]), (.bipush 39, 2, 0, 0, []), (.if_icmp .eq 5, 3, 0, 46, [])]
def KX9_cutCharacter_44 : List RI := [(.iconst 0, 1, 0, 0, []), (.ireturn, 1, 1, 0, [])]
def KX9_cutCharacter_46 : List RI := [(.aload_n 0, 1, 0, 0, []), (.getfield 18, 3, 0, 302, []), (.aload_n 0, 1, 0, 0, []), (.getfield 60, 3, 0, 305, []), (.bipush 83, 2, 0, 0, []), (.iastore, 1, 0, 0, []), (.aload_n 0, 1, 0, 0, []), (.getfield 24, 3, 0, 304, []), (.aload_n 0, 1, 0, 0, []), (.getfield 60, 3, 0, 305, []), (.iload_n 2, 1, 0, 2, []), (.i2l, 1, 0, 0, []), (.lastore, 1, 0, 0, []), (.iconst 3, 1, 0, 0, []), (.ireturn, 1, 1, 0, [])]
def KX9_cutCharacter : RB := [(0, KX9_cutCharacter_0), (14, KX9_cutCharacter_14), (20, KX9_cutCharacter_20), (26, KX9_cutCharacter_26), (32, KX9_cutCharacter_32), (44, KX9_cutCharacter_44), (46, KX9_cutCharacter_46)]
def rX9_cutCharacter : CmC := (yX9_cutCharacter, cX9_cutCharacter, 3, (some .int), 1, 10, false)
theorem hX9_cutCharacter : mtC[196]? = some rX9_cutCharacter := rfl
set_option maxRecDepth 100000 in
theorem okX9_cutCharacter : cokMC rX9_cutCharacter KX9_cutCharacter = true := by sorry
def KX9_cutSign_0 : List RI := [(.iconst 0, 1, 0, 0, []), (.istore_n 2, 1, 0, 2, []), (.iconst 0, 1, 0, 0, []), (.istore_n 3, 1, 0, 3, []), (.iconst 0, 1, 0, 0, []), (.istore 4, 2, 0, 0, []), (.iconst 0, 1, 0, 0, []), (.istore 5, 2, 0, 0, [])]
def KX9_cutSign_10 : List RI := [(.iload 5, 2, 0, 0, []), (.ldc 94, 2, 0, 1000006, []), (.invokevirtual 37, 3, 0, 239, [(0, 0), (0, 0), (0, 0), (0, 0), (0, 0), (0, 0), (0, 0), (0, 0), (0, 0), (0, 0), (0, 0), (0, 0), (0, 0)]), (.if_icmp .gt 77, 3, 0, 94, [])]
def KX9_cutSign_20 : List RI := [(.iload 5, 2, 0, 0, []), (.ldc 94, 2, 0, 1000006, []), (.invokevirtual 37, 3, 0, 239, [(0, 0), (0, 0), (0, 0), (0, 0), (0, 0), (0, 0), (0, 0), (0, 0), (0, 0), (0, 0), (0, 0), (0, 0), (0, 0)]), (.if_icmp .eq 15, 3, 0, 42, [])]
def KX9_cutSign_30 : List RI := [(.ldc 94, 2, 0, 1000006, []), (.iload 5, 2, 0, 0, []), (.invokevirtual 43, 3, 1, 238, [(0, 0), (0, 0), (0, 0), (0, 0), (0, 0), (0, 0), (0, 0), (0, 0), (0, 0), (0, 0), (0, 0), (0, 0), (0, 0)]), (.bipush 32, 2, 0, 0, []), (.if_icmp .ne 49, 3, 0, 88, [])]
def KX9_cutSign_42 : List RI := [(.iload 5, 2, 0, 0, []), (.iload 4, 2, 0, 0, []), (.isub, 1, 0, 0, []), (.iload_n 2, 1, 0, 2, []), (.if_icmp .le 31, 3, 0, 79, [])]
def KX9_cutSign_51 : List RI := [(.aload_n 0, 1, 0, 0, []), (.iload 4, 2, 0, 0, []), (.iload 5, 2, 0, 0, []), (.iload_n 1, 1, 0, 1, []), (.invokevirtual 96, 3, 3, 198, [(0, 0), (0, 0), (0, 0), (0, 0), (0, 0), (0, 0), (0, 0), (0, 0), (0, 0), (0, 0)]), (.ifCond .eq 19, 3, 0, 79, [])]
def KX9_cutSign_63 : List RI := [(.iload 5, 2, 0, 0, []), (.iload 4, 2, 0, 0, []), (.isub, 1, 0, 0, []), (.istore_n 2, 1, 0, 2, []), (.aload_n 0, 1, 0, 0, []), (.getfield 18, 3, 0, 302, []), (.aload_n 0, 1, 0, 0, []), (.getfield 60, 3, 0, 305, []), (.iload_n 3, 1, 0, 3, []), (.iastore, 1, 0, 0, [])]
def KX9_cutSign_79 : List RI := [(.iload 5, 2, 0, 0, []), (.iconst 1, 1, 0, 0, []), (.iadd, 1, 0, 0, []), (.istore 4, 2, 0, 0, []), (.iinc 3 1, 3, 0, 0, [])]
def KX9_cutSign_88 : List RI := [(.iinc 5 1, 3, 0, 0, []), (.goto (-81), 3, 0, 10, [])]
def KX9_cutSign_94 : List RI := [(.iload_n 2, 1, 0, 2, []), (.ireturn, 1, 1, 0, [])]
def KX9_cutSign : RB := [(0, KX9_cutSign_0), (10, KX9_cutSign_10), (20, KX9_cutSign_20), (30, KX9_cutSign_30), (42, KX9_cutSign_42), (51, KX9_cutSign_51), (63, KX9_cutSign_63), (79, KX9_cutSign_79), (88, KX9_cutSign_88), (94, KX9_cutSign_94)]
def rX9_cutSign : CmC := (yX9_cutSign, cX9_cutSign, 6, (some .int), 1, 10, false)
theorem hX9_cutSign : mtC[197]? = some rX9_cutSign := rfl
set_option maxRecDepth 100000 in
theorem okX9_cutSign : cokMC rX9_cutSign KX9_cutSign = true := by sorry
def KX9_standsThere_0 : List RI := [(.iload_n 1, 1, 0, 1, []), (.istore 4, 2, 0, 0, [])]
def KX9_standsThere_3 : List RI := [(.iload 4, 2, 0, 0, []), (.iload_n 2, 1, 0, 2, []), (.if_icmp .ge 31, 3, 0, 37, [])]
def KX9_standsThere_9 : List RI := [(.ldc 94, 2, 0, 1000006, []), (.iload 4, 2, 0, 0, []), (.invokevirtual 43, 3, 1, 238, [(0, 0), (0, 0), (0, 0), (0, 0), (0, 0), (0, 0), (0, 0), (0, 0), (0, 0), (0, 0), (0, 0), (0, 0), (0, 0)]), (.aload_n 0, 1, 0, 0, []), (.iload_n 3, 1, 0, 3, []), (.iload 4, 2, 0, 0, []), (.iadd, 1, 0, 0, []), (.iload_n 1, 1, 0, 1, []), (.isub, 1, 0, 0, []), (.invokevirtual 70, 3, 1, 189, [(0, 0), (0, 0), (0, 0), (0, 0), (0, 0), (0, 0), (0, 0), (0, 0), (0, 0), (0, 0)]), (.if_icmp .eq 5, 3, 0, 31, [])]
def KX9_standsThere_29 : List RI := [(.iconst 0, 1, 0, 0, []), (.ireturn, 1, 2, 0, [])]
def KX9_standsThere_31 : List RI := [(.iinc 4 1, 3, 0, 0, []), (.goto (-31), 3, 0, 3, [])]
def KX9_standsThere_37 : List RI := [(.iconst 1, 1, 0, 0, []), (.ireturn, 1, 2, 0, [])]
def KX9_standsThere : RB := [(0, KX9_standsThere_0), (3, KX9_standsThere_3), (9, KX9_standsThere_9), (29, KX9_standsThere_29), (31, KX9_standsThere_31), (37, KX9_standsThere_37)]
def rX9_standsThere : CmC := (yX9_standsThere, cX9_standsThere, 5, (some .boolean), 3, 10, false)
theorem hX9_standsThere : mtC[198]? = some rX9_standsThere := rfl
set_option maxRecDepth 100000 in
theorem okX9_standsThere : cokMC rX9_standsThere KX9_standsThere = true := by sorry
def KX10_init_0 : List RI := [(.aload_n 0, 1, 0, 0, []), (.invokespecial 1, 3, 0, 9999, []), (.aload_n 0, 1, 0, 0, []), (.iload_n 1, 1, 0, 1, []), (.putfield 7, 3, 0, 330, []), (.aload_n 0, 1, 0, 0, []), (.iload_n 2, 1, 0, 2, []), (.putfield 13, 3, 0, 331, []), (.aload_n 0, 1, 0, 0, []), (.iload_n 3, 1, 0, 3, []), (.putfield 16, 3, 0, 332, []), (.aload_n 0, 1, 0, 0, []), (.iload 4, 2, 0, 0, []), (.putfield 20, 3, 0, 333, []), (.return_, 1, 0, 0, [])]
def KX10_init : RB := [(0, KX10_init_0)]
def rX10_init : CmC := (yX10_init, cX10_init, 5, none, 4, 11, false)
theorem hX10_init : mtC[199]? = some rX10_init := rfl
set_option maxRecDepth 100000 in
theorem okX10_init : cokMC rX10_init KX10_init = true := by sorry
def KX11_init_0 : List RI := [(.aload_n 0, 1, 0, 0, []), (.invokespecial 1, 3, 0, 9999, []), (.aload_n 0, 1, 0, 0, []), (.sipush 2500, 3, 0, 0, []), (.newarray .byte, 2, 0, 101, []), (.putfield 9, 3, 0, 360, []), (.aload_n 0, 1, 0, 0, []), (.bipush 40, 2, 0, 0, []), (.newarray .int, 2, 0, 100, []), (.putfield 13, 3, 0, 361, []), (.aload_n 0, 1, 0, 0, []), (.bipush 6, 2, 0, 0, []), (.newarray .long, 2, 0, 102, []), (.putfield 17, 3, 0, 362, []), (.aload_n 0, 1, 0, 0, []), (.new 21, 3, 0, 7, []), (.dup, 1, 0, 0, []), (.invokespecial 23, 3, 0, 116, []), (.putfield 24, 3, 0, 363, []), (.aload_n 0, 1, 0, 0, []), (.new 21, 3, 0, 7, []), (.dup, 1, 0, 0, []), (.invokespecial 23, 3, 0, 116, []), (.putfield 28, 3, 0, 364, []), (.aload_n 0, 1, 0, 0, []), (.new 31, 3, 0, 8, []), (.dup, 1, 0, 0, []), (.aload_n 0, 1, 0, 0, []), (.getfield 28, 3, 0, 364, []), (.invokespecial 33, 3, 1, 122, []), (.putfield 36, 3, 0, 365, []), (.aload_n 0, 1, 0, 0, []), (.new 40, 3, 0, 4, []), (.dup, 1, 0, 0, []), (.aload_n 0, 1, 0, 0, []), (.getfield 24, 3, 0, 363, []), (.invokespecial 42, 3, 1, 48, []), (.putfield 43, 3, 0, 366, []), (.aload_n 0, 1, 0, 0, []), (.new 47, 3, 0, 1, []), (.dup, 1, 0, 0, []), (.aload_n 0, 1, 0, 0, []), (.getfield 24, 3, 0, 363, []), (.invokespecial 49, 3, 1, 0, []), (.putfield 50, 3, 0, 367, []), (.aload_n 0, 1, 0, 0, []), (.new 54, 3, 0, 5, []), (.dup, 1, 0, 0, []), (.aload_n 0, 1, 0, 0, []), (.getfield 50, 3, 0, 367, []), (.invokespecial 56, 3, 1, 87, []), (.putfield 59, 3, 0, 368, []), (.aload_n 0, 1, 0, 0, []), (.bipush (-2), 2, 0, 0, []), (.putfield 63, 3, 0, 371, []), (.return_, 1, 0, 0, [])]
def KX11_init : RB := [(0, KX11_init_0)]
def rX11_init : CmC := (yX11_init, cX11_init, 1, none, 0, 12, false)
theorem hX11_init : mtC[200]? = some rX11_init := rfl
set_option maxRecDepth 100000 in
theorem swX11_init_8 : decode cX11_init 8 = .ok (.newarray .byte, 2) := by sorry
set_option maxRecDepth 100000 in
theorem swX11_init_16 : decode cX11_init 16 = .ok (.newarray .int, 2) := by sorry
set_option maxRecDepth 100000 in
theorem swX11_init_24 : decode cX11_init 24 = .ok (.newarray .long, 2) := by sorry
set_option maxRecDepth 100000 in
theorem okX11_init : cokMC rX11_init KX11_init = true := by sorry
def KX11_feed_0 : List RI := [(.aload_n 0, 1, 0, 0, []), (.getfield 67, 3, 0, 369, []), (.bipush 20, 2, 0, 0, []), (.iadd, 1, 0, 0, []), (.sipush 2500, 3, 0, 0, []), (.if_icmp .le 6, 3, 0, 16, [])]
def KX11_feed_13 : List RI := [(.bipush (-3), 2, 0, 0, []), (.ireturn, 1, 1, 0, [])]
def KX11_feed_16 : List RI := [(.aload_n 0, 1, 0, 0, []), (.iload_n 1, 1, 0, 1, []), (.invokevirtual 70, 3, 1, 202, [(0, 0), (0, 0), (0, 0), (0, 0), (0, 0), (0, 0), (0, 0), (0, 0), (0, 0), (0, 0), (0, 0), (0, 0)]), (.aload_n 0, 1, 0, 0, []), (.iload_n 2, 1, 0, 2, []), (.invokevirtual 70, 3, 1, 202, [(0, 0), (0, 0), (0, 0), (0, 0), (0, 0), (0, 0), (0, 0), (0, 0), (0, 0), (0, 0), (0, 0), (0, 0)]), (.aload_n 0, 1, 0, 0, []), (.iload_n 3, 1, 0, 3, []), (.invokevirtual 70, 3, 1, 202, [(0, 0), (0, 0), (0, 0), (0, 0), (0, 0), (0, 0), (0, 0), (0, 0), (0, 0), (0, 0), (0, 0), (0, 0)]), (.aload_n 0, 1, 0, 0, []), (.iload 4, 2, 0, 0, []), (.invokevirtual 70, 3, 1, 202, [(0, 0), (0, 0), (0, 0), (0, 0), (0, 0), (0, 0), (0, 0), (0, 0), (0, 0), (0, 0), (0, 0), (0, 0)]), (.aload_n 0, 1, 0, 0, []), (.iload 5, 2, 0, 0, []), (.invokevirtual 70, 3, 1, 202, [(0, 0), (0, 0), (0, 0), (0, 0), (0, 0), (0, 0), (0, 0), (0, 0), (0, 0), (0, 0), (0, 0), (0, 0)]), (.aload_n 0, 1, 0, 0, []), (.getfield 67, 3, 0, 369, []), (.ireturn, 1, 1, 0, [])]
def KX11_feed : RB := [(0, KX11_feed_0), (13, KX11_feed_13), (16, KX11_feed_16)]
def rX11_feed : CmC := (yX11_feed, cX11_feed, 6, (some .int), 5, 12, false)
theorem hX11_feed : mtC[201]? = some rX11_feed := rfl
set_option maxRecDepth 100000 in
theorem okX11_feed : cokMC rX11_feed KX11_feed = true := by sorry
def KX11_append_0 : List RI := [(.bipush 24, 2, 0, 0, []), (.istore_n 2, 1, 0, 2, [])]
def KX11_append_3 : List RI := [(.iload_n 2, 1, 0, 2, []), (.ifCond .lt 42, 3, 0, 46, [])]
def KX11_append_7 : List RI := [(.aload_n 0, 1, 0, 0, []), (.getfield 67, 3, 0, 369, []), (.sipush 2500, 3, 0, 0, []), (.if_icmp .ge 32, 3, 0, 46, [])]
def KX11_append_17 : List RI := [(.aload_n 0, 1, 0, 0, []), (.getfield 9, 3, 0, 360, []), (.aload_n 0, 1, 0, 0, []), (.getfield 67, 3, 0, 369, []), (.iload_n 1, 1, 0, 1, []), (.iload_n 2, 1, 0, 2, []), (.ishr, 1, 0, 0, []), (.i2b, 1, 0, 0, []), (.bastore, 1, 0, 0, []), (.aload_n 0, 1, 0, 0, []), (.dup, 1, 0, 0, []), (.getfield 67, 3, 0, 369, []), (.iconst 1, 1, 0, 0, []), (.iadd, 1, 0, 0, []), (.putfield 67, 3, 0, 369, []), (.iinc 2 (-8), 3, 0, 0, []), (.goto (-40), 3, 0, 3, [])]
def KX11_append_46 : List RI := [(.return_, 1, 0, 0, [])]
def KX11_append : RB := [(0, KX11_append_0), (3, KX11_append_3), (7, KX11_append_7), (17, KX11_append_17), (46, KX11_append_46)]
def rX11_append : CmC := (yX11_append, cX11_append, 3, none, 1, 12, false)
theorem hX11_append : mtC[202]? = some rX11_append := rfl
set_option maxRecDepth 100000 in
theorem okX11_append : cokMC rX11_append KX11_append = true := by sorry
def KX11_cut_0 : List RI := [(.iload_n 1, 1, 0, 1, []), (.ifCond .lt 11, 3, 0, 12, [])]
def KX11_cut_4 : List RI := [(.iload_n 1, 1, 0, 1, []), (.aload_n 0, 1, 0, 0, []), (.getfield 67, 3, 0, 369, []), (.if_icmp .le 5, 3, 0, 14, [])]
def KX11_cut_12 : List RI := [(.iconst (-1), 1, 0, 0, []), (.ireturn, 1, 1, 0, [])]
def KX11_cut_14 : List RI := [(.aload_n 0, 1, 0, 0, []), (.dup, 1, 0, 0, []), (.getfield 67, 3, 0, 369, []), (.iload_n 1, 1, 0, 1, []), (.isub, 1, 0, 0, []), (.putfield 67, 3, 0, 369, []), (.aload_n 0, 1, 0, 0, []), (.getfield 67, 3, 0, 369, []), (.ireturn, 1, 1, 0, [])]
def KX11_cut : RB := [(0, KX11_cut_0), (4, KX11_cut_4), (12, KX11_cut_12), (14, KX11_cut_14)]
def rX11_cut : CmC := (yX11_cut, cX11_cut, 2, (some .int), 1, 12, false)
theorem hX11_cut : mtC[203]? = some rX11_cut := rfl
set_option maxRecDepth 100000 in
theorem okX11_cut : cokMC rX11_cut KX11_cut = true := by sorry
def KX11_read_0 : List RI := [(.aload_n 0, 1, 0, 0, []), (.getfield 36, 3, 0, 365, []), (.aload_n 0, 1, 0, 0, []), (.getfield 28, 3, 0, 364, []), (.aload_n 0, 1, 0, 0, []), (.getfield 9, 3, 0, 360, []), (.aload_n 0, 1, 0, 0, []), (.getfield 67, 3, 0, 369, []), (.invokevirtual 74, 3, 3, 123, [(0, 0), (0, 0), (0, 0), (0, 0), (0, 0), (0, 0), (0, 0), (0, 0)]), (.istore_n 1, 1, 0, 1, []), (.aload_n 0, 1, 0, 0, []), (.iconst 0, 1, 0, 0, []), (.putfield 67, 3, 0, 369, []), (.iload_n 1, 1, 0, 1, []), (.ifCond .eq 19, 3, 0, 45, [])]
def KX11_read_29 : List RI := [(.aload_n 0, 1, 0, 0, []), (.aload_n 0, 1, 0, 0, []), (.getfield 36, 3, 0, 365, []), (.invokevirtual 78, 3, 0, 124, [(0, 0), (0, 0), (0, 0), (0, 0), (0, 0), (0, 0), (0, 0), (0, 0)]), (.putfield 63, 3, 0, 371, []), (.bipush (-10), 2, 0, 0, []), (.iload_n 1, 1, 0, 1, []), (.isub, 1, 0, 0, []), (.ireturn, 1, 1, 0, [])]
def KX11_read_45 : List RI := [(.aload_n 0, 1, 0, 0, []), (.getfield 24, 3, 0, 363, []), (.astore_n 2, 1, 0, 2, []), (.aload_n 0, 1, 0, 0, []), (.aload_n 0, 1, 0, 0, []), (.getfield 28, 3, 0, 364, []), (.putfield 24, 3, 0, 363, []), (.aload_n 0, 1, 0, 0, []), (.aload_n 2, 1, 0, 2, []), (.putfield 28, 3, 0, 364, []), (.aload_n 0, 1, 0, 0, []), (.bipush (-2), 2, 0, 0, []), (.putfield 63, 3, 0, 371, []), (.aload_n 0, 1, 0, 0, []), (.iconst 0, 1, 0, 0, []), (.putfield 82, 3, 0, 372, []), (.aload_n 0, 1, 0, 0, []), (.getfield 43, 3, 0, 366, []), (.aload_n 0, 1, 0, 0, []), (.getfield 24, 3, 0, 363, []), (.invokevirtual 86, 3, 1, 49, [(0, 0), (0, 0), (0, 0), (0, 0)]), (.aload_n 0, 1, 0, 0, []), (.getfield 24, 3, 0, 363, []), (.getfield 89, 3, 0, 217, []), (.ifCond .ne 14, 3, 0, 106, [])]
def KX11_read_95 : List RI := [(.aload_n 0, 1, 0, 0, []), (.getfield 50, 3, 0, 367, []), (.aload_n 0, 1, 0, 0, []), (.getfield 24, 3, 0, 363, []), (.invokevirtual 92, 3, 1, 1, [(0, 0)])]
def KX11_read_106 : List RI := [(.aload_n 0, 1, 0, 0, []), (.getfield 24, 3, 0, 363, []), (.getfield 95, 3, 0, 211, []), (.invokevirtual 99, 3, 0, 234, []), (.ireturn, 1, 1, 0, [])]
def KX11_read : RB := [(0, KX11_read_0), (29, KX11_read_29), (45, KX11_read_45), (95, KX11_read_95), (106, KX11_read_106)]
def rX11_read : CmC := (yX11_read, cX11_read, 3, (some .int), 0, 12, false)
theorem hX11_read : mtC[204]? = some rX11_read := rfl
set_option maxRecDepth 100000 in
theorem okX11_read : cokMC rX11_read KX11_read = true := by sorry
def KX11_place_0 : List RI := [(.aload_n 0, 1, 0, 0, []), (.getfield 63, 3, 0, 371, []), (.ireturn, 1, 1, 0, [])]
def KX11_place : RB := [(0, KX11_place_0)]
def rX11_place : CmC := (yX11_place, cX11_place, 1, (some .int), 0, 12, false)
theorem hX11_place : mtC[205]? = some rX11_place := rfl
set_option maxRecDepth 100000 in
theorem okX11_place : cokMC rX11_place KX11_place = true := by sorry
def KX11_judge_0 : List RI := [(.aload_n 0, 1, 0, 0, []), (.aload_n 0, 1, 0, 0, []), (.getfield 24, 3, 0, 363, []), (.getfield 89, 3, 0, 217, []), (.ifCond .ne 8, 3, 0, 16, [])]
def KX11_judge_11 : List RI := [(.bipush (-2), 2, 0, 0, []), (.goto 10, 3, 0, 23, [])]
def KX11_judge_16 : List RI := [(.aload_n 0, 1, 0, 0, []), (.getfield 24, 3, 0, 363, []), (.getfield 104, 3, 0, 218, [])]
def KX11_judge_23 : List RI := [(.putfield 63, 3, 0, 371, []), (.aload_n 0, 1, 0, 0, []), (.getfield 24, 3, 0, 363, []), (.getfield 89, 3, 0, 217, []), (.ireturn, 1, 1, 0, [])]
def KX11_judge : RB := [(0, KX11_judge_0), (11, KX11_judge_11), (16, KX11_judge_16), (23, KX11_judge_23)]
def rX11_judge : CmC := (yX11_judge, cX11_judge, 1, (some .int), 0, 12, false)
theorem hX11_judge : mtC[206]? = some rX11_judge := rfl
set_option maxRecDepth 100000 in
theorem okX11_judge : cokMC rX11_judge KX11_judge = true := by sorry
def KX11_told_0 : List RI := [(.iload_n 1, 1, 0, 1, []), (.tableswitch 69 0 3 #[31, 42, 53, 64], 31, 0, 70, [(0, 32), (1, 43), (2, 54), (3, 65)])]
def KX11_told_32 : List RI := [(.aload_n 0, 1, 0, 0, []), (.getfield 24, 3, 0, 363, []), (.getfield 107, 3, 0, 210, []), (.getfield 111, 3, 0, 305, []), (.ireturn, 1, 1, 0, [])]
def KX11_told_43 : List RI := [(.aload_n 0, 1, 0, 0, []), (.getfield 24, 3, 0, 363, []), (.getfield 95, 3, 0, 211, []), (.invokevirtual 99, 3, 0, 234, []), (.ireturn, 1, 1, 0, [])]
def KX11_told_54 : List RI := [(.aload_n 0, 1, 0, 0, []), (.getfield 24, 3, 0, 363, []), (.getfield 116, 3, 0, 212, []), (.invokevirtual 99, 3, 0, 234, []), (.ireturn, 1, 1, 0, [])]
def KX11_told_65 : List RI := [(.aload_n 0, 1, 0, 0, []), (.getfield 119, 3, 0, 370, []), (.ireturn, 1, 1, 0, [])]
def KX11_told_70 : List RI := [(.iconst (-1), 1, 0, 0, []), (.ireturn, 1, 1, 0, [])]
def KX11_told : RB := [(0, KX11_told_0), (32, KX11_told_32), (43, KX11_told_43), (54, KX11_told_54), (65, KX11_told_65), (70, KX11_told_70)]
def rX11_told : CmC := (yX11_told, cX11_told, 2, (some .int), 1, 12, false)
theorem hX11_told : mtC[207]? = some rX11_told := rfl
set_option maxRecDepth 100000 in
theorem swX11_told_1 : decode cX11_told 1 = .ok (.tableswitch 69 0 3 #[31, 42, 53, 64], 31) := by sorry
set_option maxRecDepth 100000 in
theorem okX11_told : cokMC rX11_told KX11_told = true := by sorry
def KX11_token_0 : List RI := [(.aload_n 0, 1, 0, 0, []), (.getfield 24, 3, 0, 363, []), (.getfield 107, 3, 0, 210, []), (.astore_n 3, 1, 0, 3, []), (.iload_n 1, 1, 0, 1, []), (.ifCond .lt 11, 3, 0, 20, [])]
def KX11_token_12 : List RI := [(.iload_n 1, 1, 0, 1, []), (.aload_n 3, 1, 0, 3, []), (.getfield 111, 3, 0, 305, []), (.if_icmp .lt 5, 3, 0, 22, [])]
def KX11_token_20 : List RI := [(.iconst (-1), 1, 0, 0, []), (.ireturn, 1, 1, 0, [])]
def KX11_token_22 : List RI := [(.iload_n 2, 1, 0, 2, []), (.tableswitch 45 0 2 #[25, 32, 39], 25, 0, 68, [(0, 48), (1, 55), (2, 62)])]
def KX11_token_48 : List RI := [(.aload_n 3, 1, 0, 3, []), (.getfield 122, 3, 0, 300, []), (.iload_n 1, 1, 0, 1, []), (.iaload, 1, 0, 0, []), (.ireturn, 1, 1, 0, [])]
def KX11_token_55 : List RI := [(.aload_n 3, 1, 0, 3, []), (.getfield 124, 3, 0, 301, []), (.iload_n 1, 1, 0, 1, []), (.iaload, 1, 0, 0, []), (.ireturn, 1, 1, 0, [])]
def KX11_token_62 : List RI := [(.aload_n 3, 1, 0, 3, []), (.iload_n 1, 1, 0, 1, []), (.invokevirtual 126, 3, 1, 187, [(0, 0), (0, 0), (0, 0), (0, 0), (0, 0), (0, 0), (0, 0), (0, 0), (0, 0), (0, 0)]), (.ireturn, 1, 1, 0, [])]
def KX11_token_68 : List RI := [(.iconst (-1), 1, 0, 0, []), (.ireturn, 1, 1, 0, [])]
def KX11_token : RB := [(0, KX11_token_0), (12, KX11_token_12), (20, KX11_token_20), (22, KX11_token_22), (48, KX11_token_48), (55, KX11_token_55), (62, KX11_token_62), (68, KX11_token_68)]
def rX11_token : CmC := (yX11_token, cX11_token, 4, (some .int), 2, 12, false)
theorem hX11_token : mtC[208]? = some rX11_token := rfl
set_option maxRecDepth 100000 in
theorem swX11_token_23 : decode cX11_token 23 = .ok (.tableswitch 45 0 2 #[25, 32, 39], 25) := by sorry
set_option maxRecDepth 100000 in
theorem okX11_token : cokMC rX11_token KX11_token = true := by sorry
def KX11_method_0 : List RI := [(.iload_n 1, 1, 0, 1, []), (.ifCond .lt 17, 3, 0, 18, [])]
def KX11_method_4 : List RI := [(.iload_n 1, 1, 0, 1, []), (.aload_n 0, 1, 0, 0, []), (.getfield 24, 3, 0, 363, []), (.getfield 95, 3, 0, 211, []), (.invokevirtual 99, 3, 0, 234, []), (.if_icmp .lt 5, 3, 0, 20, [])]
def KX11_method_18 : List RI := [(.iconst (-1), 1, 0, 0, []), (.ireturn, 1, 1, 0, [])]
def KX11_method_20 : List RI := [(.aload_n 0, 1, 0, 0, []), (.getfield 24, 3, 0, 363, []), (.getfield 95, 3, 0, 211, []), (.iload_n 1, 1, 0, 1, []), (.invokevirtual 130, 3, 1, 235, []), (.checkcast 134, 3, 0, 6, []), (.astore_n 3, 1, 0, 3, []), (.iload_n 2, 1, 0, 2, []), (.tableswitch 43 0 2 #[28, 33, 38], 28, 0, 79, [(0, 64), (1, 69), (2, 74)])]
def KX11_method_64 : List RI := [(.aload_n 3, 1, 0, 3, []), (.getfield 136, 3, 0, 180, []), (.ireturn, 1, 1, 0, [])]
def KX11_method_69 : List RI := [(.aload_n 3, 1, 0, 3, []), (.getfield 139, 3, 0, 182, []), (.ireturn, 1, 1, 0, [])]
def KX11_method_74 : List RI := [(.aload_n 3, 1, 0, 3, []), (.getfield 142, 3, 0, 185, []), (.ireturn, 1, 1, 0, [])]
def KX11_method_79 : List RI := [(.iload_n 2, 1, 0, 2, []), (.bipush 10, 2, 0, 0, []), (.if_icmp .lt 26, 3, 0, 108, [])]
def KX11_method_85 : List RI := [(.iload_n 2, 1, 0, 2, []), (.bipush 10, 2, 0, 0, []), (.isub, 1, 0, 0, []), (.aload_n 3, 1, 0, 3, []), (.getfield 142, 3, 0, 185, []), (.if_icmp .ge 15, 3, 0, 108, [])]
def KX11_method_96 : List RI := [(.aload_n 3, 1, 0, 3, []), (.getfield 145, 3, 0, 183, []), (.iload_n 2, 1, 0, 2, []), (.bipush 10, 2, 0, 0, []), (.isub, 1, 0, 0, []), (.iaload, 1, 0, 0, []), (.goto 4, 3, 0, 109, [])]
def KX11_method_108 : List RI := [(.iconst (-1), 1, 0, 0, [])]
def KX11_method_109 : List RI := [(.ireturn, 1, 1, 0, [])]
def KX11_method : RB := [(0, KX11_method_0), (4, KX11_method_4), (18, KX11_method_18), (20, KX11_method_20), (64, KX11_method_64), (69, KX11_method_69), (74, KX11_method_74), (79, KX11_method_79), (85, KX11_method_85), (96, KX11_method_96), (108, KX11_method_108), (109, KX11_method_109)]
def rX11_method : CmC := (yX11_method, cX11_method, 4, (some .int), 2, 12, false)
theorem hX11_method : mtC[209]? = some rX11_method := rfl
set_option maxRecDepth 100000 in
theorem swX11_method_36 : decode cX11_method 36 = .ok (.tableswitch 43 0 2 #[28, 33, 38], 28) := by sorry
set_option maxRecDepth 100000 in
theorem okX11_method : cokMC rX11_method KX11_method = true := by sorry
def KX11_variable_0 : List RI := [(.iload_n 1, 1, 0, 1, []), (.ifCond .lt 17, 3, 0, 18, [])]
def KX11_variable_4 : List RI := [(.iload_n 1, 1, 0, 1, []), (.aload_n 0, 1, 0, 0, []), (.getfield 24, 3, 0, 363, []), (.getfield 116, 3, 0, 212, []), (.invokevirtual 99, 3, 0, 234, []), (.if_icmp .lt 5, 3, 0, 20, [])]
def KX11_variable_18 : List RI := [(.iconst (-1), 1, 0, 0, []), (.ireturn, 1, 1, 0, [])]
def KX11_variable_20 : List RI := [(.aload_n 0, 1, 0, 0, []), (.getfield 24, 3, 0, 363, []), (.getfield 116, 3, 0, 212, []), (.iload_n 1, 1, 0, 1, []), (.invokevirtual 130, 3, 1, 235, []), (.checkcast 148, 3, 0, 11, []), (.astore_n 3, 1, 0, 3, []), (.iload_n 2, 1, 0, 2, []), (.tableswitch 60 0 3 #[32, 37, 42, 55], 32, 0, 96, [(0, 68), (1, 73), (2, 78), (3, 91)])]
def KX11_variable_68 : List RI := [(.aload_n 3, 1, 0, 3, []), (.getfield 150, 3, 0, 330, []), (.ireturn, 1, 1, 0, [])]
def KX11_variable_73 : List RI := [(.aload_n 3, 1, 0, 3, []), (.getfield 151, 3, 0, 331, []), (.ireturn, 1, 1, 0, [])]
def KX11_variable_78 : List RI := [(.aload_n 3, 1, 0, 3, []), (.getfield 152, 3, 0, 332, []), (.ifCond .eq 7, 3, 0, 89, [])]
def KX11_variable_85 : List RI := [(.iconst 1, 1, 0, 0, []), (.goto 4, 3, 0, 90, [])]
def KX11_variable_89 : List RI := [(.iconst 0, 1, 0, 0, [])]
def KX11_variable_90 : List RI := [(.ireturn, 1, 1, 0, [])]
def KX11_variable_91 : List RI := [(.aload_n 3, 1, 0, 3, []), (.getfield 155, 3, 0, 333, []), (.ireturn, 1, 1, 0, [])]
def KX11_variable_96 : List RI := [(.iconst (-1), 1, 0, 0, []), (.ireturn, 1, 1, 0, [])]
def KX11_variable : RB := [(0, KX11_variable_0), (4, KX11_variable_4), (18, KX11_variable_18), (20, KX11_variable_20), (68, KX11_variable_68), (73, KX11_variable_73), (78, KX11_variable_78), (85, KX11_variable_85), (89, KX11_variable_89), (90, KX11_variable_90), (91, KX11_variable_91), (96, KX11_variable_96)]
def rX11_variable : CmC := (yX11_variable, cX11_variable, 4, (some .int), 2, 12, false)
theorem hX11_variable : mtC[210]? = some rX11_variable := rfl
set_option maxRecDepth 100000 in
theorem swX11_variable_36 : decode cX11_variable 36 = .ok (.tableswitch 60 0 3 #[32, 37, 42, 55], 32) := by sorry
set_option maxRecDepth 100000 in
theorem okX11_variable : cokMC rX11_variable KX11_variable = true := by sorry
def KX11_means_0 : List RI := [(.aload_n 0, 1, 0, 0, []), (.getfield 24, 3, 0, 363, []), (.getfield 107, 3, 0, 210, []), (.astore_n 2, 1, 0, 2, []), (.iload_n 1, 1, 0, 1, []), (.ifCond .lt 22, 3, 0, 31, [])]
def KX11_means_12 : List RI := [(.iload_n 1, 1, 0, 1, []), (.aload_n 2, 1, 0, 2, []), (.getfield 111, 3, 0, 305, []), (.if_icmp .ge 14, 3, 0, 31, [])]
def KX11_means_20 : List RI := [(.aload_n 2, 1, 0, 2, []), (.getfield 158, 3, 0, 302, []), (.iload_n 1, 1, 0, 1, []), (.iaload, 1, 0, 0, []), (.bipush 80, 2, 0, 0, []), (.if_icmp .eq 5, 3, 0, 33, [])]
def KX11_means_31 : List RI := [(.iconst (-1), 1, 0, 0, []), (.ireturn, 1, 1, 0, [])]
def KX11_means_33 : List RI := [(.aload_n 0, 1, 0, 0, []), (.getfield 24, 3, 0, 363, []), (.getfield 89, 3, 0, 217, []), (.ifCond .eq 8, 3, 0, 48, [])]
def KX11_means_43 : List RI := [(.bipush (-2), 2, 0, 0, []), (.goto 9, 3, 0, 54, [])]
def KX11_means_48 : List RI := [(.aload_n 2, 1, 0, 2, []), (.getfield 160, 3, 0, 303, []), (.iload_n 1, 1, 0, 1, []), (.iaload, 1, 0, 0, [])]
def KX11_means_54 : List RI := [(.ireturn, 1, 1, 0, [])]
def KX11_means : RB := [(0, KX11_means_0), (12, KX11_means_12), (20, KX11_means_20), (31, KX11_means_31), (33, KX11_means_33), (43, KX11_means_43), (48, KX11_means_48), (54, KX11_means_54)]
def rX11_means : CmC := (yX11_means, cX11_means, 3, (some .int), 1, 12, false)
theorem hX11_means : mtC[211]? = some rX11_means := rfl
set_option maxRecDepth 100000 in
theorem okX11_means : cokMC rX11_means KX11_means = true := by sorry
def KX11_type_0 : List RI := [(.aload_n 0, 1, 0, 0, []), (.getfield 24, 3, 0, 363, []), (.getfield 89, 3, 0, 217, []), (.ifCond .eq 6, 3, 0, 13, [])]
def KX11_type_10 : List RI := [(.bipush (-2), 2, 0, 0, []), (.ireturn, 1, 1, 0, [])]
def KX11_type_13 : List RI := [(.aload_n 0, 1, 0, 0, []), (.getfield 24, 3, 0, 363, []), (.iload_n 1, 1, 0, 1, []), (.iload_n 2, 1, 0, 2, []), (.invokevirtual 163, 3, 2, 120, [(0, 0), (0, 0), (0, 0), (0, 0), (0, 0), (0, 0), (0, 0)]), (.astore_n 3, 1, 0, 3, []), (.aload_n 3, 1, 0, 3, []), (.ifnonnull 7, 3, 0, 31, [])]
def KX11_type_27 : List RI := [(.iconst (-1), 1, 0, 0, []), (.goto 7, 3, 0, 35, [])]
def KX11_type_31 : List RI := [(.aload_n 3, 1, 0, 3, []), (.getfield 167, 3, 0, 68, [])]
def KX11_type_35 : List RI := [(.ireturn, 1, 1, 0, [])]
def KX11_type : RB := [(0, KX11_type_0), (10, KX11_type_10), (13, KX11_type_13), (27, KX11_type_27), (31, KX11_type_31), (35, KX11_type_35)]
def rX11_type : CmC := (yX11_type, cX11_type, 4, (some .int), 2, 12, false)
theorem hX11_type : mtC[212]? = some rX11_type := rfl
set_option maxRecDepth 100000 in
theorem okX11_type : cokMC rX11_type KX11_type = true := by sorry
def KX11_constant_0 : List RI := [(.aload_n 0, 1, 0, 0, []), (.getfield 24, 3, 0, 363, []), (.getfield 89, 3, 0, 217, []), (.ifCond .eq 7, 3, 0, 14, [])]
def KX11_constant_10 : List RI := [(.ldc2_w 170, 3, (-1234567890123), 0, []), (.lreturn, 1, 0, 0, [])]
def KX11_constant_14 : List RI := [(.aload_n 0, 1, 0, 0, []), (.getfield 24, 3, 0, 363, []), (.iload_n 1, 1, 0, 1, []), (.iload_n 2, 1, 0, 2, []), (.invokevirtual 163, 3, 2, 120, [(0, 0), (0, 0), (0, 0), (0, 0), (0, 0), (0, 0), (0, 0)]), (.astore_n 3, 1, 0, 3, []), (.aload_n 3, 1, 0, 3, []), (.ifnull 10, 3, 0, 35, [])]
def KX11_constant_28 : List RI := [(.aload_n 3, 1, 0, 3, []), (.getfield 172, 3, 0, 70, []), (.ifCond .ne 9, 3, 0, 41, [])]
def KX11_constant_35 : List RI := [(.ldc2_w 170, 3, (-1234567890123), 0, []), (.goto 7, 3, 0, 45, [])]
def KX11_constant_41 : List RI := [(.aload_n 3, 1, 0, 3, []), (.getfield 175, 3, 0, 71, [])]
def KX11_constant_45 : List RI := [(.lreturn, 1, 0, 0, [])]
def KX11_constant : RB := [(0, KX11_constant_0), (10, KX11_constant_10), (14, KX11_constant_14), (28, KX11_constant_28), (35, KX11_constant_35), (41, KX11_constant_41), (45, KX11_constant_45)]
def rX11_constant : CmC := (yX11_constant, cX11_constant, 4, (some .long), 2, 12, false)
theorem hX11_constant : mtC[213]? = some rX11_constant := rfl
set_option maxRecDepth 100000 in
theorem okX11_constant : cokMC rX11_constant KX11_constant = true := by sorry
def KX11_ends_0 : List RI := [(.aload_n 0, 1, 0, 0, []), (.getfield 24, 3, 0, 363, []), (.getfield 89, 3, 0, 217, []), (.ifCond .eq 6, 3, 0, 13, [])]
def KX11_ends_10 : List RI := [(.bipush (-2), 2, 0, 0, []), (.ireturn, 1, 1, 0, [])]
def KX11_ends_13 : List RI := [(.aload_n 0, 1, 0, 0, []), (.getfield 24, 3, 0, 363, []), (.iload_n 1, 1, 0, 1, []), (.invokevirtual 179, 3, 1, 121, [(0, 0), (0, 0), (0, 0), (0, 0), (0, 0), (0, 0), (0, 0)]), (.astore_n 2, 1, 0, 2, []), (.aload_n 2, 1, 0, 2, []), (.ifnonnull 5, 3, 0, 28, [])]
def KX11_ends_26 : List RI := [(.iconst (-1), 1, 0, 0, []), (.ireturn, 1, 1, 0, [])]
def KX11_ends_28 : List RI := [(.aload_n 2, 1, 0, 2, []), (.getfield 183, 3, 0, 282, []), (.ifCond .eq 7, 3, 0, 39, [])]
def KX11_ends_35 : List RI := [(.iconst 1, 1, 0, 0, []), (.goto 4, 3, 0, 40, [])]
def KX11_ends_39 : List RI := [(.iconst 0, 1, 0, 0, [])]
def KX11_ends_40 : List RI := [(.ireturn, 1, 1, 0, [])]
def KX11_ends : RB := [(0, KX11_ends_0), (10, KX11_ends_10), (13, KX11_ends_13), (26, KX11_ends_26), (28, KX11_ends_28), (35, KX11_ends_35), (39, KX11_ends_39), (40, KX11_ends_40)]
def rX11_ends : CmC := (yX11_ends, cX11_ends, 3, (some .int), 1, 12, false)
theorem hX11_ends : mtC[214]? = some rX11_ends := rfl
set_option maxRecDepth 100000 in
theorem okX11_ends : cokMC rX11_ends KX11_ends = true := by sorry
def KX11_assigned_0 : List RI := [(.aload_n 0, 1, 0, 0, []), (.getfield 24, 3, 0, 363, []), (.getfield 89, 3, 0, 217, []), (.ifCond .eq 6, 3, 0, 13, [])]
def KX11_assigned_10 : List RI := [(.bipush (-2), 2, 0, 0, []), (.ireturn, 1, 1, 0, [])]
def KX11_assigned_13 : List RI := [(.aload_n 0, 1, 0, 0, []), (.getfield 24, 3, 0, 363, []), (.iload_n 1, 1, 0, 1, []), (.invokevirtual 179, 3, 1, 121, [(0, 0), (0, 0), (0, 0), (0, 0), (0, 0), (0, 0), (0, 0)]), (.astore_n 3, 1, 0, 3, []), (.aload_n 3, 1, 0, 3, []), (.ifnull 32, 3, 0, 55, [])]
def KX11_assigned_26 : List RI := [(.iload_n 2, 1, 0, 2, []), (.ifCond .lt 28, 3, 0, 55, [])]
def KX11_assigned_30 : List RI := [(.iload_n 2, 1, 0, 2, []), (.aload_n 0, 1, 0, 0, []), (.getfield 24, 3, 0, 363, []), (.getfield 116, 3, 0, 212, []), (.invokevirtual 99, 3, 0, 234, []), (.if_icmp .ge 14, 3, 0, 55, [])]
def KX11_assigned_44 : List RI := [(.aload_n 3, 1, 0, 3, []), (.getfield 188, 3, 0, 274, []), (.iload_n 2, 1, 0, 2, []), (.invokestatic 191, 3, 2, 221, []), (.ifCond .ne 5, 3, 0, 57, [])]
def KX11_assigned_55 : List RI := [(.iconst (-1), 1, 0, 0, []), (.ireturn, 1, 1, 0, [])]
def KX11_assigned_57 : List RI := [(.aload_n 3, 1, 0, 3, []), (.getfield 195, 3, 0, 285, []), (.iload_n 2, 1, 0, 2, []), (.invokestatic 191, 3, 2, 221, []), (.ifCond .eq 7, 3, 0, 72, [])]
def KX11_assigned_68 : List RI := [(.iconst 1, 1, 0, 0, []), (.goto 4, 3, 0, 73, [])]
def KX11_assigned_72 : List RI := [(.iconst 0, 1, 0, 0, [])]
def KX11_assigned_73 : List RI := [(.ireturn, 1, 1, 0, [])]
def KX11_assigned : RB := [(0, KX11_assigned_0), (10, KX11_assigned_10), (13, KX11_assigned_13), (26, KX11_assigned_26), (30, KX11_assigned_30), (44, KX11_assigned_44), (55, KX11_assigned_55), (57, KX11_assigned_57), (68, KX11_assigned_68), (72, KX11_assigned_72), (73, KX11_assigned_73)]
def rX11_assigned : CmC := (yX11_assigned, cX11_assigned, 4, (some .int), 2, 12, false)
theorem hX11_assigned : mtC[215]? = some rX11_assigned := rfl
set_option maxRecDepth 100000 in
theorem okX11_assigned : cokMC rX11_assigned KX11_assigned = true := by sorry
def KX11_argument_0 : List RI := [(.iload_n 1, 1, 0, 1, []), (.ifCond .lt 9, 3, 0, 10, [])]
def KX11_argument_4 : List RI := [(.iload_n 1, 1, 0, 1, []), (.bipush 6, 2, 0, 0, []), (.if_icmp .lt 5, 3, 0, 12, [])]
def KX11_argument_10 : List RI := [(.iconst (-1), 1, 0, 0, []), (.ireturn, 1, 1, 0, [])]
def KX11_argument_12 : List RI := [(.aload_n 0, 1, 0, 0, []), (.getfield 17, 3, 0, 362, []), (.iload_n 1, 1, 0, 1, []), (.lload_n 2, 1, 0, 2, []), (.lastore, 1, 0, 0, []), (.iconst 1, 1, 0, 0, []), (.ireturn, 1, 1, 0, [])]
def KX11_argument : RB := [(0, KX11_argument_0), (4, KX11_argument_4), (10, KX11_argument_10), (12, KX11_argument_12)]
def rX11_argument : CmC := (yX11_argument, cX11_argument, 4, (some .int), 2, 12, false)
theorem hX11_argument : mtC[216]? = some rX11_argument := rfl
set_option maxRecDepth 100000 in
theorem okX11_argument : cokMC rX11_argument KX11_argument = true := by sorry
def KX11_input_0 : List RI := [(.aload_n 0, 1, 0, 0, []), (.getfield 119, 3, 0, 370, []), (.bipush 40, 2, 0, 0, []), (.if_icmp .lt 6, 3, 0, 12, [])]
def KX11_input_9 : List RI := [(.bipush (-3), 2, 0, 0, []), (.ireturn, 1, 1, 0, [])]
def KX11_input_12 : List RI := [(.aload_n 0, 1, 0, 0, []), (.getfield 13, 3, 0, 361, []), (.aload_n 0, 1, 0, 0, []), (.getfield 119, 3, 0, 370, []), (.iload_n 1, 1, 0, 1, []), (.iastore, 1, 0, 0, []), (.aload_n 0, 1, 0, 0, []), (.dup, 1, 0, 0, []), (.getfield 119, 3, 0, 370, []), (.iconst 1, 1, 0, 0, []), (.iadd, 1, 0, 0, []), (.putfield 119, 3, 0, 370, []), (.aload_n 0, 1, 0, 0, []), (.getfield 119, 3, 0, 370, []), (.ireturn, 1, 1, 0, [])]
def KX11_input : RB := [(0, KX11_input_0), (9, KX11_input_9), (12, KX11_input_12)]
def rX11_input : CmC := (yX11_input, cX11_input, 2, (some .int), 1, 12, false)
theorem hX11_input : mtC[217]? = some rX11_input := rfl
set_option maxRecDepth 100000 in
theorem okX11_input : cokMC rX11_input KX11_input = true := by sorry
def KX11_drain_0 : List RI := [(.aload_n 0, 1, 0, 0, []), (.getfield 119, 3, 0, 370, []), (.istore_n 1, 1, 0, 1, []), (.aload_n 0, 1, 0, 0, []), (.iconst 0, 1, 0, 0, []), (.putfield 119, 3, 0, 370, []), (.iload_n 1, 1, 0, 1, []), (.ireturn, 1, 1, 0, [])]
def KX11_drain : RB := [(0, KX11_drain_0)]
def rX11_drain : CmC := (yX11_drain, cX11_drain, 2, (some .int), 0, 12, false)
theorem hX11_drain : mtC[218]? = some rX11_drain := rfl
set_option maxRecDepth 100000 in
theorem okX11_drain : cokMC rX11_drain KX11_drain = true := by sorry
def KX11_run_0 : List RI := [(.iload_n 1, 1, 0, 1, []), (.ifCond .lt 29, 3, 0, 30, [])]
def KX11_run_4 : List RI := [(.iload_n 1, 1, 0, 1, []), (.aload_n 0, 1, 0, 0, []), (.getfield 24, 3, 0, 363, []), (.getfield 95, 3, 0, 211, []), (.invokevirtual 99, 3, 0, 234, []), (.if_icmp .ge 15, 3, 0, 30, [])]
def KX11_run_18 : List RI := [(.iload_n 2, 1, 0, 2, []), (.iconst 1, 1, 0, 0, []), (.if_icmp .lt 10, 3, 0, 30, [])]
def KX11_run_23 : List RI := [(.iload_n 2, 1, 0, 2, []), (.sipush 20000, 3, 0, 0, []), (.if_icmp .le 5, 3, 0, 32, [])]
def KX11_run_30 : List RI := [(.iconst (-1), 1, 0, 0, []), (.ireturn, 1, 1, 0, [])]
def KX11_run_32 : List RI := [(.aload_n 0, 1, 0, 0, []), (.getfield 24, 3, 0, 363, []), (.getfield 89, 3, 0, 217, []), (.ifCond .eq 6, 3, 0, 45, [])]
def KX11_run_42 : List RI := [(.bipush (-2), 2, 0, 0, []), (.ireturn, 1, 1, 0, [])]
def KX11_run_45 : List RI := [(.aload_n 0, 1, 0, 0, []), (.iconst 1, 1, 0, 0, []), (.putfield 82, 3, 0, 372, []), (.aload_n 0, 1, 0, 0, []), (.getfield 59, 3, 0, 368, []), (.aload_n 0, 1, 0, 0, []), (.getfield 13, 3, 0, 361, []), (.aload_n 0, 1, 0, 0, []), (.getfield 119, 3, 0, 370, []), (.invokevirtual 198, 3, 2, 88, [(0, 0), (0, 0), (0, 0), (0, 0), (0, 0)]), (.aload_n 0, 1, 0, 0, []), (.getfield 59, 3, 0, 368, []), (.aload_n 0, 1, 0, 0, []), (.getfield 24, 3, 0, 363, []), (.getfield 95, 3, 0, 211, []), (.iload_n 1, 1, 0, 1, []), (.invokevirtual 130, 3, 1, 235, []), (.checkcast 134, 3, 0, 6, []), (.aload_n 0, 1, 0, 0, []), (.getfield 17, 3, 0, 362, []), (.iload_n 2, 1, 0, 2, []), (.invokevirtual 202, 3, 3, 89, [(0, 0), (0, 0), (0, 0), (0, 0), (0, 0)]), (.ireturn, 1, 1, 0, [])]
def KX11_run : RB := [(0, KX11_run_0), (4, KX11_run_4), (18, KX11_run_18), (23, KX11_run_23), (30, KX11_run_30), (32, KX11_run_32), (42, KX11_run_42), (45, KX11_run_45)]
def rX11_run : CmC := (yX11_run, cX11_run, 3, (some .int), 2, 12, false)
theorem hX11_run : mtC[219]? = some rX11_run := rfl
set_option maxRecDepth 100000 in
theorem okX11_run : cokMC rX11_run KX11_run = true := by sorry
def KX11_ran_0 : List RI := [(.aload_n 0, 1, 0, 0, []), (.getfield 82, 3, 0, 372, []), (.ifCond .eq 14, 3, 0, 18, [])]
def KX11_ran_7 : List RI := [(.aload_n 0, 1, 0, 0, []), (.getfield 59, 3, 0, 368, []), (.iload_n 1, 1, 0, 1, []), (.invokevirtual 206, 3, 1, 90, [(0, 0), (0, 0), (0, 0), (0, 0), (0, 0)]), (.goto 6, 3, 0, 21, [])]
def KX11_ran_18 : List RI := [(.ldc2_w 170, 3, (-1234567890123), 0, [])]
def KX11_ran_21 : List RI := [(.lreturn, 1, 0, 0, [])]
def KX11_ran : RB := [(0, KX11_ran_0), (7, KX11_ran_7), (18, KX11_ran_18), (21, KX11_ran_21)]
def rX11_ran : CmC := (yX11_ran, cX11_ran, 2, (some .long), 1, 12, false)
theorem hX11_ran : mtC[220]? = some rX11_ran := rfl
set_option maxRecDepth 100000 in
theorem okX11_ran : cokMC rX11_ran KX11_ran = true := by sorry
def KX11_has_0 : List RI := [(.lload_n 0, 1, 0, 0, []), (.iload_n 2, 1, 0, 2, []), (.lushr, 1, 0, 0, []), (.lconst 1, 1, 0, 0, []), (.land, 1, 0, 0, []), (.lconst 0, 1, 0, 0, []), (.lcmp, 1, 0, 0, []), (.ifCond .eq 7, 3, 0, 14, [])]
def KX11_has_10 : List RI := [(.iconst 1, 1, 0, 0, []), (.goto 4, 3, 0, 15, [])]
def KX11_has_14 : List RI := [(.iconst 0, 1, 0, 0, [])]
def KX11_has_15 : List RI := [(.ireturn, 1, 2, 0, [])]
def KX11_has : RB := [(0, KX11_has_0), (10, KX11_has_10), (14, KX11_has_14), (15, KX11_has_15)]
def rX11_has : CmC := (yX11_has, cX11_has, 3, (some .boolean), 2, 12, true)
theorem hX11_has : mtC[221]? = some rX11_has := rfl
set_option maxRecDepth 100000 in
theorem okX11_has : cokMC rX11_has KX11_has = true := by sorry
def KX11_bit_0 : List RI := [(.lconst 1, 1, 0, 0, []), (.iload_n 0, 1, 0, 0, []), (.lshl, 1, 0, 0, []), (.lreturn, 1, 0, 0, [])]
def KX11_bit : RB := [(0, KX11_bit_0)]
def rX11_bit : CmC := (yX11_bit, cX11_bit, 1, (some .long), 1, 12, true)
theorem hX11_bit : mtC[222]? = some rX11_bit := rfl
set_option maxRecDepth 100000 in
theorem okX11_bit : cokMC rX11_bit KX11_bit = true := by sorry
def KX11_isNumber_0 : List RI := [(.iload_n 0, 1, 0, 0, []), (.iconst 1, 1, 0, 0, []), (.if_icmp .lt 12, 3, 0, 14, [])]
def KX11_isNumber_5 : List RI := [(.iload_n 0, 1, 0, 0, []), (.iconst 4, 1, 0, 0, []), (.if_icmp .gt 7, 3, 0, 14, [])]
def KX11_isNumber_10 : List RI := [(.iconst 1, 1, 0, 0, []), (.goto 4, 3, 0, 15, [])]
def KX11_isNumber_14 : List RI := [(.iconst 0, 1, 0, 0, [])]
def KX11_isNumber_15 : List RI := [(.ireturn, 1, 2, 0, [])]
def KX11_isNumber : RB := [(0, KX11_isNumber_0), (5, KX11_isNumber_5), (10, KX11_isNumber_10), (14, KX11_isNumber_14), (15, KX11_isNumber_15)]
def rX11_isNumber : CmC := (yX11_isNumber, cX11_isNumber, 1, (some .boolean), 1, 12, true)
theorem hX11_isNumber : mtC[223]? = some rX11_isNumber := rfl
set_option maxRecDepth 100000 in
theorem okX11_isNumber : cokMC rX11_isNumber KX11_isNumber = true := by sorry
def KX11_sameOrWidens_0 : List RI := [(.iload_n 0, 1, 0, 0, []), (.iconst 1, 1, 0, 0, []), (.if_icmp .eq 8, 3, 0, 10, [])]
def KX11_sameOrWidens_5 : List RI := [(.iload_n 0, 1, 0, 0, []), (.iconst 2, 1, 0, 0, []), (.if_icmp .ne 7, 3, 0, 14, [])]
def KX11_sameOrWidens_10 : List RI := [(.iconst 1, 1, 0, 0, []), (.goto 4, 3, 0, 15, [])]
def KX11_sameOrWidens_14 : List RI := [(.iconst 0, 1, 0, 0, [])]
def KX11_sameOrWidens_15 : List RI := [(.istore_n 2, 1, 0, 2, []), (.iload_n 0, 1, 0, 0, []), (.iload_n 1, 1, 0, 1, []), (.if_icmp .eq 26, 3, 0, 44, [])]
def KX11_sameOrWidens_21 : List RI := [(.iload_n 2, 1, 0, 2, []), (.ifCond .eq 8, 3, 0, 30, [])]
def KX11_sameOrWidens_25 : List RI := [(.iload_n 1, 1, 0, 1, []), (.iconst 3, 1, 0, 0, []), (.if_icmp .eq 17, 3, 0, 44, [])]
def KX11_sameOrWidens_30 : List RI := [(.iload_n 2, 1, 0, 2, []), (.ifCond .ne 8, 3, 0, 39, [])]
def KX11_sameOrWidens_34 : List RI := [(.iload_n 0, 1, 0, 0, []), (.iconst 3, 1, 0, 0, []), (.if_icmp .ne 12, 3, 0, 48, [])]
def KX11_sameOrWidens_39 : List RI := [(.iload_n 1, 1, 0, 1, []), (.iconst 4, 1, 0, 0, []), (.if_icmp .ne 7, 3, 0, 48, [])]
def KX11_sameOrWidens_44 : List RI := [(.iconst 1, 1, 0, 0, []), (.goto 4, 3, 0, 49, [])]
def KX11_sameOrWidens_48 : List RI := [(.iconst 0, 1, 0, 0, [])]
def KX11_sameOrWidens_49 : List RI := [(.ireturn, 1, 2, 0, [])]
def KX11_sameOrWidens : RB := [(0, KX11_sameOrWidens_0), (5, KX11_sameOrWidens_5), (10, KX11_sameOrWidens_10), (14, KX11_sameOrWidens_14), (15, KX11_sameOrWidens_15), (21, KX11_sameOrWidens_21), (25, KX11_sameOrWidens_25), (30, KX11_sameOrWidens_30), (34, KX11_sameOrWidens_34), (39, KX11_sameOrWidens_39), (44, KX11_sameOrWidens_44), (48, KX11_sameOrWidens_48), (49, KX11_sameOrWidens_49)]
def rX11_sameOrWidens : CmC := (yX11_sameOrWidens, cX11_sameOrWidens, 3, (some .boolean), 2, 12, true)
theorem hX11_sameOrWidens : mtC[224]? = some rX11_sameOrWidens := rfl
set_option maxRecDepth 100000 in
theorem okX11_sameOrWidens : cokMC rX11_sameOrWidens KX11_sameOrWidens = true := by sorry
def KX11_isDivision_0 : List RI := [(.iload_n 0, 1, 0, 0, []), (.bipush 37, 2, 0, 0, []), (.if_icmp .eq 9, 3, 0, 12, [])]
def KX11_isDivision_6 : List RI := [(.iload_n 0, 1, 0, 0, []), (.bipush 38, 2, 0, 0, []), (.if_icmp .ne 7, 3, 0, 16, [])]
def KX11_isDivision_12 : List RI := [(.iconst 1, 1, 0, 0, []), (.goto 4, 3, 0, 17, [])]
def KX11_isDivision_16 : List RI := [(.iconst 0, 1, 0, 0, [])]
def KX11_isDivision_17 : List RI := [(.ireturn, 1, 2, 0, [])]
def KX11_isDivision : RB := [(0, KX11_isDivision_0), (6, KX11_isDivision_6), (12, KX11_isDivision_12), (16, KX11_isDivision_16), (17, KX11_isDivision_17)]
def rX11_isDivision : CmC := (yX11_isDivision, cX11_isDivision, 1, (some .boolean), 1, 12, true)
theorem hX11_isDivision : mtC[227]? = some rX11_isDivision := rfl
set_option maxRecDepth 100000 in
theorem okX11_isDivision : cokMC rX11_isDivision KX11_isDivision = true := by sorry
def KX11_narrowed_0 : List RI := [(.iload_n 0, 1, 0, 0, []), (.tableswitch 41 1 3 #[27, 32, 37], 27, 0, 42, [(1, 28), (2, 33), (3, 38)])]
def KX11_narrowed_28 : List RI := [(.lload_n 1, 1, 0, 1, []), (.l2i, 1, 0, 0, []), (.i2b, 1, 0, 0, []), (.i2l, 1, 0, 0, []), (.lreturn, 1, 0, 0, [])]
def KX11_narrowed_33 : List RI := [(.lload_n 1, 1, 0, 1, []), (.l2i, 1, 0, 0, []), (.i2c, 1, 0, 0, []), (.i2l, 1, 0, 0, []), (.lreturn, 1, 0, 0, [])]
def KX11_narrowed_38 : List RI := [(.lload_n 1, 1, 0, 1, []), (.l2i, 1, 0, 0, []), (.i2l, 1, 0, 0, []), (.lreturn, 1, 0, 0, [])]
def KX11_narrowed_42 : List RI := [(.lload_n 1, 1, 0, 1, []), (.lreturn, 1, 0, 0, [])]
def KX11_narrowed : RB := [(0, KX11_narrowed_0), (28, KX11_narrowed_28), (33, KX11_narrowed_33), (38, KX11_narrowed_38), (42, KX11_narrowed_42)]
def rX11_narrowed : CmC := (yX11_narrowed, cX11_narrowed, 3, (some .long), 2, 12, true)
theorem hX11_narrowed : mtC[228]? = some rX11_narrowed := rfl
set_option maxRecDepth 100000 in
theorem swX11_narrowed_1 : decode cX11_narrowed 1 = .ok (.tableswitch 41 1 3 #[27, 32, 37], 27) := by sorry
set_option maxRecDepth 100000 in
theorem okX11_narrowed : cokMC rX11_narrowed KX11_narrowed = true := by sorry
def KX11_worked_0 : List RI := [(.iload_n 0, 1, 0, 0, []), (.tableswitch 174 22 38 #[155, 160, 150, 174, 174, 174, 174, 174, 174, 165, 165, 165, 83, 92, 101, 110, 130], 83, 0, 175, [(22, 156), (23, 161), (24, 151), (25, 175), (26, 175), (27, 175), (28, 175), (29, 175), (30, 175), (31, 166), (32, 166), (33, 166), (34, 84), (35, 93), (36, 102), (37, 111), (38, 131)])]
def KX11_worked_84 : List RI := [(.iload_n 1, 1, 0, 1, []), (.lload_n 2, 1, 0, 2, []), (.lload 4, 2, 0, 0, []), (.ladd, 1, 0, 0, []), (.invokestatic 216, 3, 2, 228, []), (.lreturn, 1, 0, 0, [])]
def KX11_worked_93 : List RI := [(.iload_n 1, 1, 0, 1, []), (.lload_n 2, 1, 0, 2, []), (.lload 4, 2, 0, 0, []), (.lsub, 1, 0, 0, []), (.invokestatic 216, 3, 2, 228, []), (.lreturn, 1, 0, 0, [])]
def KX11_worked_102 : List RI := [(.iload_n 1, 1, 0, 1, []), (.lload_n 2, 1, 0, 2, []), (.lload 4, 2, 0, 0, []), (.lmul, 1, 0, 0, []), (.invokestatic 216, 3, 2, 228, []), (.lreturn, 1, 0, 0, [])]
def KX11_worked_111 : List RI := [(.lload 4, 2, 0, 0, []), (.lconst 0, 1, 0, 0, []), (.lcmp, 1, 0, 0, []), (.ifCond .ne 7, 3, 0, 122, [])]
def KX11_worked_118 : List RI := [(.lconst 0, 1, 0, 0, []), (.goto 11, 3, 0, 130, [])]
def KX11_worked_122 : List RI := [(.iload_n 1, 1, 0, 1, []), (.lload_n 2, 1, 0, 2, []), (.lload 4, 2, 0, 0, []), (.ldiv, 1, 0, 0, []), (.invokestatic 216, 3, 2, 228, [])]
def KX11_worked_130 : List RI := [(.lreturn, 1, 0, 0, [])]
def KX11_worked_131 : List RI := [(.lload 4, 2, 0, 0, []), (.lconst 0, 1, 0, 0, []), (.lcmp, 1, 0, 0, []), (.ifCond .ne 7, 3, 0, 142, [])]
def KX11_worked_138 : List RI := [(.lconst 0, 1, 0, 0, []), (.goto 11, 3, 0, 150, [])]
def KX11_worked_142 : List RI := [(.iload_n 1, 1, 0, 1, []), (.lload_n 2, 1, 0, 2, []), (.lload 4, 2, 0, 0, []), (.lrem, 1, 0, 0, []), (.invokestatic 216, 3, 2, 228, [])]
def KX11_worked_150 : List RI := [(.lreturn, 1, 0, 0, [])]
def KX11_worked_151 : List RI := [(.lload_n 2, 1, 0, 2, []), (.lload 4, 2, 0, 0, []), (.land, 1, 0, 0, []), (.lreturn, 1, 0, 0, [])]
def KX11_worked_156 : List RI := [(.lload_n 2, 1, 0, 2, []), (.lload 4, 2, 0, 0, []), (.lor, 1, 0, 0, []), (.lreturn, 1, 0, 0, [])]
def KX11_worked_161 : List RI := [(.lload_n 2, 1, 0, 2, []), (.lload 4, 2, 0, 0, []), (.lxor, 1, 0, 0, []), (.lreturn, 1, 0, 0, [])]
def KX11_worked_166 : List RI := [(.iload_n 0, 1, 0, 0, []), (.iload_n 1, 1, 0, 1, []), (.lload_n 2, 1, 0, 2, []), (.lload 4, 2, 0, 0, []), (.invokestatic 220, 3, 4, 230, []), (.lreturn, 1, 0, 0, [])]
def KX11_worked_175 : List RI := [(.iload_n 0, 1, 0, 0, []), (.lload_n 2, 1, 0, 2, []), (.lload 4, 2, 0, 0, []), (.invokestatic 224, 3, 3, 231, []), (.ifCond .eq 7, 3, 0, 189, [])]
def KX11_worked_185 : List RI := [(.lconst 1, 1, 0, 0, []), (.goto 4, 3, 0, 190, [])]
def KX11_worked_189 : List RI := [(.lconst 0, 1, 0, 0, [])]
def KX11_worked_190 : List RI := [(.lreturn, 1, 0, 0, [])]
def KX11_worked : RB := [(0, KX11_worked_0), (84, KX11_worked_84), (93, KX11_worked_93), (102, KX11_worked_102), (111, KX11_worked_111), (118, KX11_worked_118), (122, KX11_worked_122), (130, KX11_worked_130), (131, KX11_worked_131), (138, KX11_worked_138), (142, KX11_worked_142), (150, KX11_worked_150), (151, KX11_worked_151), (156, KX11_worked_156), (161, KX11_worked_161), (166, KX11_worked_166), (175, KX11_worked_175), (185, KX11_worked_185), (189, KX11_worked_189), (190, KX11_worked_190)]
def rX11_worked : CmC := (yX11_worked, cX11_worked, 6, (some .long), 4, 12, true)
theorem hX11_worked : mtC[229]? = some rX11_worked := rfl
set_option maxRecDepth 100000 in
theorem swX11_worked_1 : decode cX11_worked 1 = .ok (.tableswitch 174 22 38 #[155, 160, 150, 174, 174, 174, 174, 174, 174, 165, 165, 165, 83, 92, 101, 110, 130], 83) := by sorry
set_option maxRecDepth 100000 in
theorem okX11_worked : cokMC rX11_worked KX11_worked = true := by sorry
def KX11_shifted_0 : List RI := [(.iload_n 1, 1, 0, 1, []), (.iconst 4, 1, 0, 0, []), (.if_icmp .ne 43, 3, 0, 45, [])]
def KX11_shifted_5 : List RI := [(.lload 4, 2, 0, 0, []), (.ldc2_w 228, 3, 63, 0, []), (.land, 1, 0, 0, []), (.l2i, 1, 0, 0, []), (.istore 6, 2, 0, 0, []), (.iload_n 0, 1, 0, 0, []), (.bipush 31, 2, 0, 0, []), (.if_icmp .ne 10, 3, 0, 27, [])]
def KX11_shifted_20 : List RI := [(.lload_n 2, 1, 0, 2, []), (.iload 6, 2, 0, 0, []), (.lshl, 1, 0, 0, []), (.goto 20, 3, 0, 44, [])]
def KX11_shifted_27 : List RI := [(.iload_n 0, 1, 0, 0, []), (.bipush 32, 2, 0, 0, []), (.if_icmp .ne 10, 3, 0, 40, [])]
def KX11_shifted_33 : List RI := [(.lload_n 2, 1, 0, 2, []), (.iload 6, 2, 0, 0, []), (.lshr, 1, 0, 0, []), (.goto 7, 3, 0, 44, [])]
def KX11_shifted_40 : List RI := [(.lload_n 2, 1, 0, 2, []), (.iload 6, 2, 0, 0, []), (.lushr, 1, 0, 0, [])]
def KX11_shifted_44 : List RI := [(.lreturn, 1, 0, 0, [])]
def KX11_shifted_45 : List RI := [(.lload 4, 2, 0, 0, []), (.ldc2_w 230, 3, 31, 0, []), (.land, 1, 0, 0, []), (.l2i, 1, 0, 0, []), (.istore 6, 2, 0, 0, []), (.lload_n 2, 1, 0, 2, []), (.l2i, 1, 0, 0, []), (.istore 7, 2, 0, 0, []), (.iload_n 0, 1, 0, 0, []), (.bipush 31, 2, 0, 0, []), (.if_icmp .ne 12, 3, 0, 73, [])]
def KX11_shifted_64 : List RI := [(.iload 7, 2, 0, 0, []), (.iload 6, 2, 0, 0, []), (.ishl, 1, 0, 0, []), (.i2l, 1, 0, 0, []), (.goto 24, 3, 0, 94, [])]
def KX11_shifted_73 : List RI := [(.iload_n 0, 1, 0, 0, []), (.bipush 32, 2, 0, 0, []), (.if_icmp .ne 12, 3, 0, 88, [])]
def KX11_shifted_79 : List RI := [(.iload 7, 2, 0, 0, []), (.iload 6, 2, 0, 0, []), (.ishr, 1, 0, 0, []), (.i2l, 1, 0, 0, []), (.goto 9, 3, 0, 94, [])]
def KX11_shifted_88 : List RI := [(.iload 7, 2, 0, 0, []), (.iload 6, 2, 0, 0, []), (.iushr, 1, 0, 0, []), (.i2l, 1, 0, 0, [])]
def KX11_shifted_94 : List RI := [(.lreturn, 1, 0, 0, [])]
def KX11_shifted : RB := [(0, KX11_shifted_0), (5, KX11_shifted_5), (20, KX11_shifted_20), (27, KX11_shifted_27), (33, KX11_shifted_33), (40, KX11_shifted_40), (44, KX11_shifted_44), (45, KX11_shifted_45), (64, KX11_shifted_64), (73, KX11_shifted_73), (79, KX11_shifted_79), (88, KX11_shifted_88), (94, KX11_shifted_94)]
def rX11_shifted : CmC := (yX11_shifted, cX11_shifted, 8, (some .long), 4, 12, true)
theorem hX11_shifted : mtC[230]? = some rX11_shifted := rfl
set_option maxRecDepth 100000 in
theorem okX11_shifted : cokMC rX11_shifted KX11_shifted = true := by sorry
def KX11_compared_0 : List RI := [(.iload_n 0, 1, 0, 0, []), (.tableswitch 95 25 29 #[35, 47, 59, 71, 83], 35, 0, 96, [(25, 36), (26, 48), (27, 60), (28, 72), (29, 84)])]
def KX11_compared_36 : List RI := [(.lload_n 1, 1, 0, 1, []), (.lload_n 3, 1, 0, 3, []), (.lcmp, 1, 0, 0, []), (.ifCond .ne 7, 3, 0, 46, [])]
def KX11_compared_42 : List RI := [(.iconst 1, 1, 0, 0, []), (.goto 4, 3, 0, 47, [])]
def KX11_compared_46 : List RI := [(.iconst 0, 1, 0, 0, [])]
def KX11_compared_47 : List RI := [(.ireturn, 1, 2, 0, [])]
def KX11_compared_48 : List RI := [(.lload_n 1, 1, 0, 1, []), (.lload_n 3, 1, 0, 3, []), (.lcmp, 1, 0, 0, []), (.ifCond .eq 7, 3, 0, 58, [])]
def KX11_compared_54 : List RI := [(.iconst 1, 1, 0, 0, []), (.goto 4, 3, 0, 59, [])]
def KX11_compared_58 : List RI := [(.iconst 0, 1, 0, 0, [])]
def KX11_compared_59 : List RI := [(.ireturn, 1, 2, 0, [])]
def KX11_compared_60 : List RI := [(.lload_n 1, 1, 0, 1, []), (.lload_n 3, 1, 0, 3, []), (.lcmp, 1, 0, 0, []), (.ifCond .ge 7, 3, 0, 70, [])]
def KX11_compared_66 : List RI := [(.iconst 1, 1, 0, 0, []), (.goto 4, 3, 0, 71, [])]
def KX11_compared_70 : List RI := [(.iconst 0, 1, 0, 0, [])]
def KX11_compared_71 : List RI := [(.ireturn, 1, 2, 0, [])]
def KX11_compared_72 : List RI := [(.lload_n 1, 1, 0, 1, []), (.lload_n 3, 1, 0, 3, []), (.lcmp, 1, 0, 0, []), (.ifCond .gt 7, 3, 0, 82, [])]
def KX11_compared_78 : List RI := [(.iconst 1, 1, 0, 0, []), (.goto 4, 3, 0, 83, [])]
def KX11_compared_82 : List RI := [(.iconst 0, 1, 0, 0, [])]
def KX11_compared_83 : List RI := [(.ireturn, 1, 2, 0, [])]
def KX11_compared_84 : List RI := [(.lload_n 1, 1, 0, 1, []), (.lload_n 3, 1, 0, 3, []), (.lcmp, 1, 0, 0, []), (.ifCond .le 7, 3, 0, 94, [])]
def KX11_compared_90 : List RI := [(.iconst 1, 1, 0, 0, []), (.goto 4, 3, 0, 95, [])]
def KX11_compared_94 : List RI := [(.iconst 0, 1, 0, 0, [])]
def KX11_compared_95 : List RI := [(.ireturn, 1, 2, 0, [])]
def KX11_compared_96 : List RI := [(.lload_n 1, 1, 0, 1, []), (.lload_n 3, 1, 0, 3, []), (.lcmp, 1, 0, 0, []), (.ifCond .lt 7, 3, 0, 106, [])]
def KX11_compared_102 : List RI := [(.iconst 1, 1, 0, 0, []), (.goto 4, 3, 0, 107, [])]
def KX11_compared_106 : List RI := [(.iconst 0, 1, 0, 0, [])]
def KX11_compared_107 : List RI := [(.ireturn, 1, 2, 0, [])]
def KX11_compared : RB := [(0, KX11_compared_0), (36, KX11_compared_36), (42, KX11_compared_42), (46, KX11_compared_46), (47, KX11_compared_47), (48, KX11_compared_48), (54, KX11_compared_54), (58, KX11_compared_58), (59, KX11_compared_59), (60, KX11_compared_60), (66, KX11_compared_66), (70, KX11_compared_70), (71, KX11_compared_71), (72, KX11_compared_72), (78, KX11_compared_78), (82, KX11_compared_82), (83, KX11_compared_83), (84, KX11_compared_84), (90, KX11_compared_90), (94, KX11_compared_94), (95, KX11_compared_95), (96, KX11_compared_96), (102, KX11_compared_102), (106, KX11_compared_106), (107, KX11_compared_107)]
def rX11_compared : CmC := (yX11_compared, cX11_compared, 5, (some .boolean), 3, 12, true)
theorem hX11_compared : mtC[231]? = some rX11_compared := rfl
set_option maxRecDepth 100000 in
theorem swX11_compared_1 : decode cX11_compared 1 = .ok (.tableswitch 95 25 29 #[35, 47, 59, 71, 83], 35) := by sorry
set_option maxRecDepth 100000 in
theorem okX11_compared : cokMC rX11_compared KX11_compared = true := by sorry
def KX11_workedAlone_0 : List RI := [(.iload_n 0, 1, 0, 0, []), (.lookupswitch 52 #[(35, 35), (39, 48), (40, 42)], 35, 0, 53, [(35, 36), (39, 49), (40, 43)])]
def KX11_workedAlone_36 : List RI := [(.iload_n 1, 1, 0, 1, []), (.lload_n 2, 1, 0, 2, []), (.lneg, 1, 0, 0, []), (.invokestatic 216, 3, 2, 228, []), (.lreturn, 1, 0, 0, [])]
def KX11_workedAlone_43 : List RI := [(.lload_n 2, 1, 0, 2, []), (.ldc2_w 232, 3, (-1), 0, []), (.lxor, 1, 0, 0, []), (.lreturn, 1, 0, 0, [])]
def KX11_workedAlone_49 : List RI := [(.lload_n 2, 1, 0, 2, []), (.lconst 1, 1, 0, 0, []), (.lxor, 1, 0, 0, []), (.lreturn, 1, 0, 0, [])]
def KX11_workedAlone_53 : List RI := [(.lload_n 2, 1, 0, 2, []), (.lreturn, 1, 0, 0, [])]
def KX11_workedAlone : RB := [(0, KX11_workedAlone_0), (36, KX11_workedAlone_36), (43, KX11_workedAlone_43), (49, KX11_workedAlone_49), (53, KX11_workedAlone_53)]
def rX11_workedAlone : CmC := (yX11_workedAlone, cX11_workedAlone, 4, (some .long), 3, 12, true)
theorem hX11_workedAlone : mtC[232]? = some rX11_workedAlone := rfl
set_option maxRecDepth 100000 in
theorem swX11_workedAlone_1 : decode cX11_workedAlone 1 = .ok (.lookupswitch 52 #[(35, 35), (39, 48), (40, 42)], 35) := by sorry
set_option maxRecDepth 100000 in
theorem okX11_workedAlone : cokMC rX11_workedAlone KX11_workedAlone = true := by sorry
abbrev UcC : Type := List (Nat × CqC)
def uoC (ct : UcC) (μ : Nat) : Option CqC := match ct with
  | [] => none
  | q :: r => match Nat.beq q.1 μ with
    | true => some q.2
    | false => uoC r μ
def uqC (ct : UcC) (μ : Nat) : CqC := match uoC ct μ with
  | none => fun _ _ _ _ => True
  | some Q => Q
/-- both contracts of a method that is called -/
def uc2C (c1 : CcC) (c2 : UcC) : CcC := c1.map (fun q => (q.1, q.2.1, match uoC c2 q.1 with
  | none => q.2.2
  | some Q => fun As σ w τ => q.2.2 As σ w τ ∧ Q As σ w τ))
theorem uc2_some {c2 : UcC} {μ : Nat} {P : CpC} {Q : CqC} : ∀ {c1 : CcC}, ctC c1 μ = some (P, Q) → ∃ Q', ctC (uc2C c1 c2) μ = some (P, Q') ∧ ∀ As σ w τ, Q' As σ w τ → Q As σ w τ ∧ uqC c2 μ As σ w τ := by sorry
def UqC (ls : ClC) : Prop := ∀ i v v', (i, v) ∈ ls → (i, v') ∈ ls → v = v'
theorem lkC_some {i : Nat} {v : AvC} : ∀ {m : ClC}, (i, v) ∈ m → ∃ v', lkC m i = some v' := by sorry
theorem UqC.lk {ls m : ClC} (h : UqC m) (hs : ∀ q ∈ ls, q ∈ m) {i : Nat} {v : AvC} (hl : lkC ls i = some v) : lkC m i = some v := by sorry
theorem dlC_key {i j : Nat} : ∀ (l : ClC) (q : Nat × AvC), q ∈ dlC i j l ↔ q ∈ l ∧ kyC i j q = true := by sorry
theorem kyC_ne {i j : Nat} {q : Nat × AvC} (h : kyC i j q = true) : q.1 ≠ i := by sorry
theorem dlC_sub {i j : Nat} {ls m : ClC} (h : ∀ q ∈ ls, q ∈ m) : ∀ q ∈ dlC i j ls, q ∈ dlC i j m := by sorry
theorem s1C_sub {i : Nat} {v : AvC} {ls m : ClC} (h : ∀ q ∈ ls, q ∈ m) : ∀ q ∈ s1C ls i v, q ∈ s1C m i v := by sorry
theorem s2C_sub {i : Nat} {v : AvC} {ls m : ClC} (h : ∀ q ∈ ls, q ∈ m) : ∀ q ∈ s2C ls i v, q ∈ s2C m i v := by sorry
theorem UqC.cn {ls : ClC} (h : UqC ls) {i j : Nat} {v : AvC} : UqC ((i, v) :: dlC i j ls) := by sorry
theorem UqC.r1 {ls : ClC} (h : UqC ls) {i : Nat} {v : AvC} : UqC (s1C ls i v) := h.cn
theorem UqC.r2 {ls : ClC} (h : UqC ls) {i : Nat} {v : AvC} : UqC (s2C ls i v) := h.cn
theorem rsw_1 {x : Int} {d : Nat} {K K' : Nat → Prop} : ∀ {l : List (Int × Nat)}, rsw x l d K → (∀ t, K t → K' t) → rsw x l d K' := by sorry
theorem rsw_2 {ι : Type} {x : Int} {d : Nat} {K1 K : Nat → Prop} {K2 : ι → Nat → Prop} : ∀ {l : List (Int × Nat)}, rsw x l d K1 → (∀ n, rsw x l d (K2 n)) → (∀ t, K1 t → (∀ n, K2 n t) → K t) → rsw x l d K := by sorry
theorem agC_uq (vs : List AvC) : ∀ i, UqC (agC i vs) ∧ ∀ k v, (k, v) ∈ agC i vs → i ≤ k := by sorry
def ucsC (c1 : CcC) (ct : UcC) (K : CkC) (Z : Option AvC → CsC → Prop) (x : RI) (pc : Nat) (ls : ClC) (st : List AvC) (σ : CsC) (k : CkC) : Prop :=
  match x.1 with
  | .iconst n => k (pc + 1) ls (.inl (Int32.ofInt n) :: st) σ
  | .bipush n => k (pc + 2) ls (.inl (Int32.ofInt n) :: st) σ
  | .sipush n => k (pc + 3) ls (.inl (Int32.ofInt n) :: st) σ
  | .lconst n => k (pc + 1) ls (.inr (.inl (Int64.ofNat (n : Nat))) :: st) σ
  | .ldc2_w _ => k (pc + 3) ls (.inr (.inl (Int64.ofInt x.2.2.1)) :: st) σ
  | .aconst_null => k (pc + 1) ls (.inr (.inr none) :: st) σ
  | .ldc _ => match Nat.beq x.2.2.2.1 0 with
    | true => k (pc + 2) ls (.inl (Int32.ofInt x.2.2.1) :: st) σ
    | false => k (pc + 2) ls (.inr (.inr (some x.2.2.2.1)) :: st) σ
  | .iload_n _ => match lkC ls x.2.2.2.1 with
    | some (.inl v) => k (pc + 1) ls (.inl v :: st) σ
    | _ => False
  | .iload n => match lkC ls n with
    | some (.inl v) => k (pc + 2) ls (.inl v :: st) σ
    | _ => False
  | .lload_n _ => match lkC ls x.2.2.2.1 with
    | some (.inr (.inl v)) => k (pc + 1) ls (.inr (.inl v) :: st) σ
    | _ => False
  | .lload n => match lkC ls n with
    | some (.inr (.inl v)) => k (pc + 2) ls (.inr (.inl v) :: st) σ
    | _ => False
  | .aload_n _ => match lkC ls x.2.2.2.1 with
    | some (.inr (.inr v)) => k (pc + 1) ls (.inr (.inr v) :: st) σ
    | _ => False
  | .aload n => match lkC ls n with
    | some (.inr (.inr v)) => k (pc + 2) ls (.inr (.inr v) :: st) σ
    | _ => False
  | .istore_n _ => match st with
    | .inl v :: r => k (pc + 1) (s1C ls x.2.2.2.1 (.inl v)) r σ
    | _ => True
  | .istore n => match st with
    | .inl v :: r => k (pc + 2) (s1C ls n (.inl v)) r σ
    | _ => True
  | .lstore_n _ => match st with
    | .inr (.inl v) :: r => k (pc + 1) (s2C ls x.2.2.2.1 (.inr (.inl v))) r σ
    | _ => True
  | .lstore n => match st with
    | .inr (.inl v) :: r => k (pc + 2) (s2C ls n (.inr (.inl v))) r σ
    | _ => True
  | .astore_n _ => match st with
    | .inr (.inr v) :: r => k (pc + 1) (s1C ls x.2.2.2.1 (.inr (.inr v))) r σ
    | _ => True
  | .astore n => match st with
    | .inr (.inr v) :: r => k (pc + 2) (s1C ls n (.inr (.inr v))) r σ
    | _ => True
  | .iinc n d => match lkC ls n with
    | some (.inl v) => k (pc + 3) (s1C ls n (.inl (v + Int32.ofInt d))) st σ
    | _ => False
  | .iadd => match st with
    | .inl y :: .inl x :: r => k (pc + 1) ls (.inl (x + y) :: r) σ
    | _ => True
  | .isub => match st with
    | .inl y :: .inl x :: r => k (pc + 1) ls (.inl (x - y) :: r) σ
    | _ => True
  | .iand => match st with
    | .inl y :: .inl x :: r => k (pc + 1) ls (.inl (x &&& y) :: r) σ
    | _ => True
  | .ior => match st with
    | .inl y :: .inl x :: r => k (pc + 1) ls (.inl (x ||| y) :: r) σ
    | _ => True
  | .ishr => match st with
    | .inl y :: .inl x :: r => k (pc + 1) ls (.inl (x >>> (y &&& 31)) :: r) σ
    | _ => True
  | .imul => match st with
    | .inl y :: .inl x :: r => k (pc + 1) ls (.inl (x * y) :: r) σ
    | _ => True
  | .ishl => match st with
    | .inl y :: .inl x :: r => k (pc + 1) ls (.inl (x <<< (y &&& 31)) :: r) σ
    | _ => True
  | .iushr => match st with
    | .inl y :: .inl x :: r => k (pc + 1) ls (.inl ((x.toUInt32 >>> (y.toUInt32 &&& Int32.toUInt32 31)).toInt32) :: r) σ
    | _ => True
  | .irem => match st with
    | .inl y :: .inl x :: r => k (pc + 1) ls (.inl (x - x / y * y) :: r) σ
    | _ => True
  | .ladd => match st with
    | .inr (.inl y) :: .inr (.inl x) :: r => k (pc + 1) ls (.inr (.inl (x + y)) :: r) σ
    | _ => True
  | .lsub => match st with
    | .inr (.inl y) :: .inr (.inl x) :: r => k (pc + 1) ls (.inr (.inl (x - y)) :: r) σ
    | _ => True
  | .lmul => match st with
    | .inr (.inl y) :: .inr (.inl x) :: r => k (pc + 1) ls (.inr (.inl (x * y)) :: r) σ
    | _ => True
  | .land => match st with
    | .inr (.inl y) :: .inr (.inl x) :: r => k (pc + 1) ls (.inr (.inl (x &&& y)) :: r) σ
    | _ => True
  | .lor => match st with
    | .inr (.inl y) :: .inr (.inl x) :: r => k (pc + 1) ls (.inr (.inl (x ||| y)) :: r) σ
    | _ => True
  | .lxor => match st with
    | .inr (.inl y) :: .inr (.inl x) :: r => k (pc + 1) ls (.inr (.inl (x ^^^ y)) :: r) σ
    | _ => True
  | .ldiv => match st with
    | .inr (.inl y) :: .inr (.inl x) :: r => k (pc + 1) ls (.inr (.inl (x / y)) :: r) σ
    | _ => True
  | .lrem => match st with
    | .inr (.inl y) :: .inr (.inl x) :: r => k (pc + 1) ls (.inr (.inl (x - x / y * y)) :: r) σ
    | _ => True
  | .lshl => match st with
    | .inl y :: .inr (.inl x) :: r => k (pc + 1) ls (.inr (.inl (x <<< (y.toInt64 &&& 63))) :: r) σ
    | _ => True
  | .lshr => match st with
    | .inl y :: .inr (.inl x) :: r => k (pc + 1) ls (.inr (.inl (x >>> (y.toInt64 &&& 63))) :: r) σ
    | _ => True
  | .lushr => match st with
    | .inl y :: .inr (.inl x) :: r => k (pc + 1) ls (.inr (.inl ((x.toUInt64 >>> (y.toInt64.toUInt64 &&& Int64.toUInt64 63)).toInt64)) :: r) σ
    | _ => True
  | .lneg => match st with
    | .inr (.inl x) :: r => k (pc + 1) ls (.inr (.inl (-x)) :: r) σ
    | _ => True
  | .i2l => match st with
    | .inl x :: r => k (pc + 1) ls (.inr (.inl x.toInt64) :: r) σ
    | _ => True
  | .l2i => match st with
    | .inr (.inl x) :: r => k (pc + 1) ls (.inl x.toInt32 :: r) σ
    | _ => True
  | .i2b => match st with
    | .inl x :: r => k (pc + 1) ls (.inl x.toInt8.toInt32 :: r) σ
    | _ => True
  | .i2c => match st with
    | .inl x :: r => k (pc + 1) ls (.inl (x.toUInt32 % 65536).toInt32 :: r) σ
    | _ => True
  | .lcmp => match st with
    | .inr (.inl y) :: .inr (.inl x) :: r => k (pc + 1) ls (.inl (lg_cmp x y) :: r) σ
    | _ => True
  | .dup => match st with
    | .inl v :: r => k (pc + 1) ls (.inl v :: .inl v :: r) σ
    | .inr (.inr v) :: r => k (pc + 1) ls (.inr (.inr v) :: .inr (.inr v) :: r) σ
    | _ => True
  | .dup_x1 => match st with
    | .inl v :: .inr (.inr y) :: r => k (pc + 1) ls (.inl v :: .inr (.inr y) :: .inl v :: r) σ
    | .inr (.inr v) :: .inr (.inr y) :: r => k (pc + 1) ls (.inr (.inr v) :: .inr (.inr y) :: .inr (.inr v) :: r) σ
    | _ => True
  | .pop => match st with
    | .inl _ :: r => k (pc + 1) ls r σ
    | .inr (.inr _) :: r => k (pc + 1) ls r σ
    | _ => True
  | .pop2 => match st with
    | .inr (.inl _) :: r => k (pc + 1) ls r σ
    | _ => True
  | .ifCond c _ => match st with
    | .inl v :: r => (rcd c v 0 → K x.2.2.2.1 ls r σ) ∧ (rno c v 0 → k (pc + 3) ls r σ)
    | _ => True
  | .if_icmp c _ => match st with
    | .inl y :: .inl v :: r => (rcd c v y → K x.2.2.2.1 ls r σ) ∧ (rno c v y → k (pc + 3) ls r σ)
    | _ => True
  | .ifnull _ => match st with
    | .inr (.inr v) :: r => (v = none → K x.2.2.2.1 ls r σ) ∧ (∀ a, v = some a → k (pc + 3) ls r σ)
    | _ => True
  | .ifnonnull _ => match st with
    | .inr (.inr v) :: r => (∀ a, v = some a → K x.2.2.2.1 ls r σ) ∧ (v = none → k (pc + 3) ls r σ)
    | _ => True
  | .if_acmp c _ => match st with
    | .inr (.inr y) :: .inr (.inr v) :: r => (match c with
      | .eq => (v = y → K x.2.2.2.1 ls r σ) ∧ (¬ v = y → k (pc + 3) ls r σ)
      | .ne => (¬ v = y → K x.2.2.2.1 ls r σ) ∧ (v = y → k (pc + 3) ls r σ))
    | _ => True
  | .goto _ => K x.2.2.2.1 ls st σ
  | .tableswitch _ _ _ _ => match st with
    | .inl v :: r => rsw v.toInt x.2.2.2.2 x.2.2.2.1 (fun t => K t ls r σ)
    | _ => True
  | .lookupswitch _ _ => match st with
    | .inl v :: r => rsw v.toInt x.2.2.2.2 x.2.2.2.1 (fun t => K t ls r σ)
    | _ => True
  | .ireturn => match st with
    | [.inl v] => Z (some (.inl v)) σ
    | _ => True
  | .lreturn => match st with
    | [.inr (.inl v)] => Z (some (.inr (.inl v))) σ
    | _ => True
  | .areturn => match st with
    | [.inr (.inr v)] => Z (some (.inr (.inr v))) σ
    | _ => True
  | .return_ => match st with
    | [] => ∀ τ, WeC σ τ → Z none τ
    | _ => True
  | .getfield _ => match st with
    | .inr (.inr v) :: r => ∀ a, v = some a → ObC σ a (x.2.2.2.1 / 30) → k (pc + 3) ls (gtC σ a x.2.2.2.1 :: r) σ
    | _ => True
  | .putfield _ => match st with
    | .inl w :: .inr (.inr v) :: r => ∀ a, v = some a → ObC σ a (x.2.2.2.1 / 30) → (fkC x.2.2.2.1 = 0 ∨ (fkC x.2.2.2.1 = 1 ∧ (w = 0 ∨ w = 1))) → k (pc + 3) ls r (pIC σ a x.2.2.2.1 w)
    | .inr (.inl w) :: .inr (.inr v) :: r => ∀ a, v = some a → ObC σ a (x.2.2.2.1 / 30) → fkC x.2.2.2.1 = 2 → k (pc + 3) ls r (pLC σ a x.2.2.2.1 w)
    | .inr (.inr w) :: .inr (.inr v) :: r => ∀ a, v = some a → ObC σ a (x.2.2.2.1 / 30) → fkC x.2.2.2.1 = 3 → k (pc + 3) ls r (pRC σ a x.2.2.2.1 w)
    | _ => True
  | .baload => match st with
    | .inl j :: .inr (.inr v) :: r => ∀ a, v = some a → RwC σ a 101 → vp_in j (alC σ a) → k (pc + 1) ls (.inl (eIC σ a j.toNatClampNeg) :: r) σ
    | _ => True
  | .laload => match st with
    | .inl j :: .inr (.inr v) :: r => ∀ a, v = some a → RwC σ a 102 → vp_in j (alC σ a) → k (pc + 1) ls (.inr (.inl (eLC σ a j.toNatClampNeg)) :: r) σ
    | _ => True
  | .iaload => match st with
    | .inl j :: .inr (.inr v) :: r => ∀ a, v = some a → (RwC σ a 100 → vp_in j (alC σ a) → k (pc + 1) ls (.inl (eIC σ a j.toNatClampNeg) :: r) σ) ∧ (a = 1000001 → vp_in j 43 → k (pc + 1) ls (.inl (stvC.getD j.toNatClampNeg 0) :: r) σ) ∧ (a = 1000002 → vp_in j 11 → k (pc + 1) ls (.inl (opvC.getD j.toNatClampNeg 0) :: r) σ)
    | _ => True
  | .aaload => match st with
    | .inl j :: .inr (.inr v) :: r => ∀ a t, v = some a → RwC σ a t → (t = 103 ∨ t = 104 ∨ t = 105) → vp_in j (alC σ a) → k (pc + 1) ls (.inr (.inr (eRC σ a j.toNatClampNeg)) :: r) σ
    | _ => True
  | .iastore => match st with
    | .inl w :: .inl j :: .inr (.inr v) :: r => ∀ a, v = some a → RwC σ a 100 → vp_in j (alC σ a) → k (pc + 1) ls r (qIC σ a (upd (eIC σ a) j.toNatClampNeg w))
    | _ => True
  | .bastore => match st with
    | .inl w :: .inl j :: .inr (.inr v) :: r => ∀ a, v = some a → RwC σ a 101 → vp_in j (alC σ a) → k (pc + 1) ls r (qIC σ a (upd (eIC σ a) j.toNatClampNeg (vp_nar .byte w)))
    | _ => True
  | .lastore => match st with
    | .inr (.inl w) :: .inl j :: .inr (.inr v) :: r => ∀ a, v = some a → RwC σ a 102 → vp_in j (alC σ a) → k (pc + 1) ls r (qLC σ a (vp_updL (eLC σ a) j.toNatClampNeg w))
    | _ => True
  | .aastore => match st with
    | .inr (.inr w) :: .inl j :: .inr (.inr v) :: r => ∀ a t, v = some a → RwC σ a t → (t = 103 ∨ t = 104 ∨ t = 105) → vp_in j (alC σ a) → hoC σ t w → k (pc + 1) ls r (qRC σ a (va_up (eRC σ a) j.toNatClampNeg w))
    | _ => True
  | .arraylength => match st with
    | .inr (.inr v) :: r => ∀ a, v = some a → (a < cnC σ → 100 ≤ tgC σ a → tgC σ a ≤ 105 → alC σ a < 2147483648 → k (pc + 1) ls (.inl (nI (alC σ a)) :: r) σ) ∧ (∀ n, ((a = 1000000 ∧ n = 0) ∨ (a = 1000001 ∧ n = 43) ∨ (a = 1000002 ∧ n = 11)) → k (pc + 1) ls (.inl (nI n) :: r) σ)
    | _ => True
  | .newarray _ => match st with
    | .inl n :: r => 0 ≤ n → n ≤ 1000000 → k (pc + 2) ls (.inr (.inr (some (cnC σ))) :: r) (nAC σ x.2.2.2.1 n.toNatClampNeg x.2.2.1.toNat)
    | _ => True
  | .anewarray _ => match st with
    | .inl n :: r => 0 ≤ n → n ≤ 1000000 → k (pc + 3) ls (.inr (.inr (some (cnC σ))) :: r) (nAC σ x.2.2.2.1 n.toNatClampNeg x.2.2.1.toNat)
    | _ => True
  | .new _ => k (pc + 3) ls (.inr (.inr (some (cnC σ))) :: st) (nOC σ (x.2.2.2.1 + 50) (nfC x.2.2.2.1) x.2.2.1.toNat)
  | .checkcast _ => match st with
    | .inr (.inr none) :: r => k (pc + 3) ls (.inr (.inr none) :: r) σ
    | .inr (.inr (some a)) :: r => ObC σ a x.2.2.2.1 → k (pc + 3) ls (.inr (.inr (some a)) :: r) σ
    | _ => True
  | .getstatic _ => k (pc + 3) ls (.inr (.inr (some x.2.2.2.1)) :: st) σ
  | .invokevirtual _ => match Nat.beq x.2.2.2.1 9998 with
    | true => (match st with
      | .inr (.inr v) :: r => ∀ a, v = some a → RwC σ a 103 → k (pc + 3) ls (.inr (.inr (some 1000011)) :: r) σ
      | _ => True)
    | false => match ctC c1 x.2.2.2.1 with
      | some (_, Q) => (match st.drop x.2.2.1.toNat with
        | .inr (.inr (some a)) :: r => ∀ w τ, Q (.inr (.inr (some a)) :: (st.take x.2.2.1.toNat).reverse) σ w τ → uqC ct x.2.2.2.1 (.inr (.inr (some a)) :: (st.take x.2.2.1.toNat).reverse) σ w τ → k (pc + 3) ls (w.toList ++ r) τ
        | _ => True)
      | none => True
  | .invokespecial _ => match Nat.beq x.2.2.2.1 9999 with
    | true => (match st with
      | .inr (.inr (some _)) :: r => k (pc + 3) ls r σ
      | _ => True)
    | false => match ctC c1 x.2.2.2.1 with
      | some (_, Q) => (match st.drop x.2.2.1.toNat with
        | .inr (.inr (some a)) :: r => ∀ w τ, Q (.inr (.inr (some a)) :: (st.take x.2.2.1.toNat).reverse) σ w τ → uqC ct x.2.2.2.1 (.inr (.inr (some a)) :: (st.take x.2.2.1.toNat).reverse) σ w τ → k (pc + 3) ls (w.toList ++ r) τ
        | _ => True)
      | none => True
  | .invokestatic _ => match Nat.ble 9990 x.2.2.2.1 with
    | true => (match Nat.beq x.2.2.2.1 9997 with
      | true => (match st with
        | .inl n :: .inl dp :: .inr (.inr w) :: .inl sp :: .inr (.inr v) :: r => ∀ a b, v = some a → w = some b → RwC σ a 103 → RwC σ b 103 → k (pc + 3) ls r (qRC σ b (va_cpy (eRC σ a) (eRC σ b) sp.toNatClampNeg dp.toNatClampNeg n.toNatClampNeg))
        | _ => True)
      | false => (match Nat.beq x.2.2.2.1 9996 with
        | true => (match st with
          | .inl y :: .inl v :: r => k (pc + 3) ls (.inl (if y < v then y else v) :: r) σ
          | _ => True)
        | false => (match st with
          | .inl y :: .inl v :: r => k (pc + 3) ls (.inl (if v < y then y else v) :: r) σ
          | _ => True)))
    | false => match ctC c1 x.2.2.2.1 with
      | some (_, Q) => ∀ w τ, Q (st.take x.2.2.1.toNat).reverse σ w τ → uqC ct x.2.2.2.1 (st.take x.2.2.1.toNat).reverse σ w τ → k (pc + 3) ls (w.toList ++ st.drop x.2.2.1.toNat) τ
      | none => True
  | _ => True
theorem cst_uc {ι : Type} {c1 : CcC} {c2 : UcC} {K1 K k1 k : CkC} {K2 k2 : ι → CkC} {Z1 Z : Option AvC → CsC → Prop} {Z2 : ι → Option AvC → CsC → Prop} {x : RI} {pc : Nat} {ls m : ClC} {st : List AvC} {σ : CsC} (hu : UqC m) (hs : ∀ q ∈ ls, q ∈ m) (hK : ∀ t r, K1 t ls r σ → (∀ n, K2 n t m r σ) → K t m r σ) (hZ : ∀ w τ, Z1 w τ → (∀ n, Z2 n w τ) → Z w τ) (hk : ∀ pc ls m st σ, UqC m → (∀ q ∈ ls, q ∈ m) → k1 pc ls st σ → (∀ n, k2 n pc m st σ) → k pc m st σ) (h1 : cstC c1 K1 Z1 x pc ls st σ k1) (h2 : ∀ n, ucsC c1 c2 (K2 n) (Z2 n) x pc m st σ (k2 n)) : cstC (uc2C c1 c2) K Z x pc m st σ k := by sorry
theorem ucs_sub {c1 : CcC} {c2 : UcC} {K K' k k' : CkC} {Z : Option AvC → CsC → Prop} {x : RI} {pc : Nat} {ls m : ClC} {st : List AvC} {σ : CsC} (hu : UqC m) (hs : ∀ q ∈ ls, q ∈ m) (hK : ∀ t r, K t ls r σ → K' t m r σ) (hk : ∀ pc ls m st σ, UqC m → (∀ q ∈ ls, q ∈ m) → k pc ls st σ → k' pc m st σ) (h : ucsC c1 c2 K Z x pc ls st σ k) : ucsC c1 c2 K' Z x pc m st σ k' := by sorry
def ucwp (c1 : CcC) (ct : UcC) (K : CkC) (Z : Option AvC → CsC → Prop) : List RI → CkC
  | [], pc, ls, st, σ => K pc ls st σ
  | x :: is, pc, ls, st, σ => ucsC c1 ct K Z x pc ls st σ (ucwp c1 ct K Z is)
def ucgo (bs : RB) (c1 : CcC) (ct : UcC) (K : CkC) (Z : Option AvC → CsC → Prop) : CkC := fun pc ls st σ => match rfd bs pc with
  | some is => ucwp c1 ct K Z is pc ls st σ
  | none => True
theorem ucwp_sub {c1 : CcC} {c2 : UcC} {K K' : CkC} {Z : Option AvC → CsC → Prop} (hK : ∀ pc ls m st σ, UqC m → (∀ q ∈ ls, q ∈ m) → K pc ls st σ → K' pc m st σ) : ∀ (is : List RI) (pc : Nat) (ls m : ClC) (st : List AvC) (σ : CsC), UqC m → (∀ q ∈ ls, q ∈ m) → ucwp c1 c2 K Z is pc ls st σ → ucwp c1 c2 K' Z is pc m st σ := by sorry
theorem cwp_uc {ι : Type} {c1 : CcC} {c2 : UcC} {K1 K : CkC} {K2 : ι → CkC} {Z1 Z : Option AvC → CsC → Prop} {Z2 : ι → Option AvC → CsC → Prop} (hK : ∀ pc ls m st σ, UqC m → (∀ q ∈ ls, q ∈ m) → K1 pc ls st σ → (∀ n, K2 n pc m st σ) → K pc m st σ) (hZ : ∀ w τ, Z1 w τ → (∀ n, Z2 n w τ) → Z w τ) : ∀ (is : List RI) (pc : Nat) (ls m : ClC) (st : List AvC) (σ : CsC), UqC m → (∀ q ∈ ls, q ∈ m) → cwpC c1 K1 Z1 is pc ls st σ → (∀ n, ucwp c1 c2 (K2 n) (Z2 n) is pc m st σ) → cwpC (uc2C c1 c2) K Z is pc m st σ := by sorry
/-- a run of at most n blocks does as Z says -/
def uKm (bs : RB) (c1 : CcC) (ct : UcC) (Z : Option AvC → CsC → Prop) : Nat → CkC
  | 0 => fun _ _ _ _ => True
  | n + 1 => ucgo bs c1 ct (uKm bs c1 ct Z n) Z
abbrev TbC (bs : RB) (ct : CcC) (P : CpC) (Q : CqC) : Prop := ∀ (As : List AvC) (σ : CsC), P As σ → GrC σ σ → ∀ G : CkC, (∀ (pc : Nat) (ls : ClC) (st : List AvC) (τ : CsC), cgoC bs ct G (Q As σ) pc ls st τ → G pc ls st τ) → (∀ (pc : Nat) (ls ls' : ClC) (st : List AvC) (τ : CsC), (∀ q ∈ ls, q ∈ ls') → G pc ls st τ → G pc ls' st τ) → G 0 (agC 0 As) [] σ
abbrev PbC (bs : RB) (c1 : CcC) (ct : UcC) (P : CpC) (Q : CqC) : Prop := ∀ (As : List AvC) (σ : CsC), P As σ → ∀ K : Nat → CkC, (∀ (n pc : Nat) (ls : ClC) (st : List AvC) (τ : CsC), (∀ m, m < n → ucgo bs c1 ct (K m) (Q As σ) pc ls st τ) → K n pc ls st τ) → (∀ (n pc : Nat) (ls ls' : ClC) (st : List AvC) (τ : CsC), (∀ q ∈ ls, q ∈ ls') → K n pc ls st τ → K n pc ls' st τ) → ∀ n, K n 0 (agC 0 As) [] σ
/-- a partial body, as what each run of at most n blocks does -/
theorem PbC.km {bs : RB} {c1 : CcC} {c2 : UcC} {P : CpC} {Q2 : CqC} (b2 : PbC bs c1 c2 P Q2) {As : List AvC} {σ : CsC} (hP : P As σ) : ∀ n, uKm bs c1 c2 (Q2 As σ) n 0 (agC 0 As) [] σ := by sorry
/-- a total body and partial ones of the same code are a total one of all -/
theorem TbC.and {Y : Type} {bs : RB} {c1 : CcC} {c2 : UcC} {P : CpC} {Q1 : CqC} {P2 : Y → CpC} {Q2 : Y → CqC} (b1 : TbC bs c1 P Q1) (b2 : ∀ y, PbC bs c1 c2 (fun As σ => P As σ ∧ P2 y As σ) (Q2 y)) : TbC bs (uc2C c1 c2) P (fun As σ w τ => Q1 As σ w τ ∧ ∀ y, P2 y As σ → Q2 y As σ w τ) := by sorry
/-! reading as a function -/
/-- place, fault, its place; methods told, variables told; codes, places of tokens -/
abbrev SpC : Type := (Int × Int × Int) × (List (Int × Int × List Int) × List (Int × Int × Int × Int)) × (Nat → Int) × ((Nat → Int) × (Nat → Option (List (Int × Int × Int × Int))) × (Nat → Option (List (Int × Int × List Int))) × Nat × List (Nat × Nat))
def zAt (s : SpC) : Int := s.1.1
def zFt (s : SpC) : Int := s.1.2.1
def zPl (s : SpC) : Int := s.1.2.2
def zMs (s : SpC) : List (Int × Int × List Int) := s.2.1.1
def zVs (s : SpC) : List (Int × Int × Int × Int) := s.2.1.2
def zK (s : SpC) : Nat → Int := s.2.2.1
def zL (s : SpC) : Nat → Int := s.2.2.2.1
/-- variables that other programs have told, by their lists -/
def zO (s : SpC) : Nat → Option (List (Int × Int × Int × Int)) := s.2.2.2.2.1
/-- methods that other programs have told, by their lists; what is older than this reading; which methods stand where -/
def zP (s : SpC) : Nat → Option (List (Int × Int × List Int)) := s.2.2.2.2.2.1
def zN (s : SpC) : Nat := s.2.2.2.2.2.2.1
def zF (s : SpC) : List (Nat × Nat) := s.2.2.2.2.2.2.2
def codY (s : SpC) : Int := if zFt s = 0 then zK s (zAt s).toNat else -1
def cobY (s : SpC) : Int := if zFt s = 0 then (if zAt s < 500 then zK s (zAt s + 1).toNat else -1) else -1
def raiY (n : Int) (s : SpC) : SpC := if zFt s = 0 then ((zAt s, (if zK s (zAt s).toNat = 85 then 1 else n), zL s (zAt s).toNat), s.2) else s
def accY (s : SpC) : SpC := if 500 ≤ zAt s then raiY 3 s else if zFt s = 0 then ((zAt s + 1, zFt s, zPl s), s.2) else s
def xpY (c : Int) (s : SpC) : SpC := if codY s = c then accY s else raiY 2 s
def tkY (c : Int) (s : SpC) : SpC := if codY s = c then accY s else s
def dpY (d : Int) (s : SpC) : SpC := if 20 < d then raiY 3 s else s
def typY (s : SpC) : SpC := if 50 ≤ codY s ∧ codY s ≤ 54 then accY s else raiY 2 s
def tyvY (s : SpC) : Int := if 50 ≤ codY s ∧ codY s ≤ 54 then codY s - 50 else 3
def metY (ty : Int) (s : SpC) : SpC := (s.1, ((zAt s, ty, []) :: zMs s, zVs s), s.2.2)
def vadY (ty f : Int) (s : SpC) : SpC := (s.1, (zMs s, (zAt s, ty, f, ((zMs s).length : Int) - 1) :: zVs s), s.2.2)
def padY (ty : Int) (s : SpC) : SpC := (s.1, ((match zMs s with
  | [] => []
  | (a, b, l) :: r => (a, b, ty :: l) :: r), zVs s), s.2.2)
def dc1Y (h : Int) (s : SpC) : SpC := if codY s = 80 then (if h = 0 ∨ 60 ≤ (zVs s).length then raiY 3 s else s) else raiY 2 s
def dc2Y (ty f : Int) (s : SpC) : SpC := if zFt s = 0 then accY (vadY ty f s) else s
def dclY (ty f h : Int) (s : SpC) : SpC := dc2Y ty f (dc1Y h s)
def dcrY (h : Int) (s : SpC) : Int := if zFt (dc1Y h s) = 0 then (zVs s).length else -1
/-- a loop of exps with , between -/
def clpY (E : SpC → SpC) : Nat → SpC → SpC
  | 0, s => s
  | f + 1, s => if codY s = 5 then clpY E f (E (accY s)) else s
/-- a chain's loop -/
def chlY (O : SpC → SpC) : Nat → SpC → SpC
  | 0, s => s
  | f + 1, s => if 20 ≤ codY s ∧ codY s ≤ 38 then chlY O f (O (accY s)) else s
def cntY (s : SpC) : SpC := xpY 80 (accY s)
/-- one level of exps: E, C, I: an exp, a choice, an operand one deeper; m = 0: that is too deep -/
def ca2Y (m : Nat) (E : SpC → SpC) (s : SpC) : SpC := if m = 0 then raiY 3 s else if codY s = 1 then s else clpY E 501 (E s)
def calY (m : Nat) (E : SpC → SpC) (s : SpC) : SpC := xpY 1 (ca2Y m E (accY (accY s)))
def nmeY (m : Nat) (E : SpC → SpC) (s : SpC) : SpC := if cobY s = 0 then calY m E s else if cobY s = 41 ∨ cobY s = 42 then accY (accY s) else accY s
def alnY (I : SpC → SpC) (s : SpC) : SpC := I (accY s)
def op2Y (I E : SpC → SpC) (s : SpC) : SpC := if 50 ≤ codY s ∧ codY s ≤ 54 then I (xpY 1 (typY s)) else xpY 1 (E s)
def opnY (I E : SpC → SpC) (s : SpC) : SpC := op2Y I E (accY s)
def oprY (m : Nat) (E I : SpC → SpC) (s : SpC) : SpC :=
  if codY s = 34 ∨ codY s = 35 ∨ codY s = 39 ∨ codY s = 40 then alnY I s
  else if codY s = 41 ∨ codY s = 42 then cntY s
  else if codY s = 0 then opnY I E s
  else if codY s = 80 then nmeY m E s
  else if codY s = 81 ∨ codY s = 82 ∨ codY s = 83 ∨ codY s = 72 ∨ codY s = 73 then accY s
  else raiY 2 s
def chnY (O : SpC → SpC) (s : SpC) : SpC := chlY O 501 (O s)
def ch2Y (E C : SpC → SpC) (s : SpC) : SpC := if codY s = 7 then C (xpY 6 (E (accY s))) else s
def chcY (O E C : SpC → SpC) (s : SpC) : SpC := ch2Y E C (chnY O s)
def asgY (E : SpC → SpC) (s : SpC) : SpC := E (accY (accY s))
def xpsY (O E C : SpC → SpC) (s : SpC) : SpC := if codY s = 80 then (if 8 ≤ cobY s ∧ cobY s ≤ 19 then asgY E s else chcY O E C s) else chcY O E C s
/-- an exp, a choice, an operand at depth 21 - n -/
def lvY : Nat → (SpC → SpC) × (SpC → SpC) × (SpC → SpC)
  | 0 => (raiY 3, raiY 3, raiY 3)
  | n + 1 => (xpsY (oprY n (lvY n).1 (lvY n).2.2) (lvY n).1 (lvY n).2.1, chcY (oprY n (lvY n).1 (lvY n).2.2) (lvY n).1 (lvY n).2.1, oprY n (lvY n).1 (lvY n).2.2)
def eY (n : Nat) : SpC → SpC := (lvY n).1
def cY (n : Nat) : SpC → SpC := (lvY n).2.1
def oY (n : Nat) : SpC → SpC := (lvY n).2.2
def opY (n : Nat) (s : SpC) : SpC := oprY (n - 1) (eY (n - 1)) (oY (n - 1)) s
def chY (n : Nat) (s : SpC) : SpC := chcY (opY n) (eY (n - 1)) (cY (n - 1)) s
def exY (n : Nat) (s : SpC) : SpC := xpsY (opY n) (eY (n - 1)) (cY (n - 1)) s
theorem oY_s {n : Nat} (h : 1 ≤ n) : oY n = opY n := by sorry
theorem cY_s {n : Nat} (h : 1 ≤ n) : cY n = chY n := by sorry
theorem eY_s {n : Nat} (h : 1 ≤ n) : eY n = exY n := by sorry
/-- S's: St, Rw: an S, a row one deeper -/
def cndY (n : Nat) (s : SpC) : SpC := xpY 1 (eY n (xpY 0 s))
def xstY (n : Nat) (s : SpC) : SpC := xpY 4 (eY n s)
def va2Y (n : Nat) (f : Int) (s : SpC) : SpC := if f = 1 ∨ codY s = 8 then eY n (xpY 8 s) else s
def varY (n : Nat) (s : SpC) : SpC := if codY s = 71 then va2Y n 1 (dclY (tyvY (accY s)) 1 1 (typY (accY s))) else va2Y n 0 (dclY (tyvY s) 0 1 (typY s))
def fexY (n : Nat) (s : SpC) : SpC := clpY (eY n) 501 (eY n s)
def casY (n : Nat) (s : SpC) : SpC := if codY s = 62 then xpY 6 (eY n (accY s)) else xpY 6 (accY s)
def blkY (Rw : Int → SpC → SpC) (s : SpC) : SpC := xpY 3 (Rw 0 (xpY 2 s))
def si3Y (k : Int) (s : SpC) : SpC := if k = 66 then s else if k = 67 then s else if codY s = 80 then accY s else s
def si2Y (n : Nat) (k : Int) (s : SpC) : SpC := if k = 67 then eY n s else if k = 66 then (if codY s = 4 then s else eY n s) else s
def simY (n : Nat) (Rw : Int → SpC → SpC) (s : SpC) : SpC := if codY s = 2 then blkY Rw s else if codY s = 4 then accY s else xpY 4 (si3Y (codY s) (si2Y n (codY s) (accY s)))
def labY (St : SpC → SpC) (s : SpC) : SpC := St (xpY 6 (accY s))
def if2Y (St : SpC → SpC) (s : SpC) : SpC := if codY s = 57 then St (accY s) else s
def ifY (n : Nat) (St : SpC → SpC) (s : SpC) : SpC := if2Y St (St (cndY n (accY s)))
def whiY (n : Nat) (St : SpC → SpC) (s : SpC) : SpC := St (cndY n (accY s))
def doY (n : Nat) (St : SpC → SpC) (s : SpC) : SpC := xpY 4 (cndY n (xpY 58 (St (accY s))))
def fo1Y (n : Nat) (s : SpC) : SpC := if codY s = 71 ∨ (50 ≤ codY s ∧ codY s ≤ 54) then varY n s else if codY s = 4 then s else fexY n s
def fo2Y (n : Nat) (s : SpC) : SpC := if codY s = 4 then s else eY n s
def fo3Y (n : Nat) (s : SpC) : SpC := if codY s = 1 then s else fexY n s
def forY (n : Nat) (St : SpC → SpC) (s : SpC) : SpC := St (xpY 1 (fo3Y n (xpY 4 (fo2Y n (xpY 4 (fo1Y n (xpY 0 (accY s))))))))
def swiY (n : Nat) (Rw : Int → SpC → SpC) (s : SpC) : SpC := xpY 3 (Rw 1 (xpY 2 (cndY n (accY s))))
def tr1Y (s : SpC) : SpC := if codY s = 69 ∨ codY s = 70 then s else raiY 2 s
def tr2Y (Rw : Int → SpC → SpC) (s : SpC) : SpC := if codY s = 69 then blkY Rw (xpY 1 (dclY 3 0 1 (xpY 0 (accY s)))) else s
def tr3Y (Rw : Int → SpC → SpC) (s : SpC) : SpC := if codY s = 70 then blkY Rw (accY s) else s
def tryY (Rw : Int → SpC → SpC) (s : SpC) : SpC := tr3Y Rw (tr2Y Rw (tr1Y (blkY Rw (accY s))))
def smY (n : Nat) (St : SpC → SpC) (Rw : Int → SpC → SpC) (s : SpC) : SpC :=
  if codY s = 56 then ifY n St s
  else if codY s = 58 then whiY n St s
  else if codY s = 59 then doY n St s
  else if codY s = 60 then forY n St s
  else if codY s = 61 then swiY n Rw s
  else if codY s = 68 then tryY Rw s
  else if codY s = 2 ∨ codY s = 4 ∨ codY s = 64 ∨ codY s = 65 ∨ codY s = 66 ∨ codY s = 67 then simY n Rw s
  else if codY s = 80 then (if cobY s = 6 then labY St s else xstY n s)
  else xstY n s
def rp2Y (n : Nat) (S : SpC → SpC) (s : SpC) : SpC := if codY s = 71 ∨ (50 ≤ codY s ∧ codY s ≤ 54) then xpY 4 (varY n s) else S s
def rpaY (n : Nat) (S : SpC → SpC) (sw b : Int) (s : SpC) : SpC := if sw = 1 then (if codY s = 62 ∨ codY s = 63 then casY n s else if b = 1 then rp2Y n S (raiY 2 s) else rp2Y n S s) else rp2Y n S s
def rwlY (n : Nat) (S : SpC → SpC) (sw : Int) : Nat → Int → SpC → SpC
  | 0, _, s => s
  | f + 1, b, s => if zFt s = 0 then (if codY s = 3 then s else rwlY n S sw f 0 (rpaY n S sw b s)) else s
/-- an S, a row at depth 21 - n -/
def lsY : Nat → (SpC → SpC) × (Int → SpC → SpC)
  | 0 => (raiY 3, fun _ => raiY 3)
  | n + 1 => (smY (n + 1) (lsY n).1 (lsY n).2, fun sw s => rwlY (n + 1) (smY (n + 1) (lsY n).1 (lsY n).2) sw 501 1 s)
def stY (n : Nat) : SpC → SpC := (lsY n).1
def rwY (n : Nat) : Int → SpC → SpC := (lsY n).2
def stsY (n : Nat) (s : SpC) : SpC := smY n (stY (n - 1)) (rwY (n - 1)) s
theorem stY_s {n : Nat} (h : 1 ≤ n) : stY n = stsY n := by sorry
theorem rwY_s {n : Nat} (h : 1 ≤ n) (sw : Int) (s : SpC) : rwY n sw s = rwlY n (stY n) sw 501 1 s := by sorry
theorem eY_z {n : Nat} (h : n = 0) : eY n = raiY 3 := by sorry
theorem cY_z {n : Nat} (h : n = 0) : cY n = raiY 3 := by sorry
theorem oY_z {n : Nat} (h : n = 0) : oY n = raiY 3 := by sorry
theorem dpY_n {d : Int} {s : SpC} (h : ¬ 20 < d) : dpY d s = s := by sorry
theorem tkY_y {c : Int} {s : SpC} (h : codY s = c) : tkY c s = accY s := by sorry
theorem tkY_n {c : Int} {s : SpC} (h : ¬ codY s = c) : tkY c s = s := by sorry
theorem nzY {a b : Int} (f : a = b) (h : ¬ a = 0) : ¬ b = 0 := f ▸ h
theorem lgY {a : Int} {n k : Nat} (f : a = (n : Int)) (h : (k : Int) ≤ a) : k ≤ n := by sorry
theorem ngY {a : Int} {n k : Nat} (f : a = (n : Int)) (h : a < (k : Int)) : ¬ k ≤ n := by sorry
theorem neY {a b c d : Int} (f : a = b) (h : ¬ a = c) (e : c = d) : ¬ b = d := fun z => h (f.trans (z.trans e.symm))
theorem rgY {a b c d : Int} (f : a = b) (h : c ≤ a ∧ a ≤ d) : c ≤ b ∧ b ≤ d := f ▸ h
theorem nrY {a b c d : Int} (f : a = b) (h : ¬ (c ≤ a ∧ a ≤ d)) : ¬ (c ≤ b ∧ b ≤ d) := f ▸ h
/-- behind a fault nothing is read -/
theorem raiY_f {n : Int} {s : SpC} (h : ¬ zFt s = 0) : raiY n s = s := by sorry
theorem codY_f {s : SpC} (h : ¬ zFt s = 0) : codY s = -1 := by sorry
theorem cobY_f {s : SpC} (h : ¬ zFt s = 0) : cobY s = -1 := by sorry
theorem accY_f {s : SpC} (h : ¬ zFt s = 0) : accY s = s := by sorry
theorem xpY_f {c : Int} {s : SpC} (h : ¬ zFt s = 0) : xpY c s = s := by sorry
theorem raiY_z {n : Int} {s : SpC} (hn : ¬ n = 0) : ¬ zFt (raiY n s) = 0 := by sorry
theorem xst0 {s : SpC} : xstY 0 (raiY 3 s) = raiY 3 s := by sorry
theorem dpY_z {d : Int} {s : SpC} (h : 20 < d) : dpY d s = raiY 3 s := by sorry
theorem rwlY_f {n f : Nat} {S : SpC → SpC} {sw b : Int} {s : SpC} (h : ¬ zFt s = 0) : rwlY n S sw f b s = s := by sorry
theorem rwl0 {f : Nat} {sw b : Int} {s : SpC} : rwlY 0 (stY 0) sw f b (raiY 3 s) = rwY 0 sw s := rwlY_f (raiY_z (by decide))
/-- whether a row has begun -/
def fsY (o : Option Nat) : Int := match o with
  | none => 1
  | some _ => 0
/-- methods -/
def pa2Y (i : Nat) (ty f : Int) (s : SpC) : SpC := if i < 6 then padY ty (dclY ty f 1 s) else dclY ty f 0 s
def pa1Y (i : Nat) (s : SpC) : SpC := if codY s = 71 then pa2Y i (tyvY (accY s)) 1 (typY (accY s)) else pa2Y i (tyvY s) 0 (typY s)
def palY : Nat → Nat → SpC → SpC
  | 0, _, s => s
  | f + 1, i, s => if codY (pa1Y i s) = 5 then palY f (i + 1) (accY (pa1Y i s)) else pa1Y i s
def plY (m : Int) (f i : Nat) (s : SpC) : SpC := if m = 1 then palY f i s else s
def pa3Y (s : SpC) : SpC := if codY s = 1 then s else palY 7 0 s
def parY (s : SpC) : SpC := xpY 1 (pa3Y (xpY 0 s))
def me1Y (s : SpC) : SpC := if (50 ≤ codY s ∧ codY s ≤ 54) ∨ codY s = 55 then s else raiY 2 s
def me2Y (s : SpC) : SpC := if codY s = 80 then (if 10 ≤ (zMs s).length then raiY 3 s else s) else raiY 2 s
def me3Y (ty : Int) (s : SpC) : SpC := if zFt s = 0 then blkY (rwY 20) (parY (accY (metY ty s))) else s
def mthY (s : SpC) : SpC := me3Y (codY s - 50) (me2Y (accY (me1Y s)))
def prlY : Nat → SpC → SpC
  | 0, s => s
  | f + 1, s => if zFt s = 0 then (if codY s = 84 then s else prlY f (mthY s)) else s
/-- nothing is read yet -/
def Z0Y (s : SpC) : Prop := zAt s = 0 ∧ zFt s = 0 ∧ zMs s = [] ∧ zVs s = []
/-- sizes of some lists of methods and of variables that are not the reader's program's, by zL from 1000 on -/
def OuC (σ : CsC) (r : Nat) (s : SpC) : Prop := ∀ b : Nat, 0 ≤ zL s (1000 + b) → ((b < cnC σ ∧ tgC σ b = 0 ∧ (ghC σ b = 6 ∨ ghC σ b = 11)) ∧ ∀ q, fRC σ r 240 = some q → ¬ fRC σ q 211 = some b ∧ ¬ fRC σ q 212 = some b) ∧ (fIC σ b 2).toInt = zL s (1000 + b)
theorem OuC.x {M : List Nat} {σ τ : CsC} {r : Nat} {s s' : SpC} (e : OuC σ r s) (h : HI0 σ) (t : TyC σ r 8) (x : ExC M σ τ) (m0 : M.elem 240 = false) (m5 : M.elem 2 = false) (e3 : zL s' = zL s) : OuC τ r s' := by sorry
theorem OuC.ad {σ τ : CsC} {r a : Nat} {s s' : SpC} (e : OuC σ r s) (h : HI0 σ) (t : TyC σ r 8) (x : ExC [0, 1, 2, 999] σ τ) (hn : ∀ b, b ≠ a → fIC τ b 2 = fIC σ b 2) (ho : ∀ b, (ghC σ b = 6 ∨ ghC σ b = 11) → (∀ q, fRC σ r 240 = some q → ¬ fRC σ q 211 = some b ∧ ¬ fRC σ q 212 = some b) → b ≠ a) (e3 : zL s' = zL s) : OuC τ r s' := by sorry
theorem OuC.xt {a c : Nat} {M : List Nat} {σ τ : CsC} {r : Nat} {s : SpC} (e : OuC σ r s) (h : HI0 σ) (t : TyC σ r 8) (w : RawC σ a c) (x : ExT a M σ τ) (m0 : M.elem 240 = false) (m5 : M.elem 2 = false) : OuC τ r s := by sorry
/-- a variable's object -/
def VoC (σ : CsC) (o : Nat) (v : Int × Int × Int × Int) : Prop := (fIC σ o 330).toInt = v.1 ∧ (fIC σ o 331).toInt = v.2.1 ∧ (fIC σ o 332).toInt = v.2.2.1 ∧ (fIC σ o 333).toInt = v.2.2.2
/-- the variables of a list, the last one first -/
def VlC (σ : CsC) (a : Nat) : List (Int × Int × Int × Int) → Prop
  | [] => True
  | v :: l => (∃ o, elC σ a l.length = some o ∧ (o < cnC σ ∧ tgC σ o = 11) ∧ VoC σ o v) ∧ VlC σ a l
/-- variables' objects stay -/
def KvC (σ τ : CsC) : Prop := ∀ o, o < cnC σ → tgC σ o = 11 → (o < cnC τ ∧ tgC τ o = 11) ∧ ∀ v, VoC σ o v → VoC τ o v
theorem KvC.x {M : List Nat} {σ τ : CsC} (e : ExC M σ τ) : KvC σ τ := by sorry
theorem KvC.xt {a c : Nat} {M : List Nat} {σ τ : CsC} (w : RawC σ a c) (e : ExT a M σ τ) : KvC σ τ := by sorry
theorem VlC.fr {σ τ : CsC} {a : Nat} (k : KvC σ τ) : ∀ (l : List (Int × Int × Int × Int)), (∀ j : Nat, j < l.length → elC τ a j = elC σ a j) → VlC σ a l → VlC τ a l := by sorry
theorem el_x {M : List Nat} {σ τ : CsC} {a j : Nat} (h : HI0 σ) (t : TyC σ a 0) (e : ExC M σ τ) (m1 : M.elem 1 = false) (m2 : M.elem 2 = false) (hj : (j : Int) < (fIC σ a 2).toInt) : elC τ a j = elC σ a j := by sorry
theorem el_xt {b c : Nat} {M : List Nat} {σ τ : CsC} {a j : Nat} (h : HI0 σ) (t : TyC σ a 0) (w : RawC σ b c) (e : ExT b M σ τ) (m1 : M.elem 1 = false) (m2 : M.elem 2 = false) (hj : (j : Int) < (fIC σ a 2).toInt) : elC τ a j = elC σ a j := by sorry
/-- variables of lists that are not the reader's program's -/
def OvC (σ : CsC) (r : Nat) (s : SpC) : Prop := ∀ (b : Nat) (l : List (Int × Int × Int × Int)), zO s b = some l → ((b < cnC σ ∧ tgC σ b = 0 ∧ ghC σ b = 11) ∧ ∀ q, fRC σ r 240 = some q → ¬ fRC σ q 212 = some b) ∧ (fIC σ b 2).toInt = l.length ∧ VlC σ b l
/-- variables of the reader's program -/
def VcC (σ : CsC) (r : Nat) (s : SpC) : Prop := ∀ q, fRC σ r 240 = some q → ∀ a, fRC σ q 212 = some a → VlC σ a (zVs s)
theorem OvC.x {M : List Nat} {σ τ : CsC} {r : Nat} {s s' : SpC} (e : OvC σ r s) (h : HI0 σ) (t : TyC σ r 8) (x : ExC M σ τ) (m0 : M.elem 240 = false) (m1 : M.elem 1 = false) (m5 : M.elem 2 = false) (e3 : zO s' = zO s) : OvC τ r s' := by sorry
theorem OvC.ad {σ τ : CsC} {r a o : Nat} {s s' : SpC} (e : OvC σ r s) (h : HI0 σ) (t : TyC σ r 8) (x : ExC [0, 1, 2, 999] σ τ) (hn : ∀ b, b ≠ a → fIC τ b 2 = fIC σ b 2) (ae : AeC a o σ τ) (ho : ∀ b, ghC σ b = 11 → (∀ q, fRC σ r 240 = some q → ¬ fRC σ q 212 = some b) → b ≠ a) (e3 : zO s' = zO s) : OvC τ r s' := by sorry
theorem OvC.xt {a c : Nat} {M : List Nat} {σ τ : CsC} {r : Nat} {s : SpC} (e : OvC σ r s) (h : HI0 σ) (t : TyC σ r 8) (w : RawC σ a c) (x : ExT a M σ τ) (m0 : M.elem 240 = false) (m1 : M.elem 1 = false) (m5 : M.elem 2 = false) : OvC τ r s := by sorry
/-- how a heap with a reader shows it -/
def RbC (σ : CsC) (r : Nat) (s : SpC) : Prop := ((fIC σ r 242).toInt = zAt s ∧ (fIC σ r 243).toInt = zFt s ∧ (¬ zFt s = 0 → (fIC σ r 244).toInt = zPl s)) ∧
  (∀ q, fRC σ r 240 = some q → (∀ a, fRC σ q 211 = some a → (fIC σ a 2).toInt = (zMs s).length) ∧ (∀ a, fRC σ q 212 = some a → (fIC σ a 2).toInt = (zVs s).length)) ∧
  (∀ t, fRC σ r 241 = some t → (∀ c, fRC σ t 302 = some c → ∀ j, (eIC σ c j).toInt = zK s j) ∧ (∀ c, fRC σ t 300 = some c → ∀ j, j < 900 → (eIC σ c j).toInt = zL s j)) ∧
  OuC σ r s ∧ VcC σ r s ∧ OvC σ r s
theorem RbC.ini3 {σ : CsC} {r q t : Nat} (F : Nat → Int) (V : Nat → Option (List (Int × Int × Int × Int))) (h : HI0 σ) (t8 : TyC σ r 8) (e2 : (fIC σ r 242).toInt = 0) (e3 : (fIC σ r 243).toInt = 0) (hq : fRC σ r 240 = some q) (ht : fRC σ r 241 = some t) (hz : ∀ k, [211, 212, 213, 214].elem k = true → ∀ a, fRC σ q k = some a → (fIC σ a 2).toInt = 0)
    (hF : ∀ b, 0 ≤ F b → ((b < cnC σ ∧ tgC σ b = 0 ∧ (ghC σ b = 6 ∨ ghC σ b = 11)) ∧ (¬ fRC σ q 211 = some b ∧ ¬ fRC σ q 212 = some b)) ∧ (fIC σ b 2).toInt = F b) 
    (Pm : Nat → Option (List (Int × Int × List Int))) (N : Nat) (Fm : List (Nat × Nat)) (hV : ∀ b l, V b = some l → ((b < cnC σ ∧ tgC σ b = 0 ∧ ghC σ b = 11) ∧ ¬ fRC σ q 212 = some b) ∧ (fIC σ b 2).toInt = l.length ∧ VlC σ b l) : ∃ s, Z0Y s ∧ RbC σ r s ∧ (∀ b, zL s (1000 + b) = F b) ∧ zO s = V ∧ zP s = Pm ∧ zN s = N ∧ zF s = Fm := by sorry
theorem RbC.eq {σ : CsC} {r : Nat} {s s' : SpC} (h : RbC σ r s) (e : s' = s) : RbC σ r s' := by sorry
theorem RbC.ft {σ : CsC} {r : Nat} {s : SpC} {y : Int32} (h : RbC σ r s) (e : fIC σ r 243 = y) : y.toInt = zFt s := by sorry
theorem RbC.at_ {σ : CsC} {r : Nat} {s : SpC} {y : Int32} (h : RbC σ r s) (e : fIC σ r 242 = y) : y.toInt = zAt s := by sorry
theorem k_isub_w {ct : CcC} {K : CkC} {Z : Option AvC → CsC → Prop} {is : List RI} {pc d b : Nat} {q : Int} {cs : List (Int × Nat)} {ls : ClC} {st : List AvC} {σ : CsC} {x y : Int32} (h : ∀ z : Int32, (-2147483648 ≤ x.toInt - y.toInt → x.toInt - y.toInt ≤ 2147483647 → z.toInt = x.toInt - y.toInt) → cwpC ct K Z is (pc + 1) ls (.inl z :: st) σ) : cwpC ct K Z ((.isub, d, q, b, cs) :: is) pc ls (.inl y :: .inl x :: st) σ := h _ (fun h1 h2 => subC rfl h1 h2)
theorem nT_toNat (x : Int32) : x.toNatClampNeg = x.toInt.toNat := rfl
theorem CkC2.rb {σ : CsC} {r : Nat} {s : SpC} (h : HI0 σ) (t : TyC σ r 8) (e : RbC σ r s) : CkC2 σ r = codY s := by sorry
/-- what reading leaves alone -/
theorem RbC.x {M : List Nat} {σ τ : CsC} {r : Nat} {s : SpC} (e : RbC σ r s) (h : HI0 σ) (t : TyC σ r 8) (x : ExC M σ τ) (hm : M.elem 240 = false ∧ M.elem 241 = false ∧ M.elem 242 = false ∧ M.elem 243 = false ∧ M.elem 244 = false ∧ M.elem 2 = false ∧ M.elem 998 = false ∧ M.elem 1 = false) : RbC τ r s := by sorry
/-- a list grows -/
theorem RbC.ad {σ τ : CsC} {r a : Nat} {s s' : SpC} (e : RbC σ r s) (h : HI0 σ) (t : TyC σ r 8) (x : ExC [0, 1, 2, 999] σ τ) (hn : ∀ b, b ≠ a → fIC τ b 2 = fIC σ b 2) (e1 : s'.1 = s.1) (e3 : s'.2.2 = s.2.2) (ho : ∀ b, (ghC σ b = 6 ∨ ghC σ b = 11) → (∀ q, fRC σ r 240 = some q → ¬ fRC σ q 211 = some b ∧ ¬ fRC σ q 212 = some b) → b ≠ a) (ho2 : ∀ b, ghC σ b = 11 → (∀ q, fRC σ r 240 = some q → ¬ fRC σ q 212 = some b) → b ≠ a) {o : Nat} (ae : AeC a o σ τ) (hv : ∀ q, fRC σ r 240 = some q → ∀ b, fRC σ q 212 = some b → VlC τ b (zVs s'))
    (hm : ∀ q, fRC σ r 240 = some q → (∀ b, fRC σ q 211 = some b → (b ≠ a → (zMs s').length = (zMs s).length) ∧ (b = a → (fIC τ a 2).toInt = (zMs s').length)) ∧ (∀ b, fRC σ q 212 = some b → (b ≠ a → (zVs s').length = (zVs s).length) ∧ (b = a → (fIC τ a 2).toInt = (zVs s').length))) : RbC τ r s' := by sorry
theorem lsg211 {σ : CsC} {q b : Nat} (h : HI0 σ) (t : TyC σ q 7) (e : fRC σ q 211 = some b) : ghC σ b = 6 := by sorry
theorem lsg212 {σ : CsC} {q b : Nat} (h : HI0 σ) (t : TyC σ q 7) (e : fRC σ q 212 = some b) : ghC σ b = 11 := by sorry
theorem prg8 {σ : CsC} {r q : Nat} (h : HI0 σ) (t : TyC σ r 8) (e : fRC σ r 240 = some q) : TyC σ q 7 := by sorry
theorem RbC.vl {σ τ : CsC} {r a o : Nat} {s : SpC} (e : RbC σ r s) (h : HI0 σ) (t : TyC σ r 8) (x : ExC [0, 1, 2, 999] σ τ) (ae : AeC a o σ τ) (hn : ∀ q, fRC σ r 240 = some q → ¬ fRC σ q 212 = some a) : ∀ q, fRC σ r 240 = some q → ∀ b, fRC σ q 212 = some b → VlC τ b (zVs s) := by sorry
/-- exps, S's -/
theorem RbC.ad0 {σ τ : CsC} {r a : Nat} {s : SpC} (e : RbC σ r s) (h : HI0 σ) (t : TyC σ r 8) (x : ExC [0, 1, 2, 999] σ τ) (hn : ∀ b, b ≠ a → fIC τ b 2 = fIC σ b 2) (hg : ghC σ a ≠ 6 ∧ ghC σ a ≠ 11) {o : Nat} (ae : AeC a o σ τ) : RbC τ r s := by sorry
theorem RbC.adm {σ τ : CsC} {r a q : Nat} {s : SpC} {ty : Int} (e : RbC σ r s) (h : HI0 σ) (t : TyC σ r 8) (x : ExC [0, 1, 2, 999] σ τ) (hn : ∀ b, b ≠ a → fIC τ b 2 = fIC σ b 2) (hp : (fIC τ a 2).toInt = (fIC σ a 2).toInt + 1) (hq : fRC σ r 240 = some q) (ha : fRC σ q 211 = some a) {o : Nat} (ae : AeC a o σ τ) : RbC τ r (metY ty s) := by sorry
theorem RbC.adv {σ τ : CsC} {r a q : Nat} {s : SpC} {ty f : Int} (e : RbC σ r s) (h : HI0 σ) (t : TyC σ r 8) (x : ExC [0, 1, 2, 999] σ τ) (hn : ∀ b, b ≠ a → fIC τ b 2 = fIC σ b 2) (hp : (fIC τ a 2).toInt = (fIC σ a 2).toInt + 1) (hq : fRC σ r 240 = some q) (ha : fRC σ q 212 = some a) {o : Nat} (ae : AeC a o σ τ) (to : TyC σ o 11) (hv : VoC σ o (zAt s, ty, f, ((zMs s).length : Int) - 1)) : RbC τ r (vadY ty f s) := by sorry
theorem RbC.pad {σ : CsC} {r : Nat} {s : SpC} {ty : Int} (e : RbC σ r s) : RbC σ r (padY ty s) := by sorry
theorem RbC.nm {σ : CsC} {r q a : Nat} {s : SpC} {y : Int32} (e : RbC σ r s) (hq : fRC σ r 240 = some q) (ha : fRC σ q 211 = some a) (hy : fIC σ a 2 = y) : y.toInt = (zMs s).length := by sorry
theorem RbC.nv {σ : CsC} {r q a : Nat} {s : SpC} {y : Int32} (e : RbC σ r s) (hq : fRC σ r 240 = some q) (ha : fRC σ q 212 = some a) (hy : fIC σ a 2 = y) : y.toInt = (zVs s).length := by sorry
/-- as RbC.x, but for at, fault, place -/
theorem RbC.x3 {M : List Nat} {σ τ : CsC} {r : Nat} {s s' : SpC} (e : RbC σ r s) (h : HI0 σ) (t : TyC σ r 8) (x : ExC M σ τ) (hm : M.elem 240 = false ∧ M.elem 241 = false ∧ M.elem 2 = false ∧ M.elem 998 = false ∧ M.elem 1 = false) (e2 : s'.2 = s.2) (e1 : (fIC τ r 242).toInt = zAt s' ∧ (fIC τ r 243).toInt = zFt s' ∧ (¬ zFt s' = 0 → (fIC τ r 244).toInt = zPl s')) : RbC τ r s' := by sorry
/-- an object under construction -/
theorem RbC.xt {a c : Nat} {M : List Nat} {σ τ : CsC} {r : Nat} {s : SpC} (e : RbC σ r s) (h : HI0 σ) (t : TyC σ r 8) (w : RawC σ a c) (x : ExT a M σ τ) (hm : M.elem 240 = false ∧ M.elem 241 = false ∧ M.elem 242 = false ∧ M.elem 243 = false ∧ M.elem 244 = false ∧ M.elem 2 = false ∧ M.elem 998 = false ∧ M.elem 1 = false) : RbC τ r s := by sorry
/-! methods -/
/-- types of params, the last one first -/
def PtC (σ : CsC) (r : Nat) : List Int → Prop
  | [] => True
  | x :: l => (eIC σ r l.length).toInt = x ∧ PtC σ r l
theorem PtC.fr {σ τ : CsC} {r : Nat} : ∀ l : List Int, (∀ j, j < l.length → eIC τ r j = eIC σ r j) → PtC σ r l → PtC τ r l := by sorry
def MoC (σ : CsC) (o r : Nat) (m : Int × Int × List Int) : Prop := ((fIC σ o 180).toInt = m.1 ∧ (fIC σ o 182).toInt = m.2.1 ∧ (fIC σ o 185).toInt = m.2.2.length) ∧ PtC σ r m.2.2
/-- the methods of a list, the last one first: objects and rows not below lo, below hi -/
def MlC (σ : CsC) (a lo hi : Nat) : List (Int × Int × List Int) → Prop
  | [] => True
  | m :: l => (∃ o r, (elC σ a l.length = some o ∧ fRC σ o 183 = some r) ∧ ((o < cnC σ ∧ tgC σ o = 6) ∧ (r < cnC σ ∧ tgC σ r = 100 ∧ ghC σ r = 7)) ∧ (lo ≤ o ∧ o < r ∧ r < hi) ∧ MoC σ o r m) ∧ MlC σ a lo hi l
def KmC (lo hi : Nat) (σ τ : CsC) : Prop := cnC σ ≤ cnC τ ∧ (∀ o, o < cnC σ → tgC σ o = 6 → lo ≤ o → o < hi → tgC τ o = 6 ∧ fRC τ o 183 = fRC σ o 183 ∧ fIC τ o 180 = fIC σ o 180 ∧ fIC τ o 182 = fIC σ o 182 ∧ fIC τ o 185 = fIC σ o 185) ∧ (∀ r, r < cnC σ → tgC σ r = 100 → ghC σ r = 7 → lo ≤ r → r < hi → tgC τ r = 100 ∧ ghC τ r = 7 ∧ eIC τ r = eIC σ r)
theorem KmC.x {lo hi : Nat} {M : List Nat} {σ τ : CsC} (e : ExC M σ τ) (m : M.elem 185 = false ∧ M.elem 995 = false) : KmC lo hi σ τ := by sorry
theorem KmC.xt {lo hi a c : Nat} {M : List Nat} {σ τ : CsC} (w : RawC σ a c) (e : ExT a M σ τ) (m : M.elem 185 = false ∧ M.elem 995 = false) : KmC lo hi σ τ := by sorry
theorem MlC.fr {σ τ : CsC} {a lo hi : Nat} (k : KmC lo hi σ τ) : ∀ l : List (Int × Int × List Int), (∀ j : Nat, j < l.length → elC τ a j = elC σ a j) → MlC σ a lo hi l → MlC τ a lo hi l := by sorry
theorem MlC.hi {σ : CsC} {a lo hi hi' : Nat} (h : hi ≤ hi') : ∀ l : List (Int × Int × List Int), MlC σ a lo hi l → MlC σ a lo hi' l := by sorry
/-- where the first n methods stand: below B -/
def AdrC (σ : CsC) (a B n : Nat) : Prop := ∀ j, j < n → ∃ o r, (elC σ a j = some o ∧ fRC σ o 183 = some r) ∧ (o < cnC σ ∧ tgC σ o = 6) ∧ o < B ∧ r < B
theorem MlC.ad {σ : CsC} {a lo hi : Nat} : ∀ l : List (Int × Int × List Int), MlC σ a lo hi l → AdrC σ a hi l.length := by sorry
theorem MlC.bd {σ : CsC} {a lo hi B : Nat} : ∀ l : List (Int × Int × List Int), AdrC σ a B l.length → MlC σ a lo hi l → MlC σ a lo B l := by sorry
theorem AdrC.fr {σ τ : CsC} {a B n : Nat} (h : AdrC σ a B n) (he : ∀ j : Nat, j < n → elC τ a j = elC σ a j) (k : ∀ o, o < cnC σ → tgC σ o = 6 → (o < cnC τ ∧ tgC τ o = 6) ∧ fRC τ o 183 = fRC σ o 183) : AdrC τ a B n := by sorry
theorem k183 {M : List Nat} {σ τ : CsC} (e : ExC M σ τ) : ∀ o, o < cnC σ → tgC σ o = 6 → (o < cnC τ ∧ tgC τ o = 6) ∧ fRC τ o 183 = fRC σ o 183 := by sorry
theorem k183t {a c : Nat} {M : List Nat} {σ τ : CsC} (w : RawC σ a c) (e : ExT a M σ τ) : ∀ o, o < cnC σ → tgC σ o = 6 → (o < cnC τ ∧ tgC τ o = 6) ∧ fRC τ o 183 = fRC σ o 183 := by sorry
/-- methods of lists that are not the reader's program's -/
def OmC (σ : CsC) (r : Nat) (s : SpC) : Prop := ∀ (b : Nat) (l : List (Int × Int × List Int)), zP s b = some l → ((b < cnC σ ∧ tgC σ b = 0 ∧ ghC σ b = 6) ∧ ∀ q, fRC σ r 240 = some q → ¬ fRC σ q 211 = some b) ∧ (fIC σ b 2).toInt = l.length ∧ MlC σ b 0 (zN s) l
/-- methods of the reader's program -/
def McC (σ : CsC) (r : Nat) (s : SpC) : Prop := ∀ q, fRC σ r 240 = some q → ∀ a, fRC σ q 211 = some a → MlC σ a (zN s) (cnC σ) (zMs s) ∧ ∀ n o, (n, o) ∈ zF s → n < (zMs s).length ∧ elC σ a n = some o ∧ AdrC σ a o n
def RqC (σ : CsC) (r : Nat) (s : SpC) : Prop := zN s ≤ cnC σ ∧ McC σ r s ∧ OmC σ r s
theorem OmC.of {σ τ : CsC} {r : Nat} {s s' : SpC} (e : OmC σ r s) (h : HI0 σ) (t : TyC σ r 8) (hc : cnC σ ≤ cnC τ) (k : KmC 0 (zN s) σ τ) (hb : ∀ b, b < cnC σ → tgC σ b = 0 → ghC σ b = 6 → (∀ q, fRC σ r 240 = some q → ¬ fRC σ q 211 = some b) → (tgC τ b = 0 ∧ ghC τ b = 6) ∧ fIC τ b 2 = fIC σ b 2 ∧ ∀ j : Nat, (j : Int) < (fIC σ b 2).toInt → elC τ b j = elC σ b j) (hq : ∀ q, fRC τ r 240 = some q → fRC σ r 240 = some q ∧ fRC τ q 211 = fRC σ q 211) (e2 : s'.2.2 = s.2.2) : OmC τ r s' := by sorry
theorem McC.of {σ τ : CsC} {r : Nat} {s s' : SpC} (b : RbC σ r s) (e : McC σ r s) (hc : cnC σ ≤ cnC τ) (k : KmC (zN s) (cnC σ) σ τ) (k3 : ∀ o, o < cnC σ → tgC σ o = 6 → (o < cnC τ ∧ tgC τ o = 6) ∧ fRC τ o 183 = fRC σ o 183) (hb : ∀ q a, fRC σ r 240 = some q → fRC σ q 211 = some a → ∀ j : Nat, (j : Int) < (fIC σ a 2).toInt → elC τ a j = elC σ a j) (hq : ∀ q, fRC τ r 240 = some q → fRC σ r 240 = some q ∧ fRC τ q 211 = fRC σ q 211) (e1 : zMs s' = zMs s) (e2 : s'.2.2 = s.2.2) : McC τ r s' := by sorry
theorem q240 {M : List Nat} {σ τ : CsC} {r : Nat} (h : HI0 σ) (t : TyC σ r 8) (x : ExC M σ τ) (m0 : M.elem 240 = false) : ∀ q, fRC τ r 240 = some q → fRC σ r 240 = some q ∧ fRC τ q 211 = fRC σ q 211 := by sorry
theorem q240t {a c : Nat} {M : List Nat} {σ τ : CsC} {r : Nat} (h : HI0 σ) (t : TyC σ r 8) (w : RawC σ a c) (x : ExT a M σ τ) (m0 : M.elem 240 = false) : ∀ q, fRC τ r 240 = some q → fRC σ r 240 = some q ∧ fRC τ q 211 = fRC σ q 211 := by sorry
theorem ls11 {σ : CsC} {r q a : Nat} (h : HI0 σ) (t : TyC σ r 8) (hq : fRC σ r 240 = some q) (ha : fRC σ q 211 = some a) : TyC σ a 0 := by sorry
theorem RqC.x {M : List Nat} {σ τ : CsC} {r : Nat} {s s' : SpC} (b : RbC σ r s) (e : RqC σ r s) (h : HI0 σ) (t : TyC σ r 8) (x : ExC M σ τ) (hm : M.elem 240 = false ∧ M.elem 1 = false ∧ M.elem 2 = false ∧ M.elem 185 = false ∧ M.elem 995 = false) (e2 : s'.2 = s.2) : RqC τ r s' := by sorry
theorem RqC.xt {a c : Nat} {M : List Nat} {σ τ : CsC} {r : Nat} {s : SpC} (b : RbC σ r s) (e : RqC σ r s) (h : HI0 σ) (t : TyC σ r 8) (w : RawC σ a c) (x : ExT a M σ τ) (hm : M.elem 240 = false ∧ M.elem 1 = false ∧ M.elem 2 = false ∧ M.elem 185 = false ∧ M.elem 995 = false) : RqC τ r s := by sorry
/-- another list grows -/
theorem RqC.ad {σ τ : CsC} {r a o : Nat} {s s' : SpC} (b : RbC σ r s) (e : RqC σ r s) (h : HI0 σ) (t : TyC σ r 8) (x : ExC [0, 1, 2, 999] σ τ) (hn : ∀ b, b ≠ a → fIC τ b 2 = fIC σ b 2) (ae : AeC a o σ τ) (hg : ghC σ a ≠ 6) (e1 : zMs s' = zMs s) (e3 : s'.2.2 = s.2.2) : RqC τ r s' := by sorry
/-- a method comes -/
theorem RqC.adm {σ τ : CsC} {r a q o : Nat} {s : SpC} {ty : Int} (b : RbC σ r s) (e : RqC σ r s) (h : HI0 σ) (t : TyC σ r 8) (x : ExC [0, 1, 2, 999] σ τ) (hn : ∀ b, b ≠ a → fIC τ b 2 = fIC σ b 2) (hq : fRC σ r 240 = some q) (ha : fRC σ q 211 = some a) (ae : AeC a o σ τ) (to : TyC σ o 6) (hN : zN s ≤ o) (hr : ∀ rr, fRC σ o 183 = some rr → o < rr) (hm : (fIC σ o 180).toInt = zAt s ∧ (fIC σ o 182).toInt = ty ∧ (fIC σ o 185).toInt = 0) : RqC τ r (metY ty s) := by sorry
/-- the last method is o -/
def TpY (o : Nat) (s : SpC) : Prop := ∃ n, n + 1 = (zMs s).length ∧ (n, o) ∈ zF s
/-- a param comes -/
theorem RqC.pad {σ τ : CsC} {r o : Nat} {s : SpC} {v : Int32} (b : RbC σ r s) (e : RqC σ r s) (h : HI0 σ) (t : TyC σ r 8) (x : ExC [185, 995] σ τ) (hT : TpY o s) (a1 : (fIC τ o 185).toInt = (fIC σ o 185).toInt + 1) (a2 : ∀ b, b ≠ o → fIC τ b 185 = fIC σ b 185) (a3 : ∀ rr, fRC σ o 183 = some rr → eIC τ rr = upd (eIC σ rr) (fIC σ o 185).toNatClampNeg v) (a4 : ∀ rr, fRC σ o 183 = some rr → ∀ b, b ≠ rr → eIC τ b = eIC σ b) : RqC τ r (padY v.toInt s) := by sorry
/-! both -/
/-- how a heap with a reader shows it -/
def ReC (σ : CsC) (r : Nat) (s : SpC) : Prop := RbC σ r s ∧ RqC σ r s
theorem ReC.ini3 {σ : CsC} {r q t : Nat} (F : Nat → Int) (V : Nat → Option (List (Int × Int × Int × Int))) (Pm : Nat → Option (List (Int × Int × List Int))) (N : Nat) (h : HI0 σ) (t8 : TyC σ r 8) (e2 : (fIC σ r 242).toInt = 0) (e3 : (fIC σ r 243).toInt = 0) (hq : fRC σ r 240 = some q) (ht : fRC σ r 241 = some t) (hz : ∀ k, [211, 212, 213, 214].elem k = true → ∀ a, fRC σ q k = some a → (fIC σ a 2).toInt = 0)
    (hF : ∀ b, 0 ≤ F b → ((b < cnC σ ∧ tgC σ b = 0 ∧ (ghC σ b = 6 ∨ ghC σ b = 11)) ∧ (¬ fRC σ q 211 = some b ∧ ¬ fRC σ q 212 = some b)) ∧ (fIC σ b 2).toInt = F b)
    (hV : ∀ b l, V b = some l → ((b < cnC σ ∧ tgC σ b = 0 ∧ ghC σ b = 11) ∧ ¬ fRC σ q 212 = some b) ∧ (fIC σ b 2).toInt = l.length ∧ VlC σ b l)
    (hN : N ≤ cnC σ) (hP : ∀ b l, Pm b = some l → ((b < cnC σ ∧ tgC σ b = 0 ∧ ghC σ b = 6) ∧ ¬ fRC σ q 211 = some b) ∧ (fIC σ b 2).toInt = l.length ∧ MlC σ b 0 N l) : ∃ s, Z0Y s ∧ ReC σ r s ∧ (∀ b, zL s (1000 + b) = F b) ∧ zO s = V ∧ zP s = Pm := by sorry
theorem ReC.ini {σ : CsC} {r q t : Nat} (h : HI0 σ) (t8 : TyC σ r 8) (e2 : (fIC σ r 242).toInt = 0) (e3 : (fIC σ r 243).toInt = 0) (hq : fRC σ r 240 = some q) (ht : fRC σ r 241 = some t) (hz : ∀ k, [211, 212, 213, 214].elem k = true → ∀ a, fRC σ q k = some a → (fIC σ a 2).toInt = 0) : ∃ s, Z0Y s ∧ ReC σ r s := by sorry
theorem ReC.eq {σ : CsC} {r : Nat} {s s' : SpC} (h : ReC σ r s) (e : s' = s) : ReC σ r s' := by sorry
theorem ReC.ft {σ : CsC} {r : Nat} {s : SpC} {y : Int32} (h : ReC σ r s) (e : fIC σ r 243 = y) : y.toInt = zFt s := h.1.ft e
theorem ReC.at_ {σ : CsC} {r : Nat} {s : SpC} {y : Int32} (h : ReC σ r s) (e : fIC σ r 242 = y) : y.toInt = zAt s := h.1.at_ e
theorem ReC.nm {σ : CsC} {r q a : Nat} {s : SpC} {y : Int32} (e : ReC σ r s) (hq : fRC σ r 240 = some q) (ha : fRC σ q 211 = some a) (hy : fIC σ a 2 = y) : y.toInt = (zMs s).length := e.1.nm hq ha hy
theorem ReC.nv {σ : CsC} {r q a : Nat} {s : SpC} {y : Int32} (e : ReC σ r s) (hq : fRC σ r 240 = some q) (ha : fRC σ q 212 = some a) (hy : fIC σ a 2 = y) : y.toInt = (zVs s).length := e.1.nv hq ha hy
theorem CkC2.re {σ : CsC} {r : Nat} {s : SpC} (h : HI0 σ) (t : TyC σ r 8) (e : ReC σ r s) : CkC2 σ r = codY s := CkC2.rb h t e.1
theorem ReC.x {M : List Nat} {σ τ : CsC} {r : Nat} {s : SpC} (e : ReC σ r s) (h : HI0 σ) (t : TyC σ r 8) (x : ExC M σ τ) (hm : (M.elem 240 = false ∧ M.elem 241 = false ∧ M.elem 242 = false ∧ M.elem 243 = false ∧ M.elem 244 = false ∧ M.elem 2 = false ∧ M.elem 998 = false ∧ M.elem 1 = false) ∧ M.elem 185 = false ∧ M.elem 995 = false) : ReC τ r s := by sorry
theorem ReC.xt {a c : Nat} {M : List Nat} {σ τ : CsC} {r : Nat} {s : SpC} (e : ReC σ r s) (h : HI0 σ) (t : TyC σ r 8) (w : RawC σ a c) (x : ExT a M σ τ) (hm : (M.elem 240 = false ∧ M.elem 241 = false ∧ M.elem 242 = false ∧ M.elem 243 = false ∧ M.elem 244 = false ∧ M.elem 2 = false ∧ M.elem 998 = false ∧ M.elem 1 = false) ∧ M.elem 185 = false ∧ M.elem 995 = false) : ReC τ r s := by sorry
theorem ReC.x3 {M : List Nat} {σ τ : CsC} {r : Nat} {s s' : SpC} (e : ReC σ r s) (h : HI0 σ) (t : TyC σ r 8) (x : ExC M σ τ) (hm : (M.elem 240 = false ∧ M.elem 241 = false ∧ M.elem 2 = false ∧ M.elem 998 = false ∧ M.elem 1 = false) ∧ M.elem 185 = false ∧ M.elem 995 = false) (e2 : s'.2 = s.2) (e1 : (fIC τ r 242).toInt = zAt s' ∧ (fIC τ r 243).toInt = zFt s' ∧ (¬ zFt s' = 0 → (fIC τ r 244).toInt = zPl s')) : ReC τ r s' := by sorry
theorem ReC.ad0 {σ τ : CsC} {r a : Nat} {s : SpC} (e : ReC σ r s) (h : HI0 σ) (t : TyC σ r 8) (x : ExC [0, 1, 2, 999] σ τ) (hn : ∀ b, b ≠ a → fIC τ b 2 = fIC σ b 2) (hg : ghC σ a ≠ 6 ∧ ghC σ a ≠ 11) {o : Nat} (ae : AeC a o σ τ) : ReC τ r s := by sorry
theorem ReC.adv {σ τ : CsC} {r a q : Nat} {s : SpC} {ty f : Int} (e : ReC σ r s) (h : HI0 σ) (t : TyC σ r 8) (x : ExC [0, 1, 2, 999] σ τ) (hn : ∀ b, b ≠ a → fIC τ b 2 = fIC σ b 2) (hp : (fIC τ a 2).toInt = (fIC σ a 2).toInt + 1) (hq : fRC σ r 240 = some q) (ha : fRC σ q 212 = some a) {o : Nat} (ae : AeC a o σ τ) (to : TyC σ o 11) (hv : VoC σ o (zAt s, ty, f, ((zMs s).length : Int) - 1)) : ReC τ r (vadY ty f s) := by sorry
theorem ReC.adm {σ τ : CsC} {r a q : Nat} {s : SpC} {ty : Int} (e : ReC σ r s) (h : HI0 σ) (t : TyC σ r 8) (x : ExC [0, 1, 2, 999] σ τ) (hn : ∀ b, b ≠ a → fIC τ b 2 = fIC σ b 2) (hp : (fIC τ a 2).toInt = (fIC σ a 2).toInt + 1) (hq : fRC σ r 240 = some q) (ha : fRC σ q 211 = some a) {o : Nat} (ae : AeC a o σ τ) (to : TyC σ o 6) (hN : zN s ≤ o) (hr : ∀ rr, fRC σ o 183 = some rr → o < rr) (hm : (fIC σ o 180).toInt = zAt s ∧ (fIC σ o 182).toInt = ty ∧ (fIC σ o 185).toInt = 0) : ReC τ r (metY ty s) := by sorry
theorem ReC.pad {σ τ : CsC} {r o : Nat} {s : SpC} {v : Int32} (e : ReC σ r s) (h : HI0 σ) (t : TyC σ r 8) (x : ExC [185, 995] σ τ) (hT : TpY o s) (a1 : (fIC τ o 185).toInt = (fIC σ o 185).toInt + 1) (a2 : ∀ b, b ≠ o → fIC τ b 185 = fIC σ b 185) (a3 : ∀ rr, fRC σ o 183 = some rr → eIC τ rr = upd (eIC σ rr) (fIC σ o 185).toNatClampNeg v) (a4 : ∀ rr, fRC σ o 183 = some rr → ∀ b, b ≠ rr → eIC τ b = eIC σ b) : ReC τ r (padY v.toInt s) := by sorry
/-! facts of methods' places -/
def wxY (F : List (Nat × Nat)) (s : SpC) : SpC := (s.1, s.2.1, s.2.2.1, (zL s, zO s, zP s, zN s, F))
theorem ReC.dr {F : List (Nat × Nat)} {σ : CsC} {r : Nat} {s : SpC} (e : ReC σ r (wxY F s)) (hF : ∀ x, x ∈ zF s → x ∈ F) : ReC σ r s := by sorry
theorem ReC.wx {σ : CsC} {r n o : Nat} {s : SpC} (e : ReC σ r s) (hf : ∀ q, fRC σ r 240 = some q → ∀ a, fRC σ q 211 = some a → n < (zMs s).length ∧ elC σ a n = some o ∧ AdrC σ a o n) : ReC σ r (wxY ((n, o) :: zF s) s) := by sorry
/-- the first n methods stand below B -/
def RaC (σ : CsC) (r B n : Nat) : Prop := ∀ q, fRC σ r 240 = some q → ∀ a, fRC σ q 211 = some a → AdrC σ a B n
def RbE (σ : CsC) (r o n : Nat) : Prop := ∀ q, fRC σ r 240 = some q → ∀ a, fRC σ q 211 = some a → elC σ a n = some o
theorem ReC.ra {σ : CsC} {r : Nat} {s : SpC} (e : ReC σ r s) : RaC σ r (cnC σ) (zMs s).length := fun q hq a ha => MlC.ad _ (e.2.2.1 q hq a ha).1
theorem RaC.of {σ τ : CsC} {r B n : Nat} (w : RaC σ r B n) (hb : ∀ q a, fRC σ r 240 = some q → fRC σ q 211 = some a → ∀ j : Nat, j < n → elC τ a j = elC σ a j) (k3 : ∀ o, o < cnC σ → tgC σ o = 6 → (o < cnC τ ∧ tgC τ o = 6) ∧ fRC τ o 183 = fRC σ o 183) (hq : ∀ q, fRC τ r 240 = some q → fRC σ r 240 = some q ∧ fRC τ q 211 = fRC σ q 211) : RaC τ r B n := by sorry
theorem RaC.x {M : List Nat} {σ τ : CsC} {r B n : Nat} {s : SpC} (w : RaC σ r B n) (e : ReC σ r s) (hn : n ≤ (zMs s).length) (h : HI0 σ) (t : TyC σ r 8) (x : ExC M σ τ) (m : M.elem 240 = false ∧ M.elem 1 = false ∧ M.elem 2 = false) : RaC τ r B n := by sorry
theorem RaC.xt {a c : Nat} {M : List Nat} {σ τ : CsC} {r B n : Nat} {s : SpC} (w : RaC σ r B n) (e : ReC σ r s) (hn : n ≤ (zMs s).length) (h : HI0 σ) (t : TyC σ r 8) (rw_ : RawC σ a c) (x : ExT a M σ τ) (m : M.elem 240 = false ∧ M.elem 1 = false ∧ M.elem 2 = false) : RaC τ r B n := by sorry
theorem RaC.ad {σ τ : CsC} {r B n a o : Nat} {s : SpC} (w : RaC σ r B n) (e : ReC σ r s) (hn : n = (zMs s).length) (h : HI0 σ) (t : TyC σ r 8) (x : ExC [0, 1, 2, 999] σ τ) (ae : AeC a o σ τ) {q : Nat} (hq : fRC σ r 240 = some q) (ha : fRC σ q 211 = some a) : RaC τ r B n ∧ RbE τ r o n := by sorry
theorem RbE.x {M : List Nat} {σ τ : CsC} {r o n : Nat} {s : SpC} (w : RbE σ r o n) (e : ReC σ r s) (hn : n < (zMs s).length) (h : HI0 σ) (t : TyC σ r 8) (x : ExC M σ τ) (m : M.elem 240 = false ∧ M.elem 1 = false ∧ M.elem 2 = false) : RbE τ r o n := by sorry
/-! cutting a text into tokens, as a function -/
/-- bytes (0 .. 255), length -/
abbrev TxY : Type := (Nat → Int) × Int
def btY (x : TxY) (i : Int) : Int := if 0 ≤ i ∧ i < x.2 then x.1 i.toNat else -1
def okY (x : TxY) : Prop := (∀ j, 0 ≤ x.1 j ∧ x.1 j ≤ 255) ∧ 0 ≤ x.2 ∧ x.2 ≤ 2500
/-- behind blanks and remarks; r = 1: in a remark -/
def bbY (x : TxY) : Nat → Int → Int → Int
  | 0, _, _ => x.2
  | f + 1, i, r => if btY x i = 10 then bbY x f (i + 1) 0
       else if r = 0 ∧ btY x i = 47 ∧ btY x (i + 1) = 47 then bbY x f (i + 1) 1
       else if r = 0 ∧ ¬ btY x i = 32 ∧ ¬ btY x i = 9 ∧ ¬ btY x i = 13 then i
       else bbY x f (i + 1) r
def skY (x : TxY) (i : Int) : Int := bbY x (x.2 - i).toNat i 0
abbrev isLY (c : Int) : Prop := (97 ≤ c ∧ c ≤ 122) ∨ (65 ≤ c ∧ c ≤ 90)
abbrev isDY (c : Int) : Prop := 48 ≤ c ∧ c ≤ 57
/-- a NAME's end and its bytes, newest first -/
def nmY (x : TxY) : Nat → Int → List Int → Int × List Int
  | 0, e, l => (e, l)
  | f + 1, e, l => if isLY (btY x e) ∨ isDY (btY x e) then nmY x f (e + 1) (btY x e :: l) else (e, l)
/-- the end of a NUMBER's digits -/
def ndY (x : TxY) : Nat → Int → Int
  | 0, e => e
  | f + 1, e => if isDY (btY x e) then ndY x f (e + 1) else e
def wcY (l : List Int) : Int := if l = [110, 97, 101, 108, 111, 111, 98] then 50 else if l = [101, 116, 121, 98] then 51 else if l = [114, 97, 104, 99] then 52 else if l = [116, 110, 105] then 53 else if l = [103, 110, 111, 108] then 54 else if l = [100, 105, 111, 118] then 55 else if l = [102, 105] then 56 else if l = [101, 115, 108, 101] then 57 else if l = [101, 108, 105, 104, 119] then 58 else if l = [111, 100] then 59 else if l = [114, 111, 102] then 60 else if l = [104, 99, 116, 105, 119, 115] then 61 else if l = [101, 115, 97, 99] then 62 else if l = [116, 108, 117, 97, 102, 101, 100] then 63 else if l = [107, 97, 101, 114, 98] then 64 else if l = [101, 117, 110, 105, 116, 110, 111, 99] then 65 else if l = [110, 114, 117, 116, 101, 114] then 66 else if l = [119, 111, 114, 104, 116] then 67 else if l = [121, 114, 116] then 68 else if l = [104, 99, 116, 97, 99] then 69 else if l = [121, 108, 108, 97, 110, 105, 102] then 70 else if l = [108, 97, 110, 105, 102] then 71 else if l = [101, 117, 114, 116] then 72 else if l = [101, 115, 108, 97, 102] then 73 else 80
def sg1Y (b : Int) : Int × Int := if b = 40 then (1, 0) else if b = 41 then (1, 1) else if b = 123 then (1, 2) else if b = 125 then (1, 3) else if b = 59 then (1, 4) else if b = 44 then (1, 5) else if b = 58 then (1, 6) else if b = 63 then (1, 7) else if b = 61 then (1, 8) else if b = 124 then (1, 22) else if b = 94 then (1, 23) else if b = 38 then (1, 24) else if b = 60 then (1, 27) else if b = 62 then (1, 29) else if b = 43 then (1, 34) else if b = 45 then (1, 35) else if b = 42 then (1, 36) else if b = 47 then (1, 37) else if b = 37 then (1, 38) else if b = 33 then (1, 39) else if b = 126 then (1, 40) else (0, 85)
def sgnY (b c d e : Int) : Int × Int :=
  if b = 62 ∧ c = 62 ∧ d = 62 then (if e = 61 then (4, 19) else (3, 33))
  else if b = 62 ∧ c = 62 then (if d = 61 then (3, 18) else (2, 32))
  else if b = 60 ∧ c = 60 then (if d = 61 then (3, 17) else (2, 31))
  else if b = 38 ∧ c = 38 then (2, 21)
  else if b = 124 ∧ c = 124 then (2, 20)
  else if b = 43 ∧ c = 43 then (2, 41)
  else if b = 45 ∧ c = 45 then (2, 42)
  else if c = 61 ∧ b = 61 then (2, 25)
  else if c = 61 ∧ b = 33 then (2, 26)
  else if c = 61 ∧ b = 60 then (2, 28)
  else if c = 61 ∧ b = 62 then (2, 30)
  else if c = 61 ∧ b = 43 then (2, 9)
  else if c = 61 ∧ b = 45 then (2, 10)
  else if c = 61 ∧ b = 42 then (2, 11)
  else if c = 61 ∧ b = 47 then (2, 12)
  else if c = 61 ∧ b = 37 then (2, 13)
  else if c = 61 ∧ b = 38 then (2, 14)
  else if c = 61 ∧ b = 124 then (2, 15)
  else if c = 61 ∧ b = 94 then (2, 16)
  else sg1Y b
/-- how many bytes a token has (0: none, or it is not whole), its code -/
def oneY (x : TxY) (i : Int) : Int × Int :=
  if isLY (btY x i) then (if 10 < (nmY x (x.2 - i).toNat i []).1 - i then (0, 85) else ((nmY x (x.2 - i).toNat i []).1 - i, wcY (nmY x (x.2 - i).toNat i []).2))
  else if isDY (btY x i) then (if 19 < ndY x (x.2 - i).toNat i - i then (0, 85) else if btY x (ndY x (x.2 - i).toNat i) = 76 then (ndY x (x.2 - i).toNat i + 1 - i, 82) else (ndY x (x.2 - i).toNat i - i, 81))
  else if btY x i = 39 then (if 32 ≤ btY x (i + 1) ∧ btY x (i + 1) ≤ 126 ∧ ¬ btY x (i + 1) = 39 ∧ ¬ btY x (i + 1) = 92 ∧ btY x (i + 2) = 39 then (3, 83) else (0, 85))
  else sgnY (btY x i) (btY x (i + 1)) (btY x (i + 2)) (btY x (i + 3))
/-- where the k-th token begins -/
def atY (x : TxY) : Nat → Int
  | 0 => skY x 0
  | k + 1 => skY x (atY x k + (oneY x (atY x k)).1)
theorem bt_in {x : TxY} {i : Int} (h0 : 0 ≤ i) (h : i < x.2) : btY x i = x.1 i.toNat := by sorry
theorem bt_out {x : TxY} {i : Int} (h : ¬ i < x.2) : btY x i = -1 := by sorry
theorem fu_s {x : TxY} {i : Int} (h : i < x.2) : (x.2 - i).toNat = (x.2 - (i + 1)).toNat + 1 := by sorry
theorem fu_z {x : TxY} {i : Int} (h : ¬ i < x.2) : (x.2 - i).toNat = 0 := by sorry
theorem bb_le {x : TxY} : ∀ (f : Nat) (i r : Int), i + f = x.2 → i ≤ bbY x f i r ∧ bbY x f i r ≤ x.2 := by sorry
theorem sk_le {x : TxY} {i : Int} (h : i ≤ x.2) : i ≤ skY x i ∧ skY x i ≤ x.2 := bb_le _ _ _ (by omega)
theorem nm_le {x : TxY} : ∀ (f : Nat) (e : Int) (l : List Int), e + f = x.2 → e ≤ (nmY x f e l).1 ∧ (nmY x f e l).1 ≤ x.2 ∧ (nmY x f e l).1 - e = (nmY x f e l).2.length - l.length := by sorry
theorem nd_le {x : TxY} : ∀ (f : Nat) (e : Int), e + f = x.2 → e ≤ ndY x f e ∧ ndY x f e ≤ x.2 := by sorry
/-- a number by its digits, newest first -/
def vlY (B : Int) : List Int → Int
  | [] => 0
  | d :: l => B * vlY B l + d
theorem vl_pos {B : Int} (hB : 1 < B) : ∀ l : List Int, (∀ d ∈ l, 1 ≤ d ∧ d < B) → 0 ≤ vlY B l := by sorry
theorem vl_inj {B : Int} (hB : 1 < B) : ∀ l m : List Int, (∀ d ∈ l, 1 ≤ d ∧ d < B) → (∀ d ∈ m, 1 ≤ d ∧ d < B) → vlY B l = vlY B m → l = m := by sorry
theorem ite_L {p : Prop} [Decidable p] {α : Type} {P : α → Prop} {a b : α} (ha : p → P a) (hb : P b) : P (if p then a else b) := by sorry
theorem ite_H {p : Prop} [Decidable p] {α : Type} {P : α → Prop} {a b : α} (ha : p → P a) (hb : ¬ p → P b) : P (if p then a else b) := by sorry
def nxY (x : TxY) : Nat → Int
  | 0 => 0
  | k + 1 => atY x k + (oneY x (atY x k)).1
theorem at_nx {x : TxY} : ∀ k, atY x k = skY x (nxY x k) := by sorry
theorem sg1_le {b : Int} : (sg1Y b).1 = 0 ∨ (sg1Y b).1 = 1 := by sorry
theorem one_le {x : TxY} {i : Int} (h0 : 0 ≤ i) (h : i < x.2) : 0 ≤ (oneY x i).1 ∧ i + (oneY x i).1 ≤ x.2 := by sorry
abbrev P_X11_has : CpC := fun As σ => ∃ (p0 : Int64) (p1 : Int32), As = [.inr (.inl p0), .inl p1] ∧ HIC σ
abbrev Q_X11_has : CqC := fun As σ w τ => match As with
  | [.inr (.inl p0), .inl p1] => ∃ r : Int32, w = some (.inl r) ∧ σ = τ ∧ 0 ≤ r.toInt ∧ r.toInt ≤ 1
  | _ => False
set_option maxRecDepth 100000 in
set_option maxHeartbeats 4000000 in
theorem b_X11_has : TbC KX11_has [] P_X11_has Q_X11_has := by sorry
theorem lg_X11_has : ∀ (As : List AvC) (σ : CsC), P_X11_has As σ → lgC As ≤ rX11_has.2.2.1 := by sorry
theorem m_X11_has (l : Launch) : CMetC l 1 221 P_X11_has Q_X11_has := by sorry
abbrev P_X11_bit : CpC := fun As σ => ∃ (p0 : Int32), As = [.inl p0] ∧ HIC σ
abbrev Q_X11_bit : CqC := fun As σ w τ => match As with
  | [.inl p0] => ∃ r : Int64, w = some (.inr (.inl r)) ∧ σ = τ
  | _ => False
set_option maxRecDepth 100000 in
set_option maxHeartbeats 4000000 in
theorem b_X11_bit : TbC KX11_bit [] P_X11_bit Q_X11_bit := by sorry
theorem lg_X11_bit : ∀ (As : List AvC) (σ : CsC), P_X11_bit As σ → lgC As ≤ rX11_bit.2.2.1 := by sorry
theorem m_X11_bit (l : Launch) : CMetC l 1 222 P_X11_bit Q_X11_bit := by sorry
abbrev P_X11_isNumber : CpC := fun As σ => ∃ (p0 : Int32), As = [.inl p0] ∧ HIC σ
abbrev Q_X11_isNumber : CqC := fun As σ w τ => match As with
  | [.inl p0] => ∃ r : Int32, w = some (.inl r) ∧ σ = τ ∧ 0 ≤ r.toInt ∧ r.toInt ≤ 1
  | _ => False
set_option maxRecDepth 100000 in
set_option maxHeartbeats 4000000 in
theorem b_X11_isNumber : TbC KX11_isNumber [] P_X11_isNumber Q_X11_isNumber := by sorry
theorem lg_X11_isNumber : ∀ (As : List AvC) (σ : CsC), P_X11_isNumber As σ → lgC As ≤ rX11_isNumber.2.2.1 := by sorry
theorem m_X11_isNumber (l : Launch) : CMetC l 1 223 P_X11_isNumber Q_X11_isNumber := by sorry
abbrev P_X11_sameOrWidens : CpC := fun As σ => ∃ (p0 : Int32) (p1 : Int32), As = [.inl p0, .inl p1] ∧ HIC σ
abbrev Q_X11_sameOrWidens : CqC := fun As σ w τ => match As with
  | [.inl p0, .inl p1] => ∃ r : Int32, w = some (.inl r) ∧ σ = τ ∧ 0 ≤ r.toInt ∧ r.toInt ≤ 1
  | _ => False
set_option maxRecDepth 100000 in
set_option maxHeartbeats 4000000 in
theorem b_X11_sameOrWidens : TbC KX11_sameOrWidens [] P_X11_sameOrWidens Q_X11_sameOrWidens := by sorry
theorem lg_X11_sameOrWidens : ∀ (As : List AvC) (σ : CsC), P_X11_sameOrWidens As σ → lgC As ≤ rX11_sameOrWidens.2.2.1 := by sorry
theorem m_X11_sameOrWidens (l : Launch) : CMetC l 1 224 P_X11_sameOrWidens Q_X11_sameOrWidens := by sorry
abbrev P_X11_isDivision : CpC := fun As σ => ∃ (p0 : Int32), As = [.inl p0] ∧ HIC σ
abbrev Q_X11_isDivision : CqC := fun As σ w τ => match As with
  | [.inl p0] => ∃ r : Int32, w = some (.inl r) ∧ σ = τ ∧ 0 ≤ r.toInt ∧ r.toInt ≤ 1
  | _ => False
set_option maxRecDepth 100000 in
set_option maxHeartbeats 4000000 in
theorem b_X11_isDivision : TbC KX11_isDivision [] P_X11_isDivision Q_X11_isDivision := by sorry
theorem lg_X11_isDivision : ∀ (As : List AvC) (σ : CsC), P_X11_isDivision As σ → lgC As ≤ rX11_isDivision.2.2.1 := by sorry
theorem m_X11_isDivision (l : Launch) : CMetC l 1 227 P_X11_isDivision Q_X11_isDivision := by sorry
abbrev P_X11_narrowed : CpC := fun As σ => ∃ (p0 : Int32) (p1 : Int64), As = [.inl p0, .inr (.inl p1)] ∧ HIC σ
abbrev Q_X11_narrowed : CqC := fun As σ w τ => match As with
  | [.inl p0, .inr (.inl p1)] => ∃ r : Int64, w = some (.inr (.inl r)) ∧ σ = τ
  | _ => False
set_option maxRecDepth 100000 in
set_option maxHeartbeats 4000000 in
theorem b_X11_narrowed : TbC KX11_narrowed [] P_X11_narrowed Q_X11_narrowed := by sorry
theorem lg_X11_narrowed : ∀ (As : List AvC) (σ : CsC), P_X11_narrowed As σ → lgC As ≤ rX11_narrowed.2.2.1 := by sorry
theorem m_X11_narrowed (l : Launch) : CMetC l 1 228 P_X11_narrowed Q_X11_narrowed := by sorry
abbrev P_X11_compared : CpC := fun As σ => ∃ (p0 : Int32) (p1 : Int64) (p2 : Int64), As = [.inl p0, .inr (.inl p1), .inr (.inl p2)] ∧ HIC σ
abbrev Q_X11_compared : CqC := fun As σ w τ => match As with
  | [.inl p0, .inr (.inl p1), .inr (.inl p2)] => ∃ r : Int32, w = some (.inl r) ∧ σ = τ ∧ 0 ≤ r.toInt ∧ r.toInt ≤ 1
  | _ => False
set_option maxRecDepth 100000 in
set_option maxHeartbeats 4000000 in
theorem b_X11_compared : TbC KX11_compared [] P_X11_compared Q_X11_compared := by sorry
theorem lg_X11_compared : ∀ (As : List AvC) (σ : CsC), P_X11_compared As σ → lgC As ≤ rX11_compared.2.2.1 := by sorry
theorem m_X11_compared (l : Launch) : CMetC l 1 231 P_X11_compared Q_X11_compared := by sorry
abbrev P_X11_shifted : CpC := fun As σ => ∃ (p0 : Int32) (p1 : Int32) (p2 : Int64) (p3 : Int64), As = [.inl p0, .inl p1, .inr (.inl p2), .inr (.inl p3)] ∧ HIC σ
abbrev Q_X11_shifted : CqC := fun As σ w τ => match As with
  | [.inl p0, .inl p1, .inr (.inl p2), .inr (.inl p3)] => ∃ r : Int64, w = some (.inr (.inl r)) ∧ σ = τ
  | _ => False
set_option maxRecDepth 100000 in
set_option maxHeartbeats 4000000 in
theorem b_X11_shifted : TbC KX11_shifted [] P_X11_shifted Q_X11_shifted := by sorry
theorem lg_X11_shifted : ∀ (As : List AvC) (σ : CsC), P_X11_shifted As σ → lgC As ≤ rX11_shifted.2.2.1 := by sorry
theorem m_X11_shifted (l : Launch) : CMetC l 1 230 P_X11_shifted Q_X11_shifted := by sorry
abbrev P_X11_worked : CpC := fun As σ => ∃ (p0 : Int32) (p1 : Int32) (p2 : Int64) (p3 : Int64), As = [.inl p0, .inl p1, .inr (.inl p2), .inr (.inl p3)] ∧ HIC σ
abbrev Q_X11_worked : CqC := fun As σ w τ => match As with
  | [.inl p0, .inl p1, .inr (.inl p2), .inr (.inl p3)] => ∃ r : Int64, w = some (.inr (.inl r)) ∧ σ = τ
  | _ => False
set_option maxRecDepth 100000 in
set_option maxHeartbeats 4000000 in
theorem b_X11_worked : TbC KX11_worked [(231, P_X11_compared, Q_X11_compared), (230, P_X11_shifted, Q_X11_shifted), (228, P_X11_narrowed, Q_X11_narrowed)] P_X11_worked Q_X11_worked := by sorry
theorem lg_X11_worked : ∀ (As : List AvC) (σ : CsC), P_X11_worked As σ → lgC As ≤ rX11_worked.2.2.1 := by sorry
theorem m_X11_worked (l : Launch) : CMetC l 2 229 P_X11_worked Q_X11_worked := by sorry
abbrev P_X11_workedAlone : CpC := fun As σ => ∃ (p0 : Int32) (p1 : Int32) (p2 : Int64), As = [.inl p0, .inl p1, .inr (.inl p2)] ∧ HIC σ
abbrev Q_X11_workedAlone : CqC := fun As σ w τ => match As with
  | [.inl p0, .inl p1, .inr (.inl p2)] => ∃ r : Int64, w = some (.inr (.inl r)) ∧ σ = τ
  | _ => False
set_option maxRecDepth 100000 in
set_option maxHeartbeats 4000000 in
theorem b_X11_workedAlone : TbC KX11_workedAlone [(228, P_X11_narrowed, Q_X11_narrowed)] P_X11_workedAlone Q_X11_workedAlone := by sorry
theorem lg_X11_workedAlone : ∀ (As : List AvC) (σ : CsC), P_X11_workedAlone As σ → lgC As ≤ rX11_workedAlone.2.2.1 := by sorry
theorem m_X11_workedAlone (l : Launch) : CMetC l 2 232 P_X11_workedAlone Q_X11_workedAlone := by sorry
abbrev P_X1_acts : CpC := fun As σ => ∃ (p0 : Nat), As = [.inr (.inr (some p0))] ∧ HIC σ ∧ TyC σ p0 2
abbrev Q_X1_acts : CqC := fun As σ w τ => match As with
  | [.inr (.inr (some p0))] => ∃ r : Int32, w = some (.inl r) ∧ σ = τ ∧ 0 ≤ r.toInt ∧ r.toInt ≤ 1
  | _ => False
set_option maxRecDepth 100000 in
set_option maxHeartbeats 4000000 in
theorem b_X1_acts : TbC KX1_acts [] P_X1_acts Q_X1_acts := by sorry
theorem lg_X1_acts : ∀ (As : List AvC) (σ : CsC), P_X1_acts As σ → lgC As ≤ rX1_acts.2.2.1 := by sorry
theorem m_X1_acts (l : Launch) : CMetC l 1 18 P_X1_acts Q_X1_acts := by sorry
abbrev P_X8_isLoop : CpC := fun As σ => ∃ (p0 : Nat), As = [.inr (.inr (some p0))] ∧ HIC σ ∧ TyC σ p0 9
abbrev Q_X8_isLoop : CqC := fun As σ w τ => match As with
  | [.inr (.inr (some p0))] => ∃ r : Int32, w = some (.inl r) ∧ σ = τ ∧ 0 ≤ r.toInt ∧ r.toInt ≤ 1
  | _ => False
set_option maxRecDepth 100000 in
set_option maxHeartbeats 4000000 in
theorem b_X8_isLoop : TbC KX8_isLoop [] P_X8_isLoop Q_X8_isLoop := by sorry
theorem lg_X8_isLoop : ∀ (As : List AvC) (σ : CsC), P_X8_isLoop As σ → lgC As ≤ rX8_isLoop.2.2.1 := by sorry
theorem m_X8_isLoop (l : Launch) : CMetC l 1 179 P_X8_isLoop Q_X8_isLoop := by sorry
abbrev P_X8_isPart : CpC := fun As σ => ∃ (p0 : Nat), As = [.inr (.inr (some p0))] ∧ HIC σ ∧ TyC σ p0 9
abbrev Q_X8_isPart : CqC := fun As σ w τ => match As with
  | [.inr (.inr (some p0))] => ∃ r : Int32, w = some (.inl r) ∧ σ = τ ∧ 0 ≤ r.toInt ∧ r.toInt ≤ 1
  | _ => False
set_option maxRecDepth 100000 in
set_option maxHeartbeats 4000000 in
theorem b_X8_isPart : TbC KX8_isPart [] P_X8_isPart Q_X8_isPart := by sorry
theorem lg_X8_isPart : ∀ (As : List AvC) (σ : CsC), P_X8_isPart As σ → lgC As ≤ rX8_isPart.2.2.1 := by sorry
theorem m_X8_isPart (l : Launch) : CMetC l 1 180 P_X8_isPart Q_X8_isPart := by sorry
abbrev P_X8_isAlways : CpC := fun As σ => ∃ (p0 : Nat) (p1 : Int32), As = [.inr (.inr (some p0)), .inl p1] ∧ HIC σ ∧ TyC σ p0 9
abbrev Q_X8_isAlways : CqC := fun As σ w τ => match As with
  | [.inr (.inr (some p0)), .inl p1] => ∃ r : Int32, w = some (.inl r) ∧ σ = τ ∧ 0 ≤ r.toInt ∧ r.toInt ≤ 1
  | _ => False
set_option maxRecDepth 100000 in
set_option maxHeartbeats 4000000 in
theorem b_X8_isAlways : TbC KX8_isAlways [] P_X8_isAlways Q_X8_isAlways := by sorry
theorem lg_X8_isAlways : ∀ (As : List AvC) (σ : CsC), P_X8_isAlways As σ → lgC As ≤ rX8_isAlways.2.2.1 := by sorry
theorem m_X8_isAlways (l : Launch) : CMetC l 1 183 P_X8_isAlways Q_X8_isAlways := by sorry
abbrev P_X8_hasFinallyAhead : CpC := fun As σ => ∃ (p0 : Nat), As = [.inr (.inr (some p0))] ∧ HIC σ ∧ TyC σ p0 9
abbrev Q_X8_hasFinallyAhead : CqC := fun As σ w τ => match As with
  | [.inr (.inr (some p0))] => ∃ r : Int32, w = some (.inl r) ∧ σ = τ ∧ 0 ≤ r.toInt ∧ r.toInt ≤ 1 ∧ (r.toInt = 1 → ∃ b, fRC σ p0 273 = some b ∧ ∃ c, fRC σ b 278 = some c)
  | _ => False
set_option maxRecDepth 100000 in
set_option maxHeartbeats 4000000 in
theorem b_X8_hasFinallyAhead : TbC KX8_hasFinallyAhead [] P_X8_hasFinallyAhead Q_X8_hasFinallyAhead := by sorry
theorem lg_X8_hasFinallyAhead : ∀ (As : List AvC) (σ : CsC), P_X8_hasFinallyAhead As σ → lgC As ≤ rX8_hasFinallyAhead.2.2.1 := by sorry
theorem m_X8_hasFinallyAhead (l : Launch) : CMetC l 1 181 P_X8_hasFinallyAhead Q_X8_hasFinallyAhead := by sorry
abbrev P_X8_isCaught : CpC := fun As σ => ∃ (p0 : Nat), As = [.inr (.inr (some p0))] ∧ HIC σ ∧ TyC σ p0 9
abbrev Q_X8_isCaught : CqC := fun As σ w τ => match As with
  | [.inr (.inr (some p0))] => ∃ r : Int32, w = some (.inl r) ∧ σ = τ ∧ 0 ≤ r.toInt ∧ r.toInt ≤ 1 ∧ (r.toInt = 1 → ∃ b, fRC σ p0 273 = some b ∧ ∃ c, fRC σ b 277 = some c)
  | _ => False
set_option maxRecDepth 100000 in
set_option maxHeartbeats 4000000 in
theorem b_X8_isCaught : TbC KX8_isCaught [] P_X8_isCaught Q_X8_isCaught := by sorry
theorem lg_X8_isCaught : ∀ (As : List AvC) (σ : CsC), P_X8_isCaught As σ → lgC As ≤ rX8_isCaught.2.2.1 := by sorry
theorem m_X8_isCaught (l : Launch) : CMetC l 1 182 P_X8_isCaught Q_X8_isCaught := by sorry
abbrev P_X5_addParam : CpC := fun As σ => ∃ (p0 : Nat) (p1 : Int32), As = [.inr (.inr (some p0)), .inl p1] ∧ HIC σ ∧ TyC σ p0 6
abbrev Q_X5_addParam : CqC := fun As σ w τ => match As with
  | [.inr (.inr (some p0)), .inl p1] => w = none ∧ HIC τ ∧ ExC [185, 995] σ τ ∧ (((fIC σ p0 185).toInt < 6 → (fIC τ p0 185).toInt = (fIC σ p0 185).toInt + 1)) ∧ ((¬ (fIC σ p0 185).toInt < 6 → (fIC τ p0 185).toInt = (fIC σ p0 185).toInt)) ∧ ((∀ b, b ≠ p0 → fIC τ b 185 = fIC σ b 185)) ∧ (((fIC σ p0 185).toInt < 6 → ∀ r, fRC σ p0 183 = some r → eIC τ r = upd (eIC σ r) (fIC σ p0 185).toNatClampNeg p1)) ∧ ((∀ r, fRC σ p0 183 = some r → ∀ b, b ≠ r → eIC τ b = eIC σ b)) ∧ ((¬ (fIC σ p0 185).toInt < 6 → σ = τ))
  | _ => False
set_option maxRecDepth 100000 in
set_option maxHeartbeats 4000000 in
theorem b_X5_addParam : TbC KX5_addParam [] P_X5_addParam Q_X5_addParam := by sorry
theorem lg_X5_addParam : ∀ (As : List AvC) (σ : CsC), P_X5_addParam As σ → lgC As ≤ rX5_addParam.2.2.1 := by sorry
theorem m_X5_addParam (l : Launch) : CMetC l 1 112 P_X5_addParam Q_X5_addParam := by sorry
abbrev P_X5_hasSameParams : CpC := fun As σ => ∃ (p0 : Nat) (p1 : Nat), As = [.inr (.inr (some p0)), .inr (.inr (some p1))] ∧ HIC σ ∧ TyC σ p0 6 ∧ TyC σ p1 6
abbrev Q_X5_hasSameParams : CqC := fun As σ w τ => match As with
  | [.inr (.inr (some p0)), .inr (.inr (some p1))] => ∃ r : Int32, w = some (.inl r) ∧ σ = τ ∧ 0 ≤ r.toInt ∧ r.toInt ≤ 1
  | _ => False
set_option maxRecDepth 100000 in
set_option maxHeartbeats 4000000 in
theorem b_X5_hasSameParams : TbC KX5_hasSameParams [] P_X5_hasSameParams Q_X5_hasSameParams := by sorry
theorem lg_X5_hasSameParams : ∀ (As : List AvC) (σ : CsC), P_X5_hasSameParams As σ → lgC As ≤ rX5_hasSameParams.2.2.1 := by sorry
theorem m_X5_hasSameParams (l : Launch) : CMetC l 1 113 P_X5_hasSameParams Q_X5_hasSameParams := by sorry
abbrev P_X5_isAsNarrowAs : CpC := fun As σ => ∃ (p0 : Nat) (p1 : Nat), As = [.inr (.inr (some p0)), .inr (.inr (some p1))] ∧ HIC σ ∧ TyC σ p0 6 ∧ TyC σ p1 6
abbrev Q_X5_isAsNarrowAs : CqC := fun As σ w τ => match As with
  | [.inr (.inr (some p0)), .inr (.inr (some p1))] => ∃ r : Int32, w = some (.inl r) ∧ σ = τ ∧ 0 ≤ r.toInt ∧ r.toInt ≤ 1
  | _ => False
set_option maxRecDepth 100000 in
set_option maxHeartbeats 4000000 in
theorem b_X5_isAsNarrowAs : TbC KX5_isAsNarrowAs [(224, P_X11_sameOrWidens, Q_X11_sameOrWidens)] P_X5_isAsNarrowAs Q_X5_isAsNarrowAs := by sorry
theorem lg_X5_isAsNarrowAs : ∀ (As : List AvC) (σ : CsC), P_X5_isAsNarrowAs As σ → lgC As ≤ rX5_isAsNarrowAs.2.2.1 := by sorry
theorem m_X5_isAsNarrowAs (l : Launch) : CMetC l 2 114 P_X5_isAsNarrowAs Q_X5_isAsNarrowAs := by sorry
abbrev P_X5_takes : CpC := fun As σ => ∃ (p0 : Nat) (p1 : Int64) (p2 : Int32) (p3 : Option Nat), As = [.inr (.inr (some p0)), .inr (.inl p1), .inl p2, .inr (.inr p3)] ∧ HIC σ ∧ TyC σ p0 6 ∧ OtC σ p3 2
abbrev Q_X5_takes : CqC := fun As σ w τ => match As with
  | [.inr (.inr (some p0)), .inr (.inl p1), .inl p2, .inr (.inr p3)] => ∃ r : Int32, w = some (.inl r) ∧ σ = τ ∧ 0 ≤ r.toInt ∧ r.toInt ≤ 1
  | _ => False
set_option maxRecDepth 100000 in
set_option maxHeartbeats 4000000 in
theorem b_X5_takes : TbC KX5_takes [(224, P_X11_sameOrWidens, Q_X11_sameOrWidens)] P_X5_takes Q_X5_takes := by sorry
theorem lg_X5_takes : ∀ (As : List AvC) (σ : CsC), P_X5_takes As σ → lgC As ≤ rX5_takes.2.2.1 := by sorry
theorem m_X5_takes (l : Launch) : CMetC l 2 115 P_X5_takes Q_X5_takes := by sorry
abbrev P_X6_clear : CpC := fun As σ => ∃ (p0 : Nat), As = [.inr (.inr (some p0))] ∧ HIC σ ∧ TyC σ p0 7
abbrev Q_X6_clear : CqC := fun As σ w τ => match As with
  | [.inr (.inr (some p0))] => w = none ∧ HIC τ ∧ ExC [0, 2, 217, 218] σ τ ∧ (∀ k, [211, 212, 213, 214].elem k = true → ∀ a, fRC τ p0 k = some a → (fIC τ a 2).toInt ≤ 0)
  | _ => False
set_option maxRecDepth 100000 in
set_option maxHeartbeats 4000000 in
theorem b_X6_clear : TbC KX6_clear [(237, P_Jx4a65c_clear_da8c8, Q_Jx4a65c_clear_da8c8)] P_X6_clear Q_X6_clear := by sorry
theorem lg_X6_clear : ∀ (As : List AvC) (σ : CsC), P_X6_clear As σ → lgC As ≤ rX6_clear.2.2.1 := by sorry
theorem m_X6_clear (l : Launch) : CMetC l 11 117 P_X6_clear Q_X6_clear := by sorry
abbrev P_X6_tell : CpC := fun As σ => ∃ (p0 : Nat) (p1 : Int32) (p2 : Int32), As = [.inr (.inr (some p0)), .inl p1, .inl p2] ∧ HIC σ ∧ TyC σ p0 7 ∧ 1 ≤ p1.toInt ∧ p1.toInt ≤ 15 ∧ 0 ≤ p2.toInt ∧ p2.toInt ≤ 502
abbrev Q_X6_tell : CqC := fun As σ w τ => match As with
  | [.inr (.inr (some p0)), .inl p1, .inl p2] => w = none ∧ HIC τ ∧ ExC [217, 218] σ τ
  | _ => False
set_option maxRecDepth 100000 in
set_option maxHeartbeats 4000000 in
theorem b_X6_tell : TbC KX6_tell [] P_X6_tell Q_X6_tell := by sorry
theorem lg_X6_tell : ∀ (As : List AvC) (σ : CsC), P_X6_tell As σ → lgC As ≤ rX6_tell.2.2.1 := by sorry
theorem m_X6_tell (l : Launch) : CMetC l 1 118 P_X6_tell Q_X6_tell := by sorry
abbrev P_X6_methodOf : CpC := fun As σ => ∃ (p0 : Nat) (p1 : Int32), As = [.inr (.inr (some p0)), .inl p1] ∧ HIC σ ∧ TyC σ p0 7
abbrev Q_X6_methodOf : CqC := fun As σ w τ => match As with
  | [.inr (.inr (some p0)), .inl p1] => ∃ r : Option Nat, w = some (.inr (.inr r)) ∧ σ = τ ∧ OtC τ r 6
  | _ => False
set_option maxRecDepth 100000 in
set_option maxHeartbeats 4000000 in
theorem b_X6_methodOf : TbC KX6_methodOf [(234, P_Jx4a65c_size_8abf5, Q_Jx4a65c_size_8abf5), (235, P_Jx4a65c_get_915e3, Q_Jx4a65c_get_915e3)] P_X6_methodOf Q_X6_methodOf := by sorry
theorem lg_X6_methodOf : ∀ (As : List AvC) (σ : CsC), P_X6_methodOf As σ → lgC As ≤ rX6_methodOf.2.2.1 := by sorry
theorem m_X6_methodOf (l : Launch) : CMetC l 11 119 P_X6_methodOf Q_X6_methodOf := by sorry
abbrev P_X6_expAt : CpC := fun As σ => ∃ (p0 : Nat) (p1 : Int32) (p2 : Int32), As = [.inr (.inr (some p0)), .inl p1, .inl p2] ∧ HIC σ ∧ TyC σ p0 7
abbrev Q_X6_expAt : CqC := fun As σ w τ => match As with
  | [.inr (.inr (some p0)), .inl p1, .inl p2] => ∃ r : Option Nat, w = some (.inr (.inr r)) ∧ σ = τ ∧ OtC τ r 2
  | _ => False
set_option maxRecDepth 100000 in
set_option maxHeartbeats 4000000 in
theorem b_X6_expAt : TbC KX6_expAt [(234, P_Jx4a65c_size_8abf5, Q_Jx4a65c_size_8abf5), (235, P_Jx4a65c_get_915e3, Q_Jx4a65c_get_915e3)] P_X6_expAt Q_X6_expAt := by sorry
theorem lg_X6_expAt : ∀ (As : List AvC) (σ : CsC), P_X6_expAt As σ → lgC As ≤ rX6_expAt.2.2.1 := by sorry
theorem m_X6_expAt (l : Launch) : CMetC l 11 120 P_X6_expAt Q_X6_expAt := by sorry
abbrev P_X6_statementAt : CpC := fun As σ => ∃ (p0 : Nat) (p1 : Int32), As = [.inr (.inr (some p0)), .inl p1] ∧ HIC σ ∧ TyC σ p0 7
abbrev Q_X6_statementAt : CqC := fun As σ w τ => match As with
  | [.inr (.inr (some p0)), .inl p1] => ∃ r : Option Nat, w = some (.inr (.inr r)) ∧ σ = τ ∧ OtC τ r 9
  | _ => False
set_option maxRecDepth 100000 in
set_option maxHeartbeats 4000000 in
theorem b_X6_statementAt : TbC KX6_statementAt [(234, P_Jx4a65c_size_8abf5, Q_Jx4a65c_size_8abf5), (235, P_Jx4a65c_get_915e3, Q_Jx4a65c_get_915e3), (180, P_X8_isPart, Q_X8_isPart)] P_X6_statementAt Q_X6_statementAt := by sorry
theorem lg_X6_statementAt : ∀ (As : List AvC) (σ : CsC), P_X6_statementAt As σ → lgC As ≤ rX6_statementAt.2.2.1 := by sorry
theorem m_X6_statementAt (l : Launch) : CMetC l 11 121 P_X6_statementAt Q_X6_statementAt := by sorry
abbrev P_X3_variableOf : CpC := fun As σ => ∃ (p0 : Nat) (p1 : Nat), As = [.inr (.inr (some p0)), .inr (.inr (some p1))] ∧ HIC σ ∧ TyC σ p0 4 ∧ TyC σ p1 2
abbrev Q_X3_variableOf : CqC := fun As σ w τ => match As with
  | [.inr (.inr (some p0)), .inr (.inr (some p1))] => ∃ r : Option Nat, w = some (.inr (.inr r)) ∧ σ = τ ∧ OtC τ r 11
  | _ => False
set_option maxRecDepth 100000 in
set_option maxHeartbeats 4000000 in
theorem b_X3_variableOf : TbC KX3_variableOf [(234, P_Jx4a65c_size_8abf5, Q_Jx4a65c_size_8abf5), (235, P_Jx4a65c_get_915e3, Q_Jx4a65c_get_915e3)] P_X3_variableOf Q_X3_variableOf := by sorry
theorem lg_X3_variableOf : ∀ (As : List AvC) (σ : CsC), P_X3_variableOf As σ → lgC As ≤ rX3_variableOf.2.2.1 := by sorry
theorem m_X3_variableOf (l : Launch) : CMetC l 11 51 P_X3_variableOf Q_X3_variableOf := by sorry
abbrev P_X3_isFaulty : CpC := fun As σ => ∃ (p0 : Option Nat), As = [.inr (.inr p0)] ∧ HIC σ ∧ OtC σ p0 2
abbrev Q_X3_isFaulty : CqC := fun As σ w τ => match As with
  | [.inr (.inr p0)] => ∃ r : Int32, w = some (.inl r) ∧ σ = τ ∧ 0 ≤ r.toInt ∧ r.toInt ≤ 1 ∧ (r.toInt = 0 → ∃ b, p0 = some b)
  | _ => False
set_option maxRecDepth 100000 in
set_option maxHeartbeats 4000000 in
theorem b_X3_isFaulty : TbC KX3_isFaulty [] P_X3_isFaulty Q_X3_isFaulty := by sorry
theorem lg_X3_isFaulty : ∀ (As : List AvC) (σ : CsC), P_X3_isFaulty As σ → lgC As ≤ rX3_isFaulty.2.2.1 := by sorry
theorem m_X3_isFaulty (l : Launch) : CMetC l 1 52 P_X3_isFaulty Q_X3_isFaulty := by sorry
abbrev P_X3_isTakenAlone : CpC := fun As σ => ∃ (p0 : Nat) (p1 : Int32), As = [.inr (.inr (some p0)), .inl p1] ∧ HIC σ ∧ TyC σ p0 2
abbrev Q_X3_isTakenAlone : CqC := fun As σ w τ => match As with
  | [.inr (.inr (some p0)), .inl p1] => ∃ r : Int32, w = some (.inl r) ∧ σ = τ ∧ 0 ≤ r.toInt ∧ r.toInt ≤ 1
  | _ => False
set_option maxRecDepth 100000 in
set_option maxHeartbeats 4000000 in
theorem b_X3_isTakenAlone : TbC KX3_isTakenAlone [(223, P_X11_isNumber, Q_X11_isNumber)] P_X3_isTakenAlone Q_X3_isTakenAlone := by sorry
theorem lg_X3_isTakenAlone : ∀ (As : List AvC) (σ : CsC), P_X3_isTakenAlone As σ → lgC As ≤ rX3_isTakenAlone.2.2.1 := by sorry
theorem m_X3_isTakenAlone (l : Launch) : CMetC l 2 57 P_X3_isTakenAlone Q_X3_isTakenAlone := by sorry
abbrev P_X3_promoted : CpC := fun As σ => ∃ (p0 : Int32), As = [.inl p0] ∧ HIC σ
abbrev Q_X3_promoted : CqC := fun As σ w τ => match As with
  | [.inl p0] => ∃ r : Int32, w = some (.inl r) ∧ σ = τ
  | _ => False
set_option maxRecDepth 100000 in
set_option maxHeartbeats 4000000 in
theorem b_X3_promoted : TbC KX3_promoted [] P_X3_promoted Q_X3_promoted := by sorry
theorem lg_X3_promoted : ∀ (As : List AvC) (σ : CsC), P_X3_promoted As σ → lgC As ≤ rX3_promoted.2.2.1 := by sorry
theorem m_X3_promoted (l : Launch) : CMetC l 1 58 P_X3_promoted Q_X3_promoted := by sorry
abbrev P_X3_isWanted : CpC := fun As σ => ∃ (p0 : Nat) (p1 : Int32) (p2 : Int32), As = [.inr (.inr (some p0)), .inl p1, .inl p2] ∧ HIC σ ∧ TyC σ p0 4 ∧ 0 ≤ p1.toInt ∧ p1.toInt ≤ 1 ∧ 0 ≤ p2.toInt ∧ p2.toInt ≤ 502
abbrev Q_X3_isWanted : CqC := fun As σ w τ => match As with
  | [.inr (.inr (some p0)), .inl p1, .inl p2] => ∃ r : Int32, w = some (.inl r) ∧ HIC τ ∧ ExC [217, 218] σ τ ∧ 0 ≤ r.toInt ∧ r.toInt ≤ 1
  | _ => False
set_option maxRecDepth 100000 in
set_option maxHeartbeats 4000000 in
theorem b_X3_isWanted : TbC KX3_isWanted [(118, P_X6_tell, Q_X6_tell)] P_X3_isWanted Q_X3_isWanted := by sorry
theorem lg_X3_isWanted : ∀ (As : List AvC) (σ : CsC), P_X3_isWanted As σ → lgC As ≤ rX3_isWanted.2.2.1 := by sorry
theorem m_X3_isWanted (l : Launch) : CMetC l 2 62 P_X3_isWanted Q_X3_isWanted := by sorry
abbrev P_X3_mayChange : CpC := fun As σ => ∃ (p0 : Nat) (p1 : Nat) (p2 : Option Nat), As = [.inr (.inr (some p0)), .inr (.inr (some p1)), .inr (.inr p2)] ∧ HIC σ ∧ TyC σ p0 4 ∧ TyC σ p1 2 ∧ OtC σ p2 11
abbrev Q_X3_mayChange : CqC := fun As σ w τ => match As with
  | [.inr (.inr (some p0)), .inr (.inr (some p1)), .inr (.inr p2)] => ∃ r : Int32, w = some (.inl r) ∧ HIC τ ∧ ExC [217, 218] σ τ ∧ 0 ≤ r.toInt ∧ r.toInt ≤ 1 ∧ (r.toInt = 1 → ∃ b, p2 = some b)
  | _ => False
set_option maxRecDepth 100000 in
set_option maxHeartbeats 4000000 in
theorem b_X3_mayChange : TbC KX3_mayChange [(118, P_X6_tell, Q_X6_tell)] P_X3_mayChange Q_X3_mayChange := by sorry
theorem lg_X3_mayChange : ∀ (As : List AvC) (σ : CsC), P_X3_mayChange As σ → lgC As ≤ rX3_mayChange.2.2.1 := by sorry
theorem m_X3_mayChange (l : Launch) : CMetC l 2 59 P_X3_mayChange Q_X3_mayChange := by sorry
abbrev P_X3_isLogical : CpC := fun As σ => ∃ (p0 : Int32), As = [.inl p0] ∧ HIC σ
abbrev Q_X3_isLogical : CqC := fun As σ w τ => match As with
  | [.inl p0] => ∃ r : Int32, w = some (.inl r) ∧ σ = τ ∧ 0 ≤ r.toInt ∧ r.toInt ≤ 1
  | _ => False
set_option maxRecDepth 100000 in
set_option maxHeartbeats 4000000 in
theorem b_X3_isLogical : TbC KX3_isLogical [] P_X3_isLogical Q_X3_isLogical := by sorry
theorem lg_X3_isLogical : ∀ (As : List AvC) (σ : CsC), P_X3_isLogical As σ → lgC As ≤ rX3_isLogical.2.2.1 := by sorry
theorem m_X3_isLogical (l : Launch) : CMetC l 1 64 P_X3_isLogical Q_X3_isLogical := by sorry
abbrev P_X3_takesBoth : CpC := fun As σ => ∃ (p0 : Int32), As = [.inl p0] ∧ HIC σ
abbrev Q_X3_takesBoth : CqC := fun As σ w τ => match As with
  | [.inl p0] => ∃ r : Int32, w = some (.inl r) ∧ σ = τ ∧ 0 ≤ r.toInt ∧ r.toInt ≤ 1
  | _ => False
set_option maxRecDepth 100000 in
set_option maxHeartbeats 4000000 in
theorem b_X3_takesBoth : TbC KX3_takesBoth [] P_X3_takesBoth Q_X3_takesBoth := by sorry
theorem lg_X3_takesBoth : ∀ (As : List AvC) (σ : CsC), P_X3_takesBoth As σ → lgC As ≤ rX3_takesBoth.2.2.1 := by sorry
theorem m_X3_takesBoth (l : Launch) : CMetC l 1 65 P_X3_takesBoth Q_X3_takesBoth := by sorry
abbrev P_X3_isLeftTaken : CpC := fun As σ => ∃ (p0 : Int32) (p1 : Int32), As = [.inl p0, .inl p1] ∧ HIC σ
abbrev Q_X3_isLeftTaken : CqC := fun As σ w τ => match As with
  | [.inl p0, .inl p1] => ∃ r : Int32, w = some (.inl r) ∧ σ = τ ∧ 0 ≤ r.toInt ∧ r.toInt ≤ 1
  | _ => False
set_option maxRecDepth 100000 in
set_option maxHeartbeats 4000000 in
theorem b_X3_isLeftTaken : TbC KX3_isLeftTaken [(64, P_X3_isLogical, Q_X3_isLogical), (223, P_X11_isNumber, Q_X11_isNumber), (65, P_X3_takesBoth, Q_X3_takesBoth)] P_X3_isLeftTaken Q_X3_isLeftTaken := by sorry
theorem lg_X3_isLeftTaken : ∀ (As : List AvC) (σ : CsC), P_X3_isLeftTaken As σ → lgC As ≤ rX3_isLeftTaken.2.2.1 := by sorry
theorem m_X3_isLeftTaken (l : Launch) : CMetC l 2 66 P_X3_isLeftTaken Q_X3_isLeftTaken := by sorry
abbrev P_X3_isRightTaken : CpC := fun As σ => ∃ (p0 : Int32) (p1 : Int32) (p2 : Int32), As = [.inl p0, .inl p1, .inl p2] ∧ HIC σ
abbrev Q_X3_isRightTaken : CqC := fun As σ w τ => match As with
  | [.inl p0, .inl p1, .inl p2] => ∃ r : Int32, w = some (.inl r) ∧ σ = τ ∧ 0 ≤ r.toInt ∧ r.toInt ≤ 1
  | _ => False
set_option maxRecDepth 100000 in
set_option maxHeartbeats 4000000 in
theorem b_X3_isRightTaken : TbC KX3_isRightTaken [(223, P_X11_isNumber, Q_X11_isNumber)] P_X3_isRightTaken Q_X3_isRightTaken := by sorry
theorem lg_X3_isRightTaken : ∀ (As : List AvC) (σ : CsC), P_X3_isRightTaken As σ → lgC As ≤ rX3_isRightTaken.2.2.1 := by sorry
theorem m_X3_isRightTaken (l : Launch) : CMetC l 2 67 P_X3_isRightTaken Q_X3_isRightTaken := by sorry
abbrev P_X3_workType : CpC := fun As σ => ∃ (p0 : Int32) (p1 : Int32) (p2 : Int32), As = [.inl p0, .inl p1, .inl p2] ∧ HIC σ
abbrev Q_X3_workType : CqC := fun As σ w τ => match As with
  | [.inl p0, .inl p1, .inl p2] => ∃ r : Int32, w = some (.inl r) ∧ σ = τ
  | _ => False
set_option maxRecDepth 100000 in
set_option maxHeartbeats 4000000 in
theorem b_X3_workType : TbC KX3_workType [(58, P_X3_promoted, Q_X3_promoted)] P_X3_workType Q_X3_workType := by sorry
theorem lg_X3_workType : ∀ (As : List AvC) (σ : CsC), P_X3_workType As σ → lgC As ≤ rX3_workType.2.2.1 := by sorry
theorem m_X3_workType (l : Launch) : CMetC l 2 68 P_X3_workType Q_X3_workType := by sorry
abbrev P_X3_areTaken : CpC := fun As σ => ∃ (p0 : Nat) (p1 : Nat) (p2 : Int32) (p3 : Option Nat), As = [.inr (.inr (some p0)), .inr (.inr (some p1)), .inl p2, .inr (.inr p3)] ∧ HIC σ ∧ TyC σ p0 4 ∧ TyC σ p1 2 ∧ OtC σ p3 2
abbrev Q_X3_areTaken : CqC := fun As σ w τ => match As with
  | [.inr (.inr (some p0)), .inr (.inr (some p1)), .inl p2, .inr (.inr p3)] => ∃ r : Int32, w = some (.inl r) ∧ HIC τ ∧ ExC [217, 218] σ τ ∧ 0 ≤ r.toInt ∧ r.toInt ≤ 1 ∧ (r.toInt = 1 → ∃ b, p3 = some b)
  | _ => False
set_option maxRecDepth 100000 in
set_option maxHeartbeats 4000000 in
theorem b_X3_areTaken : TbC KX3_areTaken [(66, P_X3_isLeftTaken, Q_X3_isLeftTaken), (62, P_X3_isWanted, Q_X3_isWanted), (52, P_X3_isFaulty, Q_X3_isFaulty), (67, P_X3_isRightTaken, Q_X3_isRightTaken)] P_X3_areTaken Q_X3_areTaken := by sorry
theorem lg_X3_areTaken : ∀ (As : List AvC) (σ : CsC), P_X3_areTaken As σ → lgC As ≤ rX3_areTaken.2.2.1 := by sorry
theorem m_X3_areTaken (l : Launch) : CMetC l 3 63 P_X3_areTaken Q_X3_areTaken := by sorry
abbrev P_X3_isSmall : CpC := fun As σ => ∃ (p0 : Int32), As = [.inl p0] ∧ HIC σ
abbrev Q_X3_isSmall : CqC := fun As σ w τ => match As with
  | [.inl p0] => ∃ r : Int32, w = some (.inl r) ∧ σ = τ ∧ 0 ≤ r.toInt ∧ r.toInt ≤ 1
  | _ => False
set_option maxRecDepth 100000 in
set_option maxHeartbeats 4000000 in
theorem b_X3_isSmall : TbC KX3_isSmall [] P_X3_isSmall Q_X3_isSmall := by sorry
theorem lg_X3_isSmall : ∀ (As : List AvC) (σ : CsC), P_X3_isSmall As σ → lgC As ≤ rX3_isSmall.2.2.1 := by sorry
theorem m_X3_isSmall (l : Launch) : CMetC l 1 73 P_X3_isSmall Q_X3_isSmall := by sorry
abbrev P_X3_isHeld : CpC := fun As σ => ∃ (p0 : Nat) (p1 : Int32), As = [.inr (.inr (some p0)), .inl p1] ∧ HIC σ ∧ TyC σ p0 2
abbrev Q_X3_isHeld : CqC := fun As σ w τ => match As with
  | [.inr (.inr (some p0)), .inl p1] => ∃ r : Int32, w = some (.inl r) ∧ σ = τ ∧ 0 ≤ r.toInt ∧ r.toInt ≤ 1
  | _ => False
set_option maxRecDepth 100000 in
set_option maxHeartbeats 4000000 in
theorem b_X3_isHeld : TbC KX3_isHeld [(228, P_X11_narrowed, Q_X11_narrowed)] P_X3_isHeld Q_X3_isHeld := by sorry
theorem lg_X3_isHeld : ∀ (As : List AvC) (σ : CsC), P_X3_isHeld As σ → lgC As ≤ rX3_isHeld.2.2.1 := by sorry
theorem m_X3_isHeld (l : Launch) : CMetC l 2 74 P_X3_isHeld Q_X3_isHeld := by sorry
abbrev P_X3_fits : CpC := fun As σ => ∃ (p0 : Nat) (p1 : Int32), As = [.inr (.inr (some p0)), .inl p1] ∧ HIC σ ∧ TyC σ p0 2
abbrev Q_X3_fits : CqC := fun As σ w τ => match As with
  | [.inr (.inr (some p0)), .inl p1] => ∃ r : Int32, w = some (.inl r) ∧ σ = τ ∧ 0 ≤ r.toInt ∧ r.toInt ≤ 1
  | _ => False
set_option maxRecDepth 100000 in
set_option maxHeartbeats 4000000 in
theorem b_X3_fits : TbC KX3_fits [(224, P_X11_sameOrWidens, Q_X11_sameOrWidens), (73, P_X3_isSmall, Q_X3_isSmall), (74, P_X3_isHeld, Q_X3_isHeld)] P_X3_fits Q_X3_fits := by sorry
theorem lg_X3_fits : ∀ (As : List AvC) (σ : CsC), P_X3_fits As σ → lgC As ≤ rX3_fits.2.2.1 := by sorry
theorem m_X3_fits (l : Launch) : CMetC l 3 75 P_X3_fits Q_X3_fits := by sorry
abbrev P_X3_judgeNumber : CpC := fun As σ => ∃ (p0 : Nat) (p1 : Nat), As = [.inr (.inr (some p0)), .inr (.inr (some p1))] ∧ HIC σ ∧ TyC σ p0 4 ∧ TyC σ p1 2
abbrev Q_X3_judgeNumber : CqC := fun As σ w τ => match As with
  | [.inr (.inr (some p0)), .inr (.inr (some p1))] => w = none ∧ HIC τ ∧ ExC [68, 217, 218] σ τ
  | _ => False
set_option maxRecDepth 100000 in
set_option maxHeartbeats 4000000 in
theorem b_X3_judgeNumber : TbC KX3_judgeNumber [(118, P_X6_tell, Q_X6_tell), (228, P_X11_narrowed, Q_X11_narrowed)] P_X3_judgeNumber Q_X3_judgeNumber := by sorry
theorem lg_X3_judgeNumber : ∀ (As : List AvC) (σ : CsC), P_X3_judgeNumber As σ → lgC As ≤ rX3_judgeNumber.2.2.1 := by sorry
theorem m_X3_judgeNumber (l : Launch) : CMetC l 2 54 P_X3_judgeNumber Q_X3_judgeNumber := by sorry
abbrev P_X3_judgeName : CpC := fun As σ => ∃ (p0 : Nat) (p1 : Nat), As = [.inr (.inr (some p0)), .inr (.inr (some p1))] ∧ HIC σ ∧ TyC σ p0 4 ∧ TyC σ p1 2
abbrev Q_X3_judgeName : CqC := fun As σ w τ => match As with
  | [.inr (.inr (some p0)), .inr (.inr (some p1))] => w = none ∧ HIC τ ∧ ExC [68, 70, 217, 218] σ τ
  | _ => False
set_option maxRecDepth 100000 in
set_option maxHeartbeats 4000000 in
theorem b_X3_judgeName : TbC KX3_judgeName [(51, P_X3_variableOf, Q_X3_variableOf), (118, P_X6_tell, Q_X6_tell)] P_X3_judgeName Q_X3_judgeName := by sorry
theorem lg_X3_judgeName : ∀ (As : List AvC) (σ : CsC), P_X3_judgeName As σ → lgC As ≤ rX3_judgeName.2.2.1 := by sorry
theorem m_X3_judgeName (l : Launch) : CMetC l 12 55 P_X3_judgeName Q_X3_judgeName := by sorry
abbrev P_X3_judgeOfOne : CpC := fun As σ => ∃ (p0 : Nat) (p1 : Nat), As = [.inr (.inr (some p0)), .inr (.inr (some p1))] ∧ HIC σ ∧ TyC σ p0 4 ∧ TyC σ p1 2
abbrev Q_X3_judgeOfOne : CqC := fun As σ w τ => match As with
  | [.inr (.inr (some p0)), .inr (.inr (some p1))] => w = none ∧ HIC τ ∧ ExC [68, 70, 217, 218] σ τ
  | _ => False
set_option maxRecDepth 100000 in
set_option maxHeartbeats 4000000 in
theorem b_X3_judgeOfOne : TbC KX3_judgeOfOne [(52, P_X3_isFaulty, Q_X3_isFaulty), (228, P_X11_narrowed, Q_X11_narrowed), (57, P_X3_isTakenAlone, Q_X3_isTakenAlone), (58, P_X3_promoted, Q_X3_promoted), (232, P_X11_workedAlone, Q_X11_workedAlone), (118, P_X6_tell, Q_X6_tell)] P_X3_judgeOfOne Q_X3_judgeOfOne := by sorry
theorem lg_X3_judgeOfOne : ∀ (As : List AvC) (σ : CsC), P_X3_judgeOfOne As σ → lgC As ≤ rX3_judgeOfOne.2.2.1 := by sorry
theorem m_X3_judgeOfOne (l : Launch) : CMetC l 3 56 P_X3_judgeOfOne Q_X3_judgeOfOne := by sorry
abbrev P_X3_judgeCount : CpC := fun As σ => ∃ (p0 : Nat) (p1 : Nat), As = [.inr (.inr (some p0)), .inr (.inr (some p1))] ∧ HIC σ ∧ TyC σ p0 4 ∧ TyC σ p1 2
abbrev Q_X3_judgeCount : CqC := fun As σ w τ => match As with
  | [.inr (.inr (some p0)), .inr (.inr (some p1))] => w = none ∧ HIC τ ∧ ExC [68, 217, 218] σ τ
  | _ => False
set_option maxRecDepth 100000 in
set_option maxHeartbeats 4000000 in
theorem b_X3_judgeCount : TbC KX3_judgeCount [(51, P_X3_variableOf, Q_X3_variableOf), (59, P_X3_mayChange, Q_X3_mayChange), (223, P_X11_isNumber, Q_X11_isNumber), (118, P_X6_tell, Q_X6_tell)] P_X3_judgeCount Q_X3_judgeCount := by sorry
theorem lg_X3_judgeCount : ∀ (As : List AvC) (σ : CsC), P_X3_judgeCount As σ → lgC As ≤ rX3_judgeCount.2.2.1 := by sorry
theorem m_X3_judgeCount (l : Launch) : CMetC l 12 60 P_X3_judgeCount Q_X3_judgeCount := by sorry
abbrev P_X3_judgeAssignment : CpC := fun As σ => ∃ (p0 : Nat) (p1 : Nat), As = [.inr (.inr (some p0)), .inr (.inr (some p1))] ∧ HIC σ ∧ TyC σ p0 4 ∧ TyC σ p1 2
abbrev Q_X3_judgeAssignment : CqC := fun As σ w τ => match As with
  | [.inr (.inr (some p0)), .inr (.inr (some p1))] => w = none ∧ HIC τ ∧ ExC [68, 69, 217, 218] σ τ
  | _ => False
set_option maxRecDepth 100000 in
set_option maxHeartbeats 4000000 in
theorem b_X3_judgeAssignment : TbC KX3_judgeAssignment [(51, P_X3_variableOf, Q_X3_variableOf), (59, P_X3_mayChange, Q_X3_mayChange), (63, P_X3_areTaken, Q_X3_areTaken), (52, P_X3_isFaulty, Q_X3_isFaulty), (75, P_X3_fits, Q_X3_fits), (62, P_X3_isWanted, Q_X3_isWanted), (68, P_X3_workType, Q_X3_workType)] P_X3_judgeAssignment Q_X3_judgeAssignment := by sorry
theorem lg_X3_judgeAssignment : ∀ (As : List AvC) (σ : CsC), P_X3_judgeAssignment As σ → lgC As ≤ rX3_judgeAssignment.2.2.1 := by sorry
theorem m_X3_judgeAssignment (l : Launch) : CMetC l 12 61 P_X3_judgeAssignment Q_X3_judgeAssignment := by sorry
abbrev P_X3_workedChain : CpC := fun As σ => ∃ (p0 : Nat) (p1 : Int64) (p2 : Int64), As = [.inr (.inr (some p0)), .inr (.inl p1), .inr (.inl p2)] ∧ HIC σ ∧ TyC σ p0 2
abbrev Q_X3_workedChain : CqC := fun As σ w τ => match As with
  | [.inr (.inr (some p0)), .inr (.inl p1), .inr (.inl p2)] => ∃ r : Int64, w = some (.inr (.inl r)) ∧ σ = τ
  | _ => False
set_option maxRecDepth 100000 in
set_option maxHeartbeats 4000000 in
theorem b_X3_workedChain : TbC KX3_workedChain [(229, P_X11_worked, Q_X11_worked)] P_X3_workedChain Q_X3_workedChain := by sorry
theorem lg_X3_workedChain : ∀ (As : List AvC) (σ : CsC), P_X3_workedChain As σ → lgC As ≤ rX3_workedChain.2.2.1 := by sorry
theorem m_X3_workedChain (l : Launch) : CMetC l 3 70 P_X3_workedChain Q_X3_workedChain := by sorry
abbrev P_X3_judgeChain : CpC := fun As σ => ∃ (p0 : Nat) (p1 : Nat), As = [.inr (.inr (some p0)), .inr (.inr (some p1))] ∧ HIC σ ∧ TyC σ p0 4 ∧ TyC σ p1 2
abbrev Q_X3_judgeChain : CqC := fun As σ w τ => match As with
  | [.inr (.inr (some p0)), .inr (.inr (some p1))] => w = none ∧ HIC τ ∧ ExC [68, 69, 70, 217, 218] σ τ
  | _ => False
set_option maxRecDepth 100000 in
set_option maxHeartbeats 4000000 in
theorem b_X3_judgeChain : TbC KX3_judgeChain [(52, P_X3_isFaulty, Q_X3_isFaulty), (63, P_X3_areTaken, Q_X3_areTaken), (68, P_X3_workType, Q_X3_workType), (227, P_X11_isDivision, Q_X11_isDivision), (70, P_X3_workedChain, Q_X3_workedChain)] P_X3_judgeChain Q_X3_judgeChain := by sorry
theorem lg_X3_judgeChain : ∀ (As : List AvC) (σ : CsC), P_X3_judgeChain As σ → lgC As ≤ rX3_judgeChain.2.2.1 := by sorry
theorem m_X3_judgeChain (l : Launch) : CMetC l 4 69 P_X3_judgeChain Q_X3_judgeChain := by sorry
abbrev P_X3_choiceType : CpC := fun As σ => ∃ (p0 : Nat) (p1 : Nat), As = [.inr (.inr (some p0)), .inr (.inr (some p1))] ∧ HIC σ ∧ TyC σ p0 2 ∧ TyC σ p1 2
abbrev Q_X3_choiceType : CqC := fun As σ w τ => match As with
  | [.inr (.inr (some p0)), .inr (.inr (some p1))] => ∃ r : Int32, w = some (.inl r) ∧ σ = τ
  | _ => False
set_option maxRecDepth 100000 in
set_option maxHeartbeats 4000000 in
theorem b_X3_choiceType : TbC KX3_choiceType [(73, P_X3_isSmall, Q_X3_isSmall), (74, P_X3_isHeld, Q_X3_isHeld)] P_X3_choiceType Q_X3_choiceType := by sorry
theorem lg_X3_choiceType : ∀ (As : List AvC) (σ : CsC), P_X3_choiceType As σ → lgC As ≤ rX3_choiceType.2.2.1 := by sorry
theorem m_X3_choiceType (l : Launch) : CMetC l 3 72 P_X3_choiceType Q_X3_choiceType := by sorry
abbrev P_X3_judgeChoice : CpC := fun As σ => ∃ (p0 : Nat) (p1 : Nat), As = [.inr (.inr (some p0)), .inr (.inr (some p1))] ∧ HIC σ ∧ TyC σ p0 4 ∧ TyC σ p1 2
abbrev Q_X3_judgeChoice : CqC := fun As σ w τ => match As with
  | [.inr (.inr (some p0)), .inr (.inr (some p1))] => w = none ∧ HIC τ ∧ ExC [68, 70, 217, 218] σ τ
  | _ => False
set_option maxRecDepth 100000 in
set_option maxHeartbeats 4000000 in
theorem b_X3_judgeChoice : TbC KX3_judgeChoice [(52, P_X3_isFaulty, Q_X3_isFaulty), (62, P_X3_isWanted, Q_X3_isWanted), (67, P_X3_isRightTaken, Q_X3_isRightTaken), (72, P_X3_choiceType, Q_X3_choiceType)] P_X3_judgeChoice Q_X3_judgeChoice := by sorry
theorem lg_X3_judgeChoice : ∀ (As : List AvC) (σ : CsC), P_X3_judgeChoice As σ → lgC As ≤ rX3_judgeChoice.2.2.1 := by sorry
theorem m_X3_judgeChoice (l : Launch) : CMetC l 4 71 P_X3_judgeChoice Q_X3_judgeChoice := by sorry
abbrev P_X3_isNarrowest : CpC := fun As σ => ∃ (p0 : Nat) (p1 : Nat) (p2 : Int64) (p3 : Int32) (p4 : Option Nat), As = [.inr (.inr (some p0)), .inr (.inr (some p1)), .inr (.inl p2), .inl p3, .inr (.inr p4)] ∧ HIC σ ∧ TyC σ p0 4 ∧ TyC σ p1 6 ∧ OtC σ p4 2
abbrev Q_X3_isNarrowest : CqC := fun As σ w τ => match As with
  | [.inr (.inr (some p0)), .inr (.inr (some p1)), .inr (.inl p2), .inl p3, .inr (.inr p4)] => ∃ r : Int32, w = some (.inl r) ∧ σ = τ ∧ 0 ≤ r.toInt ∧ r.toInt ≤ 1
  | _ => False
set_option maxRecDepth 100000 in
set_option maxHeartbeats 4000000 in
theorem b_X3_isNarrowest : TbC KX3_isNarrowest [(119, P_X6_methodOf, Q_X6_methodOf), (115, P_X5_takes, Q_X5_takes), (114, P_X5_isAsNarrowAs, Q_X5_isAsNarrowAs)] P_X3_isNarrowest Q_X3_isNarrowest := by sorry
theorem lg_X3_isNarrowest : ∀ (As : List AvC) (σ : CsC), P_X3_isNarrowest As σ → lgC As ≤ rX3_isNarrowest.2.2.1 := by sorry
theorem m_X3_isNarrowest (l : Launch) : CMetC l 12 78 P_X3_isNarrowest Q_X3_isNarrowest := by sorry
abbrev P_X3_calledMethod : CpC := fun As σ => ∃ (p0 : Nat) (p1 : Nat) (p2 : Int32), As = [.inr (.inr (some p0)), .inr (.inr (some p1)), .inl p2] ∧ HIC σ ∧ TyC σ p0 4 ∧ TyC σ p1 2
abbrev Q_X3_calledMethod : CqC := fun As σ w τ => match As with
  | [.inr (.inr (some p0)), .inr (.inr (some p1)), .inl p2] => ∃ r : Int32, w = some (.inl r) ∧ σ = τ
  | _ => False
set_option maxRecDepth 100000 in
set_option maxHeartbeats 4000000 in
theorem b_X3_calledMethod : TbC KX3_calledMethod [(119, P_X6_methodOf, Q_X6_methodOf), (115, P_X5_takes, Q_X5_takes), (78, P_X3_isNarrowest, Q_X3_isNarrowest)] P_X3_calledMethod Q_X3_calledMethod := by sorry
theorem lg_X3_calledMethod : ∀ (As : List AvC) (σ : CsC), P_X3_calledMethod As σ → lgC As ≤ rX3_calledMethod.2.2.1 := by sorry
theorem m_X3_calledMethod (l : Launch) : CMetC l 13 77 P_X3_calledMethod Q_X3_calledMethod := by sorry
abbrev P_X3_judgeCall : CpC := fun As σ => ∃ (p0 : Nat) (p1 : Nat), As = [.inr (.inr (some p0)), .inr (.inr (some p1))] ∧ HIC σ ∧ TyC σ p0 4 ∧ TyC σ p1 2
abbrev Q_X3_judgeCall : CqC := fun As σ w τ => match As with
  | [.inr (.inr (some p0)), .inr (.inr (some p1))] => w = none ∧ HIC τ ∧ ExC [67, 68, 217, 218] σ τ
  | _ => False
set_option maxRecDepth 100000 in
set_option maxHeartbeats 4000000 in
theorem b_X3_judgeCall : TbC KX3_judgeCall [(77, P_X3_calledMethod, Q_X3_calledMethod), (119, P_X6_methodOf, Q_X6_methodOf), (118, P_X6_tell, Q_X6_tell), (52, P_X3_isFaulty, Q_X3_isFaulty), (62, P_X3_isWanted, Q_X3_isWanted)] P_X3_judgeCall Q_X3_judgeCall := by sorry
theorem lg_X3_judgeCall : ∀ (As : List AvC) (σ : CsC), P_X3_judgeCall As σ → lgC As ≤ rX3_judgeCall.2.2.1 := by sorry
theorem m_X3_judgeCall (l : Launch) : CMetC l 14 76 P_X3_judgeCall Q_X3_judgeCall := by sorry
abbrev P_X3_judgeStore : CpC := fun As σ => ∃ (p0 : Nat) (p1 : Nat), As = [.inr (.inr (some p0)), .inr (.inr (some p1))] ∧ HIC σ ∧ TyC σ p0 4 ∧ TyC σ p1 2
abbrev Q_X3_judgeStore : CqC := fun As σ w τ => match As with
  | [.inr (.inr (some p0)), .inr (.inr (some p1))] => w = none ∧ HIC τ ∧ ExC [217, 218, 335] σ τ
  | _ => False
set_option maxRecDepth 100000 in
set_option maxHeartbeats 4000000 in
theorem b_X3_judgeStore : TbC KX3_judgeStore [(51, P_X3_variableOf, Q_X3_variableOf), (52, P_X3_isFaulty, Q_X3_isFaulty), (75, P_X3_fits, Q_X3_fits), (62, P_X3_isWanted, Q_X3_isWanted)] P_X3_judgeStore Q_X3_judgeStore := by sorry
theorem lg_X3_judgeStore : ∀ (As : List AvC) (σ : CsC), P_X3_judgeStore As σ → lgC As ≤ rX3_judgeStore.2.2.1 := by sorry
theorem m_X3_judgeStore (l : Launch) : CMetC l 12 79 P_X3_judgeStore Q_X3_judgeStore := by sorry
abbrev P_X3_judgeExp : CpC := fun As σ => ∃ (p0 : Nat) (p1 : Nat), As = [.inr (.inr (some p0)), .inr (.inr (some p1))] ∧ HIC σ ∧ TyC σ p0 4 ∧ TyC σ p1 2
abbrev Q_X3_judgeExp : CqC := fun As σ w τ => match As with
  | [.inr (.inr (some p0)), .inr (.inr (some p1))] => w = none ∧ HIC τ ∧ ExC [67, 68, 69, 70, 217, 218, 335] σ τ
  | _ => False
set_option maxRecDepth 100000 in
set_option maxHeartbeats 4000000 in
theorem b_X3_judgeExp : TbC KX3_judgeExp [(54, P_X3_judgeNumber, Q_X3_judgeNumber), (55, P_X3_judgeName, Q_X3_judgeName), (56, P_X3_judgeOfOne, Q_X3_judgeOfOne), (60, P_X3_judgeCount, Q_X3_judgeCount), (69, P_X3_judgeChain, Q_X3_judgeChain), (71, P_X3_judgeChoice, Q_X3_judgeChoice), (61, P_X3_judgeAssignment, Q_X3_judgeAssignment), (76, P_X3_judgeCall, Q_X3_judgeCall), (79, P_X3_judgeStore, Q_X3_judgeStore)] P_X3_judgeExp Q_X3_judgeExp := by sorry
theorem lg_X3_judgeExp : ∀ (As : List AvC) (σ : CsC), P_X3_judgeExp As σ → lgC As ≤ rX3_judgeExp.2.2.1 := by sorry
theorem m_X3_judgeExp (l : Launch) : CMetC l 15 53 P_X3_judgeExp Q_X3_judgeExp := by sorry
abbrev P_X3_isSameName : CpC := fun As σ => ∃ (p0 : Nat) (p1 : Int32) (p2 : Int32), As = [.inr (.inr (some p0)), .inl p1, .inl p2] ∧ HIC σ ∧ TyC σ p0 4 ∧ 0 ≤ p1.toInt ∧ p1.toInt ≤ 502 ∧ 0 ≤ p2.toInt ∧ p2.toInt ≤ 502
abbrev Q_X3_isSameName : CqC := fun As σ w τ => match As with
  | [.inr (.inr (some p0)), .inl p1, .inl p2] => ∃ r : Int32, w = some (.inl r) ∧ σ = τ ∧ 0 ≤ r.toInt ∧ r.toInt ≤ 1
  | _ => False
set_option maxRecDepth 100000 in
set_option maxHeartbeats 4000000 in
theorem b_X3_isSameName : TbC KX3_isSameName [] P_X3_isSameName Q_X3_isSameName := by sorry
theorem lg_X3_isSameName : ∀ (As : List AvC) (σ : CsC), P_X3_isSameName As σ → lgC As ≤ rX3_isSameName.2.2.1 := by sorry
theorem m_X3_isSameName (l : Launch) : CMetC l 1 84 P_X3_isSameName Q_X3_isSameName := by sorry
abbrev P_X3_judgeCase : CpC := fun As σ => ∃ (p0 : Nat) (p1 : Nat) (p2 : Nat), As = [.inr (.inr (some p0)), .inr (.inr (some p1)), .inr (.inr (some p2))] ∧ HIC σ ∧ TyC σ p0 4 ∧ TyC σ p1 9 ∧ TyC σ p2 9 ∧ (∃ b, fRC σ p1 279 = some b)
abbrev Q_X3_judgeCase : CqC := fun As σ w τ => match As with
  | [.inr (.inr (some p0)), .inr (.inr (some p1)), .inr (.inr (some p2))] => w = none ∧ HIC τ ∧ ExC [217, 218] σ τ
  | _ => False
set_option maxRecDepth 100000 in
set_option maxHeartbeats 4000000 in
theorem b_X3_judgeCase : TbC KX3_judgeCase [(52, P_X3_isFaulty, Q_X3_isFaulty), (75, P_X3_fits, Q_X3_fits), (118, P_X6_tell, Q_X6_tell)] P_X3_judgeCase Q_X3_judgeCase := by sorry
theorem lg_X3_judgeCase : ∀ (As : List AvC) (σ : CsC), P_X3_judgeCase As σ → lgC As ≤ rX3_judgeCase.2.2.1 := by sorry
theorem m_X3_judgeCase (l : Launch) : CMetC l 4 82 P_X3_judgeCase Q_X3_judgeCase := by sorry
abbrev P_X3_judgeSwitch : CpC := fun As σ => ∃ (p0 : Nat) (p1 : Nat), As = [.inr (.inr (some p0)), .inr (.inr (some p1))] ∧ HIC σ ∧ TyC σ p0 4 ∧ TyC σ p1 9
abbrev Q_X3_judgeSwitch : CqC := fun As σ w τ => match As with
  | [.inr (.inr (some p0)), .inr (.inr (some p1))] => w = none ∧ HIC τ ∧ ExC [217, 218] σ τ
  | _ => False
set_option maxRecDepth 100000 in
set_option maxHeartbeats 4000000 in
theorem b_X3_judgeSwitch : TbC KX3_judgeSwitch [(52, P_X3_isFaulty, Q_X3_isFaulty), (62, P_X3_isWanted, Q_X3_isWanted), (82, P_X3_judgeCase, Q_X3_judgeCase), (118, P_X6_tell, Q_X6_tell)] P_X3_judgeSwitch Q_X3_judgeSwitch := by sorry
theorem lg_X3_judgeSwitch : ∀ (As : List AvC) (σ : CsC), P_X3_judgeSwitch As σ → lgC As ≤ rX3_judgeSwitch.2.2.1 := by sorry
theorem m_X3_judgeSwitch (l : Launch) : CMetC l 5 81 P_X3_judgeSwitch Q_X3_judgeSwitch := by sorry
abbrev P_X3_judgeJump : CpC := fun As σ => ∃ (p0 : Nat) (p1 : Nat), As = [.inr (.inr (some p0)), .inr (.inr (some p1))] ∧ HIC σ ∧ TyC σ p0 4 ∧ TyC σ p1 9
abbrev Q_X3_judgeJump : CqC := fun As σ w τ => match As with
  | [.inr (.inr (some p0)), .inr (.inr (some p1))] => w = none ∧ HIC τ ∧ ExC [217, 218, 281] σ τ
  | _ => False
set_option maxRecDepth 100000 in
set_option maxHeartbeats 4000000 in
theorem b_X3_judgeJump : TbC KX3_judgeJump [(118, P_X6_tell, Q_X6_tell), (179, P_X8_isLoop, Q_X8_isLoop), (84, P_X3_isSameName, Q_X3_isSameName)] P_X3_judgeJump Q_X3_judgeJump := by sorry
theorem lg_X3_judgeJump : ∀ (As : List AvC) (σ : CsC), P_X3_judgeJump As σ → lgC As ≤ rX3_judgeJump.2.2.1 := by sorry
theorem m_X3_judgeJump (l : Launch) : CMetC l 2 83 P_X3_judgeJump Q_X3_judgeJump := by sorry
abbrev P_X3_judgeLabel : CpC := fun As σ => ∃ (p0 : Nat) (p1 : Nat), As = [.inr (.inr (some p0)), .inr (.inr (some p1))] ∧ HIC σ ∧ TyC σ p0 4 ∧ TyC σ p1 9 ∧ (fIC σ p1 270).toInt = 6
abbrev Q_X3_judgeLabel : CqC := fun As σ w τ => match As with
  | [.inr (.inr (some p0)), .inr (.inr (some p1))] => w = none ∧ HIC τ ∧ ExC [217, 218] σ τ
  | _ => False
set_option maxRecDepth 100000 in
set_option maxHeartbeats 4000000 in
theorem b_X3_judgeLabel : TbC KX3_judgeLabel [(84, P_X3_isSameName, Q_X3_isSameName), (118, P_X6_tell, Q_X6_tell)] P_X3_judgeLabel Q_X3_judgeLabel := by sorry
theorem lg_X3_judgeLabel : ∀ (As : List AvC) (σ : CsC), P_X3_judgeLabel As σ → lgC As ≤ rX3_judgeLabel.2.2.1 := by sorry
theorem m_X3_judgeLabel (l : Launch) : CMetC l 2 85 P_X3_judgeLabel Q_X3_judgeLabel := by sorry
abbrev P_X3_judgeReturn : CpC := fun As σ => ∃ (p0 : Nat) (p1 : Nat), As = [.inr (.inr (some p0)), .inr (.inr (some p1))] ∧ HIC σ ∧ TyC σ p0 4 ∧ TyC σ p1 9
abbrev Q_X3_judgeReturn : CqC := fun As σ w τ => match As with
  | [.inr (.inr (some p0)), .inr (.inr (some p1))] => w = none ∧ HIC τ ∧ ExC [217, 218] σ τ
  | _ => False
set_option maxRecDepth 100000 in
set_option maxHeartbeats 4000000 in
theorem b_X3_judgeReturn : TbC KX3_judgeReturn [(119, P_X6_methodOf, Q_X6_methodOf), (118, P_X6_tell, Q_X6_tell), (52, P_X3_isFaulty, Q_X3_isFaulty), (75, P_X3_fits, Q_X3_fits), (62, P_X3_isWanted, Q_X3_isWanted)] P_X3_judgeReturn Q_X3_judgeReturn := by sorry
theorem lg_X3_judgeReturn : ∀ (As : List AvC) (σ : CsC), P_X3_judgeReturn As σ → lgC As ≤ rX3_judgeReturn.2.2.1 := by sorry
theorem m_X3_judgeReturn (l : Launch) : CMetC l 12 86 P_X3_judgeReturn Q_X3_judgeReturn := by sorry
abbrev P_X3_judgeStatement : CpC := fun As σ => ∃ (p0 : Nat) (p1 : Nat), As = [.inr (.inr (some p0)), .inr (.inr (some p1))] ∧ HIC σ ∧ TyC σ p0 4 ∧ TyC σ p1 9
abbrev Q_X3_judgeStatement : CqC := fun As σ w τ => match As with
  | [.inr (.inr (some p0)), .inr (.inr (some p1))] => w = none ∧ HIC τ ∧ ExC [217, 218, 281] σ τ
  | _ => False
set_option maxRecDepth 100000 in
set_option maxHeartbeats 4000000 in
theorem b_X3_judgeStatement : TbC KX3_judgeStatement [(85, P_X3_judgeLabel, Q_X3_judgeLabel), (52, P_X3_isFaulty, Q_X3_isFaulty), (62, P_X3_isWanted, Q_X3_isWanted), (81, P_X3_judgeSwitch, Q_X3_judgeSwitch), (83, P_X3_judgeJump, Q_X3_judgeJump), (86, P_X3_judgeReturn, Q_X3_judgeReturn), (75, P_X3_fits, Q_X3_fits), (18, P_X1_acts, Q_X1_acts), (118, P_X6_tell, Q_X6_tell)] P_X3_judgeStatement Q_X3_judgeStatement := by sorry
theorem lg_X3_judgeStatement : ∀ (As : List AvC) (σ : CsC), P_X3_judgeStatement As σ → lgC As ≤ rX3_judgeStatement.2.2.1 := by sorry
theorem m_X3_judgeStatement (l : Launch) : CMetC l 13 80 P_X3_judgeStatement Q_X3_judgeStatement := by sorry
abbrev P_X9_longerKey : CpC := fun As σ => ∃ (p0 : Int64) (p1 : Int32), As = [.inr (.inl p0), .inl p1] ∧ HIC σ
abbrev Q_X9_longerKey : CqC := fun As σ w τ => match As with
  | [.inr (.inl p0), .inl p1] => ∃ r : Int64, w = some (.inr (.inl r)) ∧ σ = τ
  | _ => False
set_option maxRecDepth 100000 in
set_option maxHeartbeats 4000000 in
theorem b_X9_longerKey : TbC KX9_longerKey [] P_X9_longerKey Q_X9_longerKey := by sorry
theorem lg_X9_longerKey : ∀ (As : List AvC) (σ : CsC), P_X9_longerKey As σ → lgC As ≤ rX9_longerKey.2.2.1 := by sorry
theorem m_X9_longerKey (l : Launch) : CMetC l 1 185 P_X9_longerKey Q_X9_longerKey := by sorry
abbrev P_X9_keyOf : CpC := fun As σ => ∃ (p0 : Nat), As = [.inr (.inr (some p0))] ∧ HIC σ ∧ (p0 = 1000003 ∨ p0 = 1000004 ∨ p0 = 1000005 ∨ p0 = 1000006)
abbrev Q_X9_keyOf : CqC := fun As σ w τ => match As with
  | [.inr (.inr (some p0))] => ∃ r : Int64, w = some (.inr (.inl r)) ∧ σ = τ
  | _ => False
set_option maxRecDepth 100000 in
set_option maxHeartbeats 4000000 in
theorem b_X9_keyOf : TbC KX9_keyOf [(239, P_J0_length_8abf5, Q_J0_length_8abf5), (238, P_J0_charAt_5068e, Q_J0_charAt_5068e), (185, P_X9_longerKey, Q_X9_longerKey)] P_X9_keyOf Q_X9_keyOf := by sorry
theorem lg_X9_keyOf : ∀ (As : List AvC) (σ : CsC), P_X9_keyOf As σ → lgC As ≤ rX9_keyOf.2.2.1 := by sorry
theorem m_X9_keyOf (l : Launch) : CMetC l 11 186 P_X9_keyOf Q_X9_keyOf := by sorry
abbrev P_X9_sort : CpC := fun As σ => ∃ (p0 : Nat) (p1 : Int32), As = [.inr (.inr (some p0)), .inl p1] ∧ HIC σ ∧ TyC σ p0 10 ∧ 0 ≤ p1.toInt ∧ p1.toInt ≤ 502
abbrev Q_X9_sort : CqC := fun As σ w τ => match As with
  | [.inr (.inr (some p0)), .inl p1] => ∃ r : Int32, w = some (.inl r) ∧ σ = τ
  | _ => False
set_option maxRecDepth 100000 in
set_option maxHeartbeats 4000000 in
theorem b_X9_sort : TbC KX9_sort [] P_X9_sort Q_X9_sort := by sorry
theorem lg_X9_sort : ∀ (As : List AvC) (σ : CsC), P_X9_sort As σ → lgC As ≤ rX9_sort.2.2.1 := by sorry
theorem m_X9_sort (l : Launch) : CMetC l 1 187 P_X9_sort Q_X9_sort := by sorry
abbrev P_X9_byteAt : CpC := fun As σ => ∃ (p0 : Nat) (p1 : Int32), As = [.inr (.inr (some p0)), .inl p1] ∧ HIC σ ∧ TyC σ p0 10
abbrev Q_X9_byteAt : CqC := fun As σ w τ => match As with
  | [.inr (.inr (some p0)), .inl p1] => ∃ r : Int32, w = some (.inl r) ∧ σ = τ
  | _ => False
set_option maxRecDepth 100000 in
set_option maxHeartbeats 4000000 in
theorem b_X9_byteAt : TbC KX9_byteAt [] P_X9_byteAt Q_X9_byteAt := by sorry
theorem lg_X9_byteAt : ∀ (As : List AvC) (σ : CsC), P_X9_byteAt As σ → lgC As ≤ rX9_byteAt.2.2.1 := by sorry
theorem m_X9_byteAt (l : Launch) : CMetC l 1 189 P_X9_byteAt Q_X9_byteAt := by sorry
abbrev P_X9_behindBlanks : CpC := fun As σ => ∃ (p0 : Nat) (p1 : Int32), As = [.inr (.inr (some p0)), .inl p1] ∧ HIC σ ∧ TyC σ p0 10 ∧ 0 ≤ p1.toInt
abbrev Q_X9_behindBlanks : CqC := fun As σ w τ => match As with
  | [.inr (.inr (some p0)), .inl p1] => ∃ r : Int32, w = some (.inl r) ∧ σ = τ ∧ 0 ≤ r.toInt ∧ (r.toInt ≤ (fIC σ p0 308).toInt) ∧ (p1.toInt ≤ r.toInt ∨ r.toInt = (fIC σ p0 308).toInt)
  | _ => False
set_option maxRecDepth 100000 in
set_option maxHeartbeats 4000000 in
theorem b_X9_behindBlanks : TbC KX9_behindBlanks [(189, P_X9_byteAt, Q_X9_byteAt)] P_X9_behindBlanks Q_X9_behindBlanks := by sorry
theorem lg_X9_behindBlanks : ∀ (As : List AvC) (σ : CsC), P_X9_behindBlanks As σ → lgC As ≤ rX9_behindBlanks.2.2.1 := by sorry
theorem m_X9_behindBlanks (l : Launch) : CMetC l 2 190 P_X9_behindBlanks Q_X9_behindBlanks := by sorry
abbrev P_X9_isLetter : CpC := fun As σ => ∃ (p0 : Int32), As = [.inl p0] ∧ HIC σ
abbrev Q_X9_isLetter : CqC := fun As σ w τ => match As with
  | [.inl p0] => ∃ r : Int32, w = some (.inl r) ∧ σ = τ ∧ 0 ≤ r.toInt ∧ r.toInt ≤ 1
  | _ => False
set_option maxRecDepth 100000 in
set_option maxHeartbeats 4000000 in
theorem b_X9_isLetter : TbC KX9_isLetter [] P_X9_isLetter Q_X9_isLetter := by sorry
theorem lg_X9_isLetter : ∀ (As : List AvC) (σ : CsC), P_X9_isLetter As σ → lgC As ≤ rX9_isLetter.2.2.1 := by sorry
theorem m_X9_isLetter (l : Launch) : CMetC l 1 192 P_X9_isLetter Q_X9_isLetter := by sorry
abbrev P_X9_isDigit : CpC := fun As σ => ∃ (p0 : Int32), As = [.inl p0] ∧ HIC σ
abbrev Q_X9_isDigit : CqC := fun As σ w τ => match As with
  | [.inl p0] => ∃ r : Int32, w = some (.inl r) ∧ σ = τ ∧ 0 ≤ r.toInt ∧ r.toInt ≤ 1
  | _ => False
set_option maxRecDepth 100000 in
set_option maxHeartbeats 4000000 in
theorem b_X9_isDigit : TbC KX9_isDigit [] P_X9_isDigit Q_X9_isDigit := by sorry
theorem lg_X9_isDigit : ∀ (As : List AvC) (σ : CsC), P_X9_isDigit As σ → lgC As ≤ rX9_isDigit.2.2.1 := by sorry
theorem m_X9_isDigit (l : Launch) : CMetC l 1 193 P_X9_isDigit Q_X9_isDigit := by sorry
abbrev P_X9_cutName : CpC := fun As σ => ∃ (p0 : Nat) (p1 : Int32), As = [.inr (.inr (some p0)), .inl p1] ∧ HIC σ ∧ TyC σ p0 10 ∧ 0 ≤ p1.toInt ∧ p1.toInt ≤ 2500
abbrev Q_X9_cutName : CqC := fun As σ w τ => match As with
  | [.inr (.inr (some p0)), .inl p1] => ∃ r : Int32, w = some (.inl r) ∧ HIC τ ∧ ExC [998] σ τ ∧ r.toInt ≤ 20000
  | _ => False
set_option maxRecDepth 100000 in
set_option maxHeartbeats 4000000 in
theorem b_X9_cutName : TbC KX9_cutName [(189, P_X9_byteAt, Q_X9_byteAt), (192, P_X9_isLetter, Q_X9_isLetter), (185, P_X9_longerKey, Q_X9_longerKey), (193, P_X9_isDigit, Q_X9_isDigit)] P_X9_cutName Q_X9_cutName := by sorry
theorem lg_X9_cutName : ∀ (As : List AvC) (σ : CsC), P_X9_cutName As σ → lgC As ≤ rX9_cutName.2.2.1 := by sorry
theorem m_X9_cutName (l : Launch) : CMetC l 2 194 P_X9_cutName Q_X9_cutName := by sorry
abbrev P_X9_cutNumber : CpC := fun As σ => ∃ (p0 : Nat) (p1 : Int32), As = [.inr (.inr (some p0)), .inl p1] ∧ HIC σ ∧ TyC σ p0 10 ∧ 0 ≤ p1.toInt ∧ p1.toInt ≤ 2500
abbrev Q_X9_cutNumber : CqC := fun As σ w τ => match As with
  | [.inr (.inr (some p0)), .inl p1] => ∃ r : Int32, w = some (.inl r) ∧ HIC τ ∧ ExC [998] σ τ ∧ r.toInt ≤ 20000
  | _ => False
set_option maxRecDepth 100000 in
set_option maxHeartbeats 4000000 in
theorem b_X9_cutNumber : TbC KX9_cutNumber [(189, P_X9_byteAt, Q_X9_byteAt), (193, P_X9_isDigit, Q_X9_isDigit)] P_X9_cutNumber Q_X9_cutNumber := by sorry
theorem lg_X9_cutNumber : ∀ (As : List AvC) (σ : CsC), P_X9_cutNumber As σ → lgC As ≤ rX9_cutNumber.2.2.1 := by sorry
theorem m_X9_cutNumber (l : Launch) : CMetC l 2 195 P_X9_cutNumber Q_X9_cutNumber := by sorry
abbrev P_X9_cutCharacter : CpC := fun As σ => ∃ (p0 : Nat) (p1 : Int32), As = [.inr (.inr (some p0)), .inl p1] ∧ HIC σ ∧ TyC σ p0 10
abbrev Q_X9_cutCharacter : CqC := fun As σ w τ => match As with
  | [.inr (.inr (some p0)), .inl p1] => ∃ r : Int32, w = some (.inl r) ∧ HIC τ ∧ ExC [998] σ τ ∧ r.toInt ≤ 20000
  | _ => False
set_option maxRecDepth 100000 in
set_option maxHeartbeats 4000000 in
theorem b_X9_cutCharacter : TbC KX9_cutCharacter [(189, P_X9_byteAt, Q_X9_byteAt)] P_X9_cutCharacter Q_X9_cutCharacter := by sorry
theorem lg_X9_cutCharacter : ∀ (As : List AvC) (σ : CsC), P_X9_cutCharacter As σ → lgC As ≤ rX9_cutCharacter.2.2.1 := by sorry
theorem m_X9_cutCharacter (l : Launch) : CMetC l 2 196 P_X9_cutCharacter Q_X9_cutCharacter := by sorry
abbrev P_X9_standsThere : CpC := fun As σ => ∃ (p0 : Nat) (p1 : Int32) (p2 : Int32) (p3 : Int32), As = [.inr (.inr (some p0)), .inl p1, .inl p2, .inl p3] ∧ HIC σ ∧ TyC σ p0 10 ∧ 0 ≤ p1.toInt ∧ p1.toInt ≤ 20000 ∧ 0 ≤ p2.toInt ∧ p2.toInt ≤ 112
abbrev Q_X9_standsThere : CqC := fun As σ w τ => match As with
  | [.inr (.inr (some p0)), .inl p1, .inl p2, .inl p3] => ∃ r : Int32, w = some (.inl r) ∧ σ = τ ∧ 0 ≤ r.toInt ∧ r.toInt ≤ 1
  | _ => False
set_option maxRecDepth 100000 in
set_option maxHeartbeats 4000000 in
theorem b_X9_standsThere : TbC KX9_standsThere [(238, P_J0_charAt_5068e, Q_J0_charAt_5068e), (189, P_X9_byteAt, Q_X9_byteAt)] P_X9_standsThere Q_X9_standsThere := by sorry
theorem lg_X9_standsThere : ∀ (As : List AvC) (σ : CsC), P_X9_standsThere As σ → lgC As ≤ rX9_standsThere.2.2.1 := by sorry
theorem m_X9_standsThere (l : Launch) : CMetC l 11 198 P_X9_standsThere Q_X9_standsThere := by sorry
abbrev P_X9_cutSign : CpC := fun As σ => ∃ (p0 : Nat) (p1 : Int32), As = [.inr (.inr (some p0)), .inl p1] ∧ HIC σ ∧ TyC σ p0 10
abbrev Q_X9_cutSign : CqC := fun As σ w τ => match As with
  | [.inr (.inr (some p0)), .inl p1] => ∃ r : Int32, w = some (.inl r) ∧ HIC τ ∧ ExC [998] σ τ ∧ r.toInt ≤ 20000
  | _ => False
set_option maxRecDepth 100000 in
set_option maxHeartbeats 4000000 in
theorem b_X9_cutSign : TbC KX9_cutSign [(239, P_J0_length_8abf5, Q_J0_length_8abf5), (238, P_J0_charAt_5068e, Q_J0_charAt_5068e), (198, P_X9_standsThere, Q_X9_standsThere)] P_X9_cutSign Q_X9_cutSign := by sorry
theorem lg_X9_cutSign : ∀ (As : List AvC) (σ : CsC), P_X9_cutSign As σ → lgC As ≤ rX9_cutSign.2.2.1 := by sorry
theorem m_X9_cutSign (l : Launch) : CMetC l 12 197 P_X9_cutSign Q_X9_cutSign := by sorry
abbrev P_X9_cutOne : CpC := fun As σ => ∃ (p0 : Nat) (p1 : Int32), As = [.inr (.inr (some p0)), .inl p1] ∧ HIC σ ∧ TyC σ p0 10 ∧ 0 ≤ p1.toInt ∧ p1.toInt ≤ 2500
abbrev Q_X9_cutOne : CqC := fun As σ w τ => match As with
  | [.inr (.inr (some p0)), .inl p1] => ∃ r : Int32, w = some (.inl r) ∧ HIC τ ∧ ExC [998] σ τ ∧ r.toInt ≤ 20000
  | _ => False
set_option maxRecDepth 100000 in
set_option maxHeartbeats 4000000 in
theorem b_X9_cutOne : TbC KX9_cutOne [(189, P_X9_byteAt, Q_X9_byteAt), (192, P_X9_isLetter, Q_X9_isLetter), (193, P_X9_isDigit, Q_X9_isDigit), (197, P_X9_cutSign, Q_X9_cutSign), (196, P_X9_cutCharacter, Q_X9_cutCharacter), (195, P_X9_cutNumber, Q_X9_cutNumber), (194, P_X9_cutName, Q_X9_cutName)] P_X9_cutOne Q_X9_cutOne := by sorry
theorem lg_X9_cutOne : ∀ (As : List AvC) (σ : CsC), P_X9_cutOne As σ → lgC As ≤ rX9_cutOne.2.2.1 := by sorry
theorem m_X9_cutOne (l : Launch) : CMetC l 13 191 P_X9_cutOne Q_X9_cutOne := by sorry
abbrev P_X9_cutText : CpC := fun As σ => ∃ (p0 : Nat) (p1 : Nat) (p2 : Int32), As = [.inr (.inr (some p0)), .inr (.inr (some p1)), .inl p2] ∧ HIC σ ∧ TyC σ p0 10 ∧ TyC σ p1 101 ∧ alC σ p1 = 2500 ∧ 0 ≤ p2.toInt ∧ p2.toInt ≤ 2500
abbrev Q_X9_cutText : CqC := fun As σ w τ => match As with
  | [.inr (.inr (some p0)), .inr (.inr (some p1)), .inl p2] => w = none ∧ HIC τ ∧ ExC [305, 307, 308, 998] σ τ ∧ (∀ c, fRC τ p0 302 = some c → (eIC τ c (fIC τ p0 305).toNatClampNeg).toInt = 84 ∨ (eIC τ c (fIC τ p0 305).toNatClampNeg).toInt = 85) ∧ ((fIC τ p0 305).toInt ≤ p2.toInt)
  | _ => False
set_option maxRecDepth 100000 in
set_option maxHeartbeats 4000000 in
theorem b_X9_cutText : TbC KX9_cutText [(190, P_X9_behindBlanks, Q_X9_behindBlanks), (191, P_X9_cutOne, Q_X9_cutOne)] P_X9_cutText Q_X9_cutText := by sorry
theorem lg_X9_cutText : ∀ (As : List AvC) (σ : CsC), P_X9_cutText As σ → lgC As ≤ rX9_cutText.2.2.1 := by sorry
theorem m_X9_cutText (l : Launch) : CMetC l 14 188 P_X9_cutText Q_X9_cutText := by sorry
theorem fI_qI (σ : CsC) (a : Nat) (f : Nat → Int32) : fIC (qIC σ a f) = fIC σ := rfl
theorem fR_qI (σ : CsC) (a : Nat) (f : Nat → Int32) : fRC (qIC σ a f) = fRC σ := rfl
theorem fL_qI (σ : CsC) (a : Nat) (f : Nat → Int32) : fLC (qIC σ a f) = fLC σ := rfl
theorem fI_qL (σ : CsC) (a : Nat) (f : Nat → Int64) : fIC (qLC σ a f) = fIC σ := rfl
theorem fR_qL (σ : CsC) (a : Nat) (f : Nat → Int64) : fRC (qLC σ a f) = fRC σ := rfl
theorem fL_qL (σ : CsC) (a : Nat) (f : Nat → Int64) : fLC (qLC σ a f) = fLC σ := rfl
theorem eqI {x y : Int32} (h : x = y) : x.toInt = y.toInt := congrArg _ h
theorem neI {x y : Int32} (h : ¬ x = y) : ¬ x.toInt = y.toInt := fun q => h (Int32.toInt_inj.mp q)
theorem ltI {x y : Int32} (h : x < y) : x.toInt < y.toInt := Int32.lt_iff_toInt_lt.mp h
theorem nltI {x y : Int32} (h : ¬ x < y) : y.toInt ≤ x.toInt := Int.not_lt.mp (fun q => h (Int32.lt_iff_toInt_lt.mpr q))
theorem leI {x y : Int32} (h : x ≤ y) : x.toInt ≤ y.toInt := Int32.le_iff_toInt_le.mp h
theorem nleI {x y : Int32} (h : ¬ x ≤ y) : y.toInt < x.toInt := Int.not_le.mp (fun q => h (Int32.le_iff_toInt_le.mpr q))
theorem ug308 (σ : CsC) (a : Nat) : gtC σ a 308 = .inl (fIC σ a 308) := rfl
theorem ug307 (σ : CsC) (a : Nat) : gtC σ a 307 = .inr (.inr (fRC σ a 307)) := rfl
theorem z0I : (0 : Int32).toInt = 0 := rfl
/-- the bytes of a row that Tokens holds, the length -/
def TxC (σ : CsC) (t : Nat) (x : TxY) : Prop := (fIC σ t 308).toInt = x.2 ∧ (∀ a, fRC σ t 307 = some a → ∀ j : Nat, (j : Int) < x.2 → (eIC σ a j &&& 255).toInt = x.1 j) ∧ okY x
abbrev Pp_byteAt (x : TxY) : CpC := fun As σ => match As with
  | [.inr (.inr (some p0)), .inl p1] => TxC σ p0 x
  | _ => False
abbrev Qp_byteAt (x : TxY) : CqC := fun As σ w τ => match As with
  | [.inr (.inr (some p0)), .inl p1] => ∀ r, w = some (.inl r) → r.toInt = btY x p1.toInt
  | _ => True
abbrev U_byteAt : CqC := fun As σ w τ => ∀ x, Pp_byteAt x As σ → Qp_byteAt x As σ w τ
abbrev R_byteAt : CqC := fun As σ w τ => Q_X9_byteAt As σ w τ ∧ U_byteAt As σ w τ
theorem p_byteAt (x : TxY) : PbC KX9_byteAt [] [] (fun As σ => P_X9_byteAt As σ ∧ Pp_byteAt x As σ) (Qp_byteAt x) := by sorry
theorem n_byteAt (l : Launch) : CMetC l 1 189 P_X9_byteAt R_byteAt := by sorry
abbrev Qp_behindBlanks (x : TxY) : CqC := fun As σ w τ => match As with
  | [.inr (.inr (some p0)), .inl p1] => ∀ r, w = some (.inl r) → r.toInt = skY x p1.toInt
  | _ => True
abbrev R_behindBlanks : CqC := fun As σ w τ => Q_X9_behindBlanks As σ w τ ∧ ∀ x, Pp_byteAt x As σ → Qp_behindBlanks x As σ w τ
theorem p_behindBlanks (x : TxY) : PbC KX9_behindBlanks [(189, P_X9_byteAt, Q_X9_byteAt)] [(189, U_byteAt)] (fun As σ => P_X9_behindBlanks As σ ∧ Pp_byteAt x As σ) (Qp_behindBlanks x) := by sorry
theorem n_behindBlanks (l : Launch) : CMetC l 2 190 P_X9_behindBlanks R_behindBlanks := by sorry
abbrev Qp_isLetter : CqC := fun As σ w τ => match As with
  | [.inl p0] => ∀ r, w = some (.inl r) → r.toInt = if isLY p0.toInt then 1 else 0
  | _ => True
abbrev U_isLetter : CqC := fun As σ w τ => ∀ _y : Unit, True → Qp_isLetter As σ w τ
theorem p_isLetter : PbC KX9_isLetter [] [] (fun As σ => P_X9_isLetter As σ ∧ True) Qp_isLetter := by sorry
theorem n_isLetter (l : Launch) : CMetC l 1 192 P_X9_isLetter (fun As σ w τ => Q_X9_isLetter As σ w τ ∧ U_isLetter As σ w τ) := by sorry
abbrev Qp_isDigit : CqC := fun As σ w τ => match As with
  | [.inl p0] => ∀ r, w = some (.inl r) → r.toInt = if isDY p0.toInt then 1 else 0
  | _ => True
abbrev U_isDigit : CqC := fun As σ w τ => ∀ _y : Unit, True → Qp_isDigit As σ w τ
theorem p_isDigit : PbC KX9_isDigit [] [] (fun As σ => P_X9_isDigit As σ ∧ True) Qp_isDigit := by sorry
theorem n_isDigit (l : Launch) : CMetC l 1 193 P_X9_isDigit (fun As σ w τ => Q_X9_isDigit As σ w τ ∧ U_isDigit As σ w τ) := by sorry
theorem ug302 (σ : CsC) (a : Nat) : gtC σ a 302 = .inr (.inr (fRC σ a 302)) := rfl
theorem ug304 (σ : CsC) (a : Nat) : gtC σ a 304 = .inr (.inr (fRC σ a 304)) := rfl
theorem ug305 (σ : CsC) (a : Nat) : gtC σ a 305 = .inl (fIC σ a 305) := rfl
/-- no field has changed, and no row of ints but where the token's code stands -/
def OnC (σ τ : CsC) (p0 : Nat) (v : Int) : Prop := fIC τ = fIC σ ∧ fRC τ = fRC σ ∧ ∀ c, fRC σ p0 302 = some c → (eIC τ c (fIC σ p0 305).toNatClampNeg).toInt = v ∧ ∀ a j, ¬ (a = c ∧ j = (fIC σ p0 305).toNatClampNeg) → eIC τ a j = eIC σ a j
def SaC (σ τ : CsC) : Prop := fIC τ = fIC σ ∧ fRC τ = fRC σ ∧ eIC τ = eIC σ
theorem SaC.rf {σ : CsC} : SaC σ σ := ⟨rfl, rfl, rfl⟩
theorem OnC.q {σ : CsC} {p0 c : Nat} {v : Int32} (hc : fRC σ p0 302 = some c) : OnC σ (qIC σ c (upd (eIC σ c) (fIC σ p0 305).toNatClampNeg v)) p0 v.toInt := by sorry
theorem OnC.l {σ τ : CsC} {p0 : Nat} {v : Int} (h : OnC σ τ p0 v) {d : Nat} {f : Nat → Int64} : OnC σ (qLC τ d f) p0 v := h
abbrev chrY (x : TxY) (i : Int) : Prop := 32 ≤ btY x (i + 1) ∧ btY x (i + 1) ≤ 126 ∧ ¬ btY x (i + 1) = 39 ∧ ¬ btY x (i + 1) = 92 ∧ btY x (i + 2) = 39
abbrev Qp_cutCharacter (x : TxY) : CqC := fun As σ w τ => match As with
  | [.inr (.inr (some p0)), .inl p1] => ∀ r, w = some (.inl r) → (chrY x p1.toInt ∧ r.toInt = 3 ∧ OnC σ τ p0 83) ∨ (¬ chrY x p1.toInt ∧ r.toInt = 0 ∧ SaC σ τ)
  | _ => True
abbrev Pp_cut (x : TxY) : CpC := fun As σ => match As with
  | [.inr (.inr (some p0)), .inl p1] => TxC σ p0 x ∧ 0 ≤ p1.toInt ∧ p1.toInt < x.2
  | _ => False
theorem p_cutCharacter (x : TxY) : PbC KX9_cutCharacter [(189, P_X9_byteAt, Q_X9_byteAt)] [(189, U_byteAt)] (fun As σ => P_X9_cutCharacter As σ ∧ Pp_cut x As σ) (Qp_cutCharacter x) := by sorry
abbrev U_cutCharacter : CqC := fun As σ w τ => ∀ x, Pp_cut x As σ → Qp_cutCharacter x As σ w τ
theorem n_cutCharacter (l : Launch) : CMetC l 2 196 P_X9_cutCharacter (fun As σ w τ => Q_X9_cutCharacter As σ w τ ∧ U_cutCharacter As σ w τ) := by sorry
theorem digI {r c : Int} (h : r = if isDY c then 1 else 0) : (r = 1 ∧ 48 ≤ c ∧ c ≤ 57) ∨ (r = 0 ∧ ¬ (48 ≤ c ∧ c ≤ 57)) := by sorry
theorem TxC.on {σ τ : CsC} {p0 : Nat} {x : TxY} (h : TxC σ p0 x) (e1 : fIC τ = fIC σ) (e2 : fRC τ = fRC σ) (e3 : ∀ a, fRC σ p0 307 = some a → eIC τ a = eIC σ a) : TxC τ p0 x := by sorry
theorem OnC.q2 {σ τ : CsC} {p0 c : Nat} {u : Int} {v : Int32} (h : OnC σ τ p0 u) (hc : fRC σ p0 302 = some c) : OnC σ (qIC τ c (upd (eIC τ c) (fIC σ p0 305).toNatClampNeg v)) p0 v.toInt := by sorry
theorem OnC.p {σ τ : CsC} {p0 c : Nat} {v : Int32} (e1 : fIC τ = fIC σ) (e2 : fRC τ = fRC σ) (e3 : eIC τ = eIC σ) (hc : fRC σ p0 302 = some c) : OnC σ (qIC τ c (upd (eIC τ c) (fIC σ p0 305).toNatClampNeg v)) p0 v.toInt := by sorry
def nuY (x : TxY) (i : Int) : Int := ndY x (x.2 - i).toNat i
abbrev Qp_cutNumber (x : TxY) : CqC := fun As σ w τ => match As with
  | [.inr (.inr (some p0)), .inl p1] => ∀ r, w = some (.inl r) → (19 < nuY x p1.toInt - p1.toInt ∧ r.toInt = 0 ∧ SaC σ τ) ∨ (¬ 19 < nuY x p1.toInt - p1.toInt ∧ btY x (nuY x p1.toInt) = 76 ∧ r.toInt = nuY x p1.toInt + 1 - p1.toInt ∧ OnC σ τ p0 82) ∨ (¬ 19 < nuY x p1.toInt - p1.toInt ∧ ¬ btY x (nuY x p1.toInt) = 76 ∧ r.toInt = nuY x p1.toInt - p1.toInt ∧ OnC σ τ p0 81)
  | _ => True
theorem p_cutNumber (x : TxY) : PbC KX9_cutNumber [(189, P_X9_byteAt, Q_X9_byteAt), (193, P_X9_isDigit, Q_X9_isDigit)] [(189, U_byteAt), (193, U_isDigit)] (fun As σ => P_X9_cutNumber As σ ∧ Pp_cut x As σ) (Qp_cutNumber x) := by sorry
abbrev U_cutNumber : CqC := fun As σ w τ => ∀ x, Pp_cut x As σ → Qp_cutNumber x As σ w τ
theorem n_cutNumber (l : Launch) : CMetC l 2 195 P_X9_cutNumber (fun As σ w τ => Q_X9_cutNumber As σ w τ ∧ U_cutNumber As σ w τ) := by sorry
/-- the sign's characters from i on stand in the text from q on -/
def sthY (x : TxY) : Nat → Int → Int → Prop
  | 0, _, _ => True
  | f + 1, i, q => (chrV 3 (Int32.ofInt i)).toInt = btY x q ∧ sthY x f (i + 1) (q + 1)
abbrev Pp_standsThere (x : TxY) : CpC := fun As σ => match As with
  | [.inr (.inr (some p0)), .inl p1, .inl p2, .inl p3] => TxC σ p0 x ∧ 0 ≤ p3.toInt ∧ p3.toInt ≤ 2500 ∧ p1.toInt ≤ p2.toInt
  | _ => False
abbrev Qp_standsThere (x : TxY) : CqC := fun As σ w τ => match As with
  | [.inr (.inr (some p0)), .inl p1, .inl p2, .inl p3] => ∀ r, w = some (.inl r) → (r.toInt = 1 ∧ sthY x (p2.toInt - p1.toInt).toNat p1.toInt p3.toInt) ∨ (r.toInt = 0 ∧ ¬ sthY x (p2.toInt - p1.toInt).toNat p1.toInt p3.toInt)
  | _ => True
theorem sth_s {x : TxY} {i j q : Int} (h : i < j) : sthY x (j - i).toNat i q ↔ (chrV 3 (Int32.ofInt i)).toInt = btY x q ∧ sthY x (j - (i + 1)).toNat (i + 1) (q + 1) := by sorry
theorem sth_z {x : TxY} {i j q : Int} (h : ¬ i < j) : sthY x (j - i).toNat i q := by sorry
theorem p_standsThere (x : TxY) : PbC KX9_standsThere [(238, P_J0_charAt_5068e, Q_J0_charAt_5068e), (189, P_X9_byteAt, Q_X9_byteAt)] [(189, U_byteAt)] (fun As σ => P_X9_standsThere As σ ∧ Pp_standsThere x As σ) (Qp_standsThere x) := by sorry
abbrev U_standsThere : CqC := fun As σ w τ => ∀ x, Pp_standsThere x As σ → Qp_standsThere x As σ w τ
theorem n_standsThere (l : Launch) : CMetC l 11 198 P_X9_standsThere (fun As σ w τ => Q_X9_standsThere As σ w τ ∧ U_standsThere As σ w τ) := by sorry
def sthB (x : TxY) : Nat → Int → Int → Bool
  | 0, _, _ => true
  | f + 1, i, q => decide ((chrV 3 (Int32.ofInt i)).toInt = btY x q) && sthB x f (i + 1) (q + 1)
theorem sth_b {x : TxY} : ∀ (f : Nat) (i q : Int), sthB x f i q = true ↔ sthY x f i q := by sorry
/-- the longest sign: c where we are in SIGNS, b where the sign begins, s its number; z, d size and number of the longest so far -/
def sgLY (x : TxY) (q : Int) : Nat → Int → Int → Int → Int → Int → Int × Int
  | 0, _, _, _, z, d => (z, d)
  | f + 1, c, b, s, z, d => if c = 112 ∨ (chrV 3 (Int32.ofInt c)).toInt = 32 then (if z < c - b ∧ sthB x (c - b).toNat b q = true then sgLY x q f (c + 1) (c + 1) (s + 1) (c - b) s else sgLY x q f (c + 1) (c + 1) (s + 1) z d) else sgLY x q f (c + 1) b s z d
theorem OnC.st {σ τ : CsC} {p0 c : Nat} {z d : Int} {v : Int32} (h : (z = 0 ∧ SaC σ τ) ∨ OnC σ τ p0 d) (hc : fRC τ p0 302 = some c) : OnC σ (qIC τ c (upd (eIC τ c) (fIC τ p0 305).toNatClampNeg v)) p0 v.toInt := by sorry
abbrev Qp_cutSign (x : TxY) : CqC := fun As σ w τ => match As with
  | [.inr (.inr (some p0)), .inl p1] => ∀ r, w = some (.inl r) → r.toInt = (sgLY x p1.toInt 113 0 0 0 0 0).1 ∧ ((r.toInt = 0 ∧ SaC σ τ) ∨ OnC σ τ p0 (sgLY x p1.toInt 113 0 0 0 0 0).2)
  | _ => True
theorem p_cutSign (x : TxY) : PbC KX9_cutSign [(239, P_J0_length_8abf5, Q_J0_length_8abf5), (238, P_J0_charAt_5068e, Q_J0_charAt_5068e), (198, P_X9_standsThere, Q_X9_standsThere)] [(198, U_standsThere)] (fun As σ => P_X9_cutSign As σ ∧ Pp_cut x As σ) (Qp_cutSign x) := by sorry
abbrev U_cutSign : CqC := fun As σ w τ => ∀ x, Pp_cut x As σ → Qp_cutSign x As σ w τ
theorem n_cutSign (l : Launch) : CMetC l 12 197 P_X9_cutSign (fun As σ w τ => Q_X9_cutSign As σ w τ ∧ U_cutSign As σ w τ) := by sorry
def dgK (b : Int) : Int := if 97 ≤ b then b - 97 + 37 else if 65 ≤ b then b - 65 + 11 else b - 48 + 1
abbrev Pp_longerKey (_y : Unit) : CpC := fun As σ => match As with
  | [.inr (.inl p0), .inl p1] => -1 ≤ p1.toInt ∧ p1.toInt ≤ 255
  | _ => False
abbrev Qp_longerKey (_y : Unit) : CqC := fun As σ w τ => match As with
  | [.inr (.inl p0), .inl p1] => ∀ v, w = some (.inr (.inl v)) → ∃ c : Int32, c.toInt = dgK p1.toInt ∧ v = (p0 <<< ((Int32.ofInt 6).toInt64 &&& 63)) ||| c.toInt64
  | _ => True
abbrev U_longerKey : CqC := fun As σ w τ => ∀ y, Pp_longerKey y As σ → Qp_longerKey y As σ w τ
theorem p_longerKey (y : Unit) : PbC KX9_longerKey [] [] (fun As σ => P_X9_longerKey As σ ∧ Pp_longerKey y As σ) (Qp_longerKey y) := by sorry
theorem n_longerKey (l : Launch) : CMetC l 1 185 P_X9_longerKey (fun As σ w τ => Q_X9_longerKey As σ w τ ∧ U_longerKey As σ w τ) := by sorry
theorem sg_no {x : TxY} {q c b s z d : Int} {f : Nat} (h : ¬ (c = 112 ∨ (chrV 3 (Int32.ofInt c)).toInt = 32)) : sgLY x q (f + 1) c b s z d = sgLY x q f (c + 1) b s z d := by sorry
theorem sg_si {x : TxY} {q c b s z d : Int} {f : Nat} (h : c = 112 ∨ (chrV 3 (Int32.ofInt c)).toInt = 32) : sgLY x q (f + 1) c b s z d = if z < c - b ∧ sthB x (c - b).toNat b q = true then sgLY x q f (c + 1) (c + 1) (s + 1) (c - b) s else sgLY x q f (c + 1) (c + 1) (s + 1) z d := by sorry
theorem sm_0 {x : TxY} {q : Int} : sthB x 1 0 q = (decide ((40 : Int) = btY x (q)) && true) := by sorry
theorem sg_0 {x : TxY} {q z d : Int} : sgLY x q 113 0 0 0 z d = if z < 1 ∧ (decide ((40 : Int) = btY x (q)) && true) = true then sgLY x q 111 2 2 1 1 0 else sgLY x q 111 2 2 1 z d := by sorry
theorem sm_1 {x : TxY} {q : Int} : sthB x 1 2 q = (decide ((41 : Int) = btY x (q)) && true) := by sorry
theorem sg_1 {x : TxY} {q z d : Int} : sgLY x q 111 2 2 1 z d = if z < 1 ∧ (decide ((41 : Int) = btY x (q)) && true) = true then sgLY x q 109 4 4 2 1 1 else sgLY x q 109 4 4 2 z d := by sorry
theorem sm_2 {x : TxY} {q : Int} : sthB x 1 4 q = (decide ((123 : Int) = btY x (q)) && true) := by sorry
theorem sg_2 {x : TxY} {q z d : Int} : sgLY x q 109 4 4 2 z d = if z < 1 ∧ (decide ((123 : Int) = btY x (q)) && true) = true then sgLY x q 107 6 6 3 1 2 else sgLY x q 107 6 6 3 z d := by sorry
theorem sm_3 {x : TxY} {q : Int} : sthB x 1 6 q = (decide ((125 : Int) = btY x (q)) && true) := by sorry
theorem sg_3 {x : TxY} {q z d : Int} : sgLY x q 107 6 6 3 z d = if z < 1 ∧ (decide ((125 : Int) = btY x (q)) && true) = true then sgLY x q 105 8 8 4 1 3 else sgLY x q 105 8 8 4 z d := by sorry
theorem sm_4 {x : TxY} {q : Int} : sthB x 1 8 q = (decide ((59 : Int) = btY x (q)) && true) := by sorry
theorem sg_4 {x : TxY} {q z d : Int} : sgLY x q 105 8 8 4 z d = if z < 1 ∧ (decide ((59 : Int) = btY x (q)) && true) = true then sgLY x q 103 10 10 5 1 4 else sgLY x q 103 10 10 5 z d := by sorry
theorem sm_5 {x : TxY} {q : Int} : sthB x 1 10 q = (decide ((44 : Int) = btY x (q)) && true) := by sorry
theorem sg_5 {x : TxY} {q z d : Int} : sgLY x q 103 10 10 5 z d = if z < 1 ∧ (decide ((44 : Int) = btY x (q)) && true) = true then sgLY x q 101 12 12 6 1 5 else sgLY x q 101 12 12 6 z d := by sorry
theorem sm_6 {x : TxY} {q : Int} : sthB x 1 12 q = (decide ((58 : Int) = btY x (q)) && true) := by sorry
theorem sg_6 {x : TxY} {q z d : Int} : sgLY x q 101 12 12 6 z d = if z < 1 ∧ (decide ((58 : Int) = btY x (q)) && true) = true then sgLY x q 99 14 14 7 1 6 else sgLY x q 99 14 14 7 z d := by sorry
theorem sm_7 {x : TxY} {q : Int} : sthB x 1 14 q = (decide ((63 : Int) = btY x (q)) && true) := by sorry
theorem sg_7 {x : TxY} {q z d : Int} : sgLY x q 99 14 14 7 z d = if z < 1 ∧ (decide ((63 : Int) = btY x (q)) && true) = true then sgLY x q 97 16 16 8 1 7 else sgLY x q 97 16 16 8 z d := by sorry
theorem sm_8 {x : TxY} {q : Int} : sthB x 1 16 q = (decide ((61 : Int) = btY x (q)) && true) := by sorry
theorem sg_8 {x : TxY} {q z d : Int} : sgLY x q 97 16 16 8 z d = if z < 1 ∧ (decide ((61 : Int) = btY x (q)) && true) = true then sgLY x q 95 18 18 9 1 8 else sgLY x q 95 18 18 9 z d := by sorry
theorem sm_9 {x : TxY} {q : Int} : sthB x 2 18 q = (decide ((43 : Int) = btY x (q)) && (decide ((61 : Int) = btY x (q + 1)) && true)) := by sorry
theorem sg_9 {x : TxY} {q z d : Int} : sgLY x q 95 18 18 9 z d = if z < 2 ∧ (decide ((43 : Int) = btY x (q)) && (decide ((61 : Int) = btY x (q + 1)) && true)) = true then sgLY x q 92 21 21 10 2 9 else sgLY x q 92 21 21 10 z d := by sorry
theorem sm_10 {x : TxY} {q : Int} : sthB x 2 21 q = (decide ((45 : Int) = btY x (q)) && (decide ((61 : Int) = btY x (q + 1)) && true)) := by sorry
theorem sg_10 {x : TxY} {q z d : Int} : sgLY x q 92 21 21 10 z d = if z < 2 ∧ (decide ((45 : Int) = btY x (q)) && (decide ((61 : Int) = btY x (q + 1)) && true)) = true then sgLY x q 89 24 24 11 2 10 else sgLY x q 89 24 24 11 z d := by sorry
theorem sm_11 {x : TxY} {q : Int} : sthB x 2 24 q = (decide ((42 : Int) = btY x (q)) && (decide ((61 : Int) = btY x (q + 1)) && true)) := by sorry
theorem sg_11 {x : TxY} {q z d : Int} : sgLY x q 89 24 24 11 z d = if z < 2 ∧ (decide ((42 : Int) = btY x (q)) && (decide ((61 : Int) = btY x (q + 1)) && true)) = true then sgLY x q 86 27 27 12 2 11 else sgLY x q 86 27 27 12 z d := by sorry
theorem sm_12 {x : TxY} {q : Int} : sthB x 2 27 q = (decide ((47 : Int) = btY x (q)) && (decide ((61 : Int) = btY x (q + 1)) && true)) := by sorry
theorem sg_12 {x : TxY} {q z d : Int} : sgLY x q 86 27 27 12 z d = if z < 2 ∧ (decide ((47 : Int) = btY x (q)) && (decide ((61 : Int) = btY x (q + 1)) && true)) = true then sgLY x q 83 30 30 13 2 12 else sgLY x q 83 30 30 13 z d := by sorry
theorem sm_13 {x : TxY} {q : Int} : sthB x 2 30 q = (decide ((37 : Int) = btY x (q)) && (decide ((61 : Int) = btY x (q + 1)) && true)) := by sorry
theorem sg_13 {x : TxY} {q z d : Int} : sgLY x q 83 30 30 13 z d = if z < 2 ∧ (decide ((37 : Int) = btY x (q)) && (decide ((61 : Int) = btY x (q + 1)) && true)) = true then sgLY x q 80 33 33 14 2 13 else sgLY x q 80 33 33 14 z d := by sorry
theorem sm_14 {x : TxY} {q : Int} : sthB x 2 33 q = (decide ((38 : Int) = btY x (q)) && (decide ((61 : Int) = btY x (q + 1)) && true)) := by sorry
theorem sg_14 {x : TxY} {q z d : Int} : sgLY x q 80 33 33 14 z d = if z < 2 ∧ (decide ((38 : Int) = btY x (q)) && (decide ((61 : Int) = btY x (q + 1)) && true)) = true then sgLY x q 77 36 36 15 2 14 else sgLY x q 77 36 36 15 z d := by sorry
theorem sm_15 {x : TxY} {q : Int} : sthB x 2 36 q = (decide ((124 : Int) = btY x (q)) && (decide ((61 : Int) = btY x (q + 1)) && true)) := by sorry
theorem sg_15 {x : TxY} {q z d : Int} : sgLY x q 77 36 36 15 z d = if z < 2 ∧ (decide ((124 : Int) = btY x (q)) && (decide ((61 : Int) = btY x (q + 1)) && true)) = true then sgLY x q 74 39 39 16 2 15 else sgLY x q 74 39 39 16 z d := by sorry
theorem sm_16 {x : TxY} {q : Int} : sthB x 2 39 q = (decide ((94 : Int) = btY x (q)) && (decide ((61 : Int) = btY x (q + 1)) && true)) := by sorry
theorem sg_16 {x : TxY} {q z d : Int} : sgLY x q 74 39 39 16 z d = if z < 2 ∧ (decide ((94 : Int) = btY x (q)) && (decide ((61 : Int) = btY x (q + 1)) && true)) = true then sgLY x q 71 42 42 17 2 16 else sgLY x q 71 42 42 17 z d := by sorry
theorem sm_17 {x : TxY} {q : Int} : sthB x 3 42 q = (decide ((60 : Int) = btY x (q)) && (decide ((60 : Int) = btY x (q + 1)) && (decide ((61 : Int) = btY x (q + 1 + 1)) && true))) := by sorry
theorem sg_17 {x : TxY} {q z d : Int} : sgLY x q 71 42 42 17 z d = if z < 3 ∧ (decide ((60 : Int) = btY x (q)) && (decide ((60 : Int) = btY x (q + 1)) && (decide ((61 : Int) = btY x (q + 1 + 1)) && true))) = true then sgLY x q 67 46 46 18 3 17 else sgLY x q 67 46 46 18 z d := by sorry
theorem sm_18 {x : TxY} {q : Int} : sthB x 3 46 q = (decide ((62 : Int) = btY x (q)) && (decide ((62 : Int) = btY x (q + 1)) && (decide ((61 : Int) = btY x (q + 1 + 1)) && true))) := by sorry
theorem sg_18 {x : TxY} {q z d : Int} : sgLY x q 67 46 46 18 z d = if z < 3 ∧ (decide ((62 : Int) = btY x (q)) && (decide ((62 : Int) = btY x (q + 1)) && (decide ((61 : Int) = btY x (q + 1 + 1)) && true))) = true then sgLY x q 63 50 50 19 3 18 else sgLY x q 63 50 50 19 z d := by sorry
theorem sm_19 {x : TxY} {q : Int} : sthB x 4 50 q = (decide ((62 : Int) = btY x (q)) && (decide ((62 : Int) = btY x (q + 1)) && (decide ((62 : Int) = btY x (q + 1 + 1)) && (decide ((61 : Int) = btY x (q + 1 + 1 + 1)) && true)))) := by sorry
theorem sg_19 {x : TxY} {q z d : Int} : sgLY x q 63 50 50 19 z d = if z < 4 ∧ (decide ((62 : Int) = btY x (q)) && (decide ((62 : Int) = btY x (q + 1)) && (decide ((62 : Int) = btY x (q + 1 + 1)) && (decide ((61 : Int) = btY x (q + 1 + 1 + 1)) && true)))) = true then sgLY x q 58 55 55 20 4 19 else sgLY x q 58 55 55 20 z d := by sorry
theorem sm_20 {x : TxY} {q : Int} : sthB x 2 55 q = (decide ((124 : Int) = btY x (q)) && (decide ((124 : Int) = btY x (q + 1)) && true)) := by sorry
theorem sg_20 {x : TxY} {q z d : Int} : sgLY x q 58 55 55 20 z d = if z < 2 ∧ (decide ((124 : Int) = btY x (q)) && (decide ((124 : Int) = btY x (q + 1)) && true)) = true then sgLY x q 55 58 58 21 2 20 else sgLY x q 55 58 58 21 z d := by sorry
theorem sm_21 {x : TxY} {q : Int} : sthB x 2 58 q = (decide ((38 : Int) = btY x (q)) && (decide ((38 : Int) = btY x (q + 1)) && true)) := by sorry
theorem sg_21 {x : TxY} {q z d : Int} : sgLY x q 55 58 58 21 z d = if z < 2 ∧ (decide ((38 : Int) = btY x (q)) && (decide ((38 : Int) = btY x (q + 1)) && true)) = true then sgLY x q 52 61 61 22 2 21 else sgLY x q 52 61 61 22 z d := by sorry
theorem sm_22 {x : TxY} {q : Int} : sthB x 1 61 q = (decide ((124 : Int) = btY x (q)) && true) := by sorry
theorem sg_22 {x : TxY} {q z d : Int} : sgLY x q 52 61 61 22 z d = if z < 1 ∧ (decide ((124 : Int) = btY x (q)) && true) = true then sgLY x q 50 63 63 23 1 22 else sgLY x q 50 63 63 23 z d := by sorry
theorem sm_23 {x : TxY} {q : Int} : sthB x 1 63 q = (decide ((94 : Int) = btY x (q)) && true) := by sorry
theorem sg_23 {x : TxY} {q z d : Int} : sgLY x q 50 63 63 23 z d = if z < 1 ∧ (decide ((94 : Int) = btY x (q)) && true) = true then sgLY x q 48 65 65 24 1 23 else sgLY x q 48 65 65 24 z d := by sorry
theorem sm_24 {x : TxY} {q : Int} : sthB x 1 65 q = (decide ((38 : Int) = btY x (q)) && true) := by sorry
theorem sg_24 {x : TxY} {q z d : Int} : sgLY x q 48 65 65 24 z d = if z < 1 ∧ (decide ((38 : Int) = btY x (q)) && true) = true then sgLY x q 46 67 67 25 1 24 else sgLY x q 46 67 67 25 z d := by sorry
theorem sm_25 {x : TxY} {q : Int} : sthB x 2 67 q = (decide ((61 : Int) = btY x (q)) && (decide ((61 : Int) = btY x (q + 1)) && true)) := by sorry
theorem sg_25 {x : TxY} {q z d : Int} : sgLY x q 46 67 67 25 z d = if z < 2 ∧ (decide ((61 : Int) = btY x (q)) && (decide ((61 : Int) = btY x (q + 1)) && true)) = true then sgLY x q 43 70 70 26 2 25 else sgLY x q 43 70 70 26 z d := by sorry
theorem sm_26 {x : TxY} {q : Int} : sthB x 2 70 q = (decide ((33 : Int) = btY x (q)) && (decide ((61 : Int) = btY x (q + 1)) && true)) := by sorry
theorem sg_26 {x : TxY} {q z d : Int} : sgLY x q 43 70 70 26 z d = if z < 2 ∧ (decide ((33 : Int) = btY x (q)) && (decide ((61 : Int) = btY x (q + 1)) && true)) = true then sgLY x q 40 73 73 27 2 26 else sgLY x q 40 73 73 27 z d := by sorry
theorem sm_27 {x : TxY} {q : Int} : sthB x 1 73 q = (decide ((60 : Int) = btY x (q)) && true) := by sorry
theorem sg_27 {x : TxY} {q z d : Int} : sgLY x q 40 73 73 27 z d = if z < 1 ∧ (decide ((60 : Int) = btY x (q)) && true) = true then sgLY x q 38 75 75 28 1 27 else sgLY x q 38 75 75 28 z d := by sorry
theorem sm_28 {x : TxY} {q : Int} : sthB x 2 75 q = (decide ((60 : Int) = btY x (q)) && (decide ((61 : Int) = btY x (q + 1)) && true)) := by sorry
theorem sg_28 {x : TxY} {q z d : Int} : sgLY x q 38 75 75 28 z d = if z < 2 ∧ (decide ((60 : Int) = btY x (q)) && (decide ((61 : Int) = btY x (q + 1)) && true)) = true then sgLY x q 35 78 78 29 2 28 else sgLY x q 35 78 78 29 z d := by sorry
theorem sm_29 {x : TxY} {q : Int} : sthB x 1 78 q = (decide ((62 : Int) = btY x (q)) && true) := by sorry
theorem sg_29 {x : TxY} {q z d : Int} : sgLY x q 35 78 78 29 z d = if z < 1 ∧ (decide ((62 : Int) = btY x (q)) && true) = true then sgLY x q 33 80 80 30 1 29 else sgLY x q 33 80 80 30 z d := by sorry
theorem sm_30 {x : TxY} {q : Int} : sthB x 2 80 q = (decide ((62 : Int) = btY x (q)) && (decide ((61 : Int) = btY x (q + 1)) && true)) := by sorry
theorem sg_30 {x : TxY} {q z d : Int} : sgLY x q 33 80 80 30 z d = if z < 2 ∧ (decide ((62 : Int) = btY x (q)) && (decide ((61 : Int) = btY x (q + 1)) && true)) = true then sgLY x q 30 83 83 31 2 30 else sgLY x q 30 83 83 31 z d := by sorry
theorem sm_31 {x : TxY} {q : Int} : sthB x 2 83 q = (decide ((60 : Int) = btY x (q)) && (decide ((60 : Int) = btY x (q + 1)) && true)) := by sorry
theorem sg_31 {x : TxY} {q z d : Int} : sgLY x q 30 83 83 31 z d = if z < 2 ∧ (decide ((60 : Int) = btY x (q)) && (decide ((60 : Int) = btY x (q + 1)) && true)) = true then sgLY x q 27 86 86 32 2 31 else sgLY x q 27 86 86 32 z d := by sorry
theorem sm_32 {x : TxY} {q : Int} : sthB x 2 86 q = (decide ((62 : Int) = btY x (q)) && (decide ((62 : Int) = btY x (q + 1)) && true)) := by sorry
theorem sg_32 {x : TxY} {q z d : Int} : sgLY x q 27 86 86 32 z d = if z < 2 ∧ (decide ((62 : Int) = btY x (q)) && (decide ((62 : Int) = btY x (q + 1)) && true)) = true then sgLY x q 24 89 89 33 2 32 else sgLY x q 24 89 89 33 z d := by sorry
theorem sm_33 {x : TxY} {q : Int} : sthB x 3 89 q = (decide ((62 : Int) = btY x (q)) && (decide ((62 : Int) = btY x (q + 1)) && (decide ((62 : Int) = btY x (q + 1 + 1)) && true))) := by sorry
theorem sg_33 {x : TxY} {q z d : Int} : sgLY x q 24 89 89 33 z d = if z < 3 ∧ (decide ((62 : Int) = btY x (q)) && (decide ((62 : Int) = btY x (q + 1)) && (decide ((62 : Int) = btY x (q + 1 + 1)) && true))) = true then sgLY x q 20 93 93 34 3 33 else sgLY x q 20 93 93 34 z d := by sorry
theorem sm_34 {x : TxY} {q : Int} : sthB x 1 93 q = (decide ((43 : Int) = btY x (q)) && true) := by sorry
theorem sg_34 {x : TxY} {q z d : Int} : sgLY x q 20 93 93 34 z d = if z < 1 ∧ (decide ((43 : Int) = btY x (q)) && true) = true then sgLY x q 18 95 95 35 1 34 else sgLY x q 18 95 95 35 z d := by sorry
theorem sm_35 {x : TxY} {q : Int} : sthB x 1 95 q = (decide ((45 : Int) = btY x (q)) && true) := by sorry
theorem sg_35 {x : TxY} {q z d : Int} : sgLY x q 18 95 95 35 z d = if z < 1 ∧ (decide ((45 : Int) = btY x (q)) && true) = true then sgLY x q 16 97 97 36 1 35 else sgLY x q 16 97 97 36 z d := by sorry
theorem sm_36 {x : TxY} {q : Int} : sthB x 1 97 q = (decide ((42 : Int) = btY x (q)) && true) := by sorry
theorem sg_36 {x : TxY} {q z d : Int} : sgLY x q 16 97 97 36 z d = if z < 1 ∧ (decide ((42 : Int) = btY x (q)) && true) = true then sgLY x q 14 99 99 37 1 36 else sgLY x q 14 99 99 37 z d := by sorry
theorem sm_37 {x : TxY} {q : Int} : sthB x 1 99 q = (decide ((47 : Int) = btY x (q)) && true) := by sorry
theorem sg_37 {x : TxY} {q z d : Int} : sgLY x q 14 99 99 37 z d = if z < 1 ∧ (decide ((47 : Int) = btY x (q)) && true) = true then sgLY x q 12 101 101 38 1 37 else sgLY x q 12 101 101 38 z d := by sorry
theorem sm_38 {x : TxY} {q : Int} : sthB x 1 101 q = (decide ((37 : Int) = btY x (q)) && true) := by sorry
theorem sg_38 {x : TxY} {q z d : Int} : sgLY x q 12 101 101 38 z d = if z < 1 ∧ (decide ((37 : Int) = btY x (q)) && true) = true then sgLY x q 10 103 103 39 1 38 else sgLY x q 10 103 103 39 z d := by sorry
theorem sm_39 {x : TxY} {q : Int} : sthB x 1 103 q = (decide ((33 : Int) = btY x (q)) && true) := by sorry
theorem sg_39 {x : TxY} {q z d : Int} : sgLY x q 10 103 103 39 z d = if z < 1 ∧ (decide ((33 : Int) = btY x (q)) && true) = true then sgLY x q 8 105 105 40 1 39 else sgLY x q 8 105 105 40 z d := by sorry
theorem sm_40 {x : TxY} {q : Int} : sthB x 1 105 q = (decide ((126 : Int) = btY x (q)) && true) := by sorry
theorem sg_40 {x : TxY} {q z d : Int} : sgLY x q 8 105 105 40 z d = if z < 1 ∧ (decide ((126 : Int) = btY x (q)) && true) = true then sgLY x q 6 107 107 41 1 40 else sgLY x q 6 107 107 41 z d := by sorry
theorem sm_41 {x : TxY} {q : Int} : sthB x 2 107 q = (decide ((43 : Int) = btY x (q)) && (decide ((43 : Int) = btY x (q + 1)) && true)) := by sorry
theorem sg_41 {x : TxY} {q z d : Int} : sgLY x q 6 107 107 41 z d = if z < 2 ∧ (decide ((43 : Int) = btY x (q)) && (decide ((43 : Int) = btY x (q + 1)) && true)) = true then sgLY x q 3 110 110 42 2 41 else sgLY x q 3 110 110 42 z d := by sorry
theorem sm_42 {x : TxY} {q : Int} : sthB x 2 110 q = (decide ((45 : Int) = btY x (q)) && (decide ((45 : Int) = btY x (q + 1)) && true)) := by sorry
theorem sg_42 {x : TxY} {q z d : Int} : sgLY x q 3 110 110 42 z d = if z < 2 ∧ (decide ((45 : Int) = btY x (q)) && (decide ((45 : Int) = btY x (q + 1)) && true)) = true then sgLY x q 0 113 113 43 2 42 else sgLY x q 0 113 113 43 z d := by sorry
theorem sg_z {x : TxY} {q c b s z d : Int} : sgLY x q 0 c b s z d = (z, d) := rfl
theorem bt_c {x : TxY} {q n : Int} : (n = btY x q) ↔ (btY x q = n) := eq_comm
abbrev sgAY (x : TxY) (q : Int) : Int × Int := sgnY (btY x q) (btY x (q + 1)) (btY x (q + 1 + 1)) (btY x (q + 1 + 1 + 1))
theorem sgb_33 {x : TxY} {q : Int} (h : btY x q = 33) : sgLY x q 113 0 0 0 0 0 = sgAY x q := by sorry
theorem sgb_37 {x : TxY} {q : Int} (h : btY x q = 37) : sgLY x q 113 0 0 0 0 0 = sgAY x q := by sorry
theorem sgb_38 {x : TxY} {q : Int} (h : btY x q = 38) : sgLY x q 113 0 0 0 0 0 = sgAY x q := by sorry
theorem sgb_40 {x : TxY} {q : Int} (h : btY x q = 40) : sgLY x q 113 0 0 0 0 0 = sgAY x q := by sorry
theorem sgb_41 {x : TxY} {q : Int} (h : btY x q = 41) : sgLY x q 113 0 0 0 0 0 = sgAY x q := by sorry
theorem sgb_42 {x : TxY} {q : Int} (h : btY x q = 42) : sgLY x q 113 0 0 0 0 0 = sgAY x q := by sorry
theorem sgb_43 {x : TxY} {q : Int} (h : btY x q = 43) : sgLY x q 113 0 0 0 0 0 = sgAY x q := by sorry
theorem sgb_44 {x : TxY} {q : Int} (h : btY x q = 44) : sgLY x q 113 0 0 0 0 0 = sgAY x q := by sorry
theorem sgb_45 {x : TxY} {q : Int} (h : btY x q = 45) : sgLY x q 113 0 0 0 0 0 = sgAY x q := by sorry
theorem sgb_47 {x : TxY} {q : Int} (h : btY x q = 47) : sgLY x q 113 0 0 0 0 0 = sgAY x q := by sorry
theorem sgb_58 {x : TxY} {q : Int} (h : btY x q = 58) : sgLY x q 113 0 0 0 0 0 = sgAY x q := by sorry
theorem sgb_59 {x : TxY} {q : Int} (h : btY x q = 59) : sgLY x q 113 0 0 0 0 0 = sgAY x q := by sorry
theorem sgb_60 {x : TxY} {q : Int} (h : btY x q = 60) : sgLY x q 113 0 0 0 0 0 = sgAY x q := by sorry
theorem sgb_61 {x : TxY} {q : Int} (h : btY x q = 61) : sgLY x q 113 0 0 0 0 0 = sgAY x q := by sorry
theorem sgb_62 {x : TxY} {q : Int} (h : btY x q = 62) : sgLY x q 113 0 0 0 0 0 = sgAY x q := by sorry
theorem sgb_63 {x : TxY} {q : Int} (h : btY x q = 63) : sgLY x q 113 0 0 0 0 0 = sgAY x q := by sorry
theorem sgb_94 {x : TxY} {q : Int} (h : btY x q = 94) : sgLY x q 113 0 0 0 0 0 = sgAY x q := by sorry
theorem sgb_123 {x : TxY} {q : Int} (h : btY x q = 123) : sgLY x q 113 0 0 0 0 0 = sgAY x q := by sorry
theorem sgb_124 {x : TxY} {q : Int} (h : btY x q = 124) : sgLY x q 113 0 0 0 0 0 = sgAY x q := by sorry
theorem sgb_125 {x : TxY} {q : Int} (h : btY x q = 125) : sgLY x q 113 0 0 0 0 0 = sgAY x q := by sorry
theorem sgb_126 {x : TxY} {q : Int} (h : btY x q = 126) : sgLY x q 113 0 0 0 0 0 = sgAY x q := by sorry
theorem sg_all {x : TxY} {q : Int} : (sgLY x q 113 0 0 0 0 0).1 = (sgAY x q).1 ∧ (0 < (sgAY x q).1 → (sgLY x q 113 0 0 0 0 0).2 = (sgAY x q).2) := by sorry
theorem hi_6 {h : Int64} {r : Int32} {a : Int} (hh : h.toInt = a) (h0 : 0 ≤ a) (h1 : a < 2 ^ 57) (r0 : 0 ≤ r.toInt ∧ r.toInt < 64) : (h <<< ((Int32.ofInt 6).toInt64 &&& 63) ||| r.toInt64).toInt = 64 * a + r.toInt := by sorry
abbrev alK (l : List Int) : Prop := ∀ d ∈ l, isLY d ∨ isDY d
theorem dgK_b {d : Int} (h : isLY d ∨ isDY d) : 1 ≤ dgK d ∧ dgK d < 64 := by sorry
theorem dgK_i {c d : Int} (hc : isLY c ∨ isDY c) (hd : isLY d ∨ isDY d) (h : dgK c = dgK d) : c = d := by sorry
def kyY (l : List Int) : Int := vlY 64 (l.map dgK)
theorem ky_lt : ∀ l : List Int, alK l → 0 ≤ kyY l ∧ kyY l + 1 ≤ 64 ^ l.length := by sorry
theorem map_dg : ∀ l m : List Int, alK l → alK m → l.map dgK = m.map dgK → l = m := by sorry
theorem ky_i {l m : List Int} (hl : alK l) (hm : alK m) (h : kyY l = kyY m) : l = m := by sorry
/-- the words, last letter first, in the class's order -/
def wkY : List (List Int) := [[110, 97, 101, 108, 111, 111, 98], [101, 116, 121, 98], [114, 97, 104, 99], [116, 110, 105], [103, 110, 111, 108], [100, 105, 111, 118], [102, 105], [101, 115, 108, 101], [101, 108, 105, 104, 119], [111, 100], [114, 111, 102], [104, 99, 116, 105, 119, 115], [101, 115, 97, 99], [116, 108, 117, 97, 102, 101, 100], [107, 97, 101, 114, 98], [101, 117, 110, 105, 116, 110, 111, 99], [110, 114, 117, 116, 101, 114], [119, 111, 114, 104, 116], [121, 114, 116], [104, 99, 116, 97, 99], [121, 108, 108, 97, 110, 105, 102], [108, 97, 110, 105, 102], [101, 117, 114, 116], [101, 115, 108, 97, 102]]
theorem wk_al : ∀ w ∈ wkY, alK w := by sorry
theorem wk_c {l : List Int} {d : Int} (h1 : ∀ j, j < 24 → l = wkY.getD j [] → d = 50 + j) (h2 : (∀ j, j < 24 → ¬ l = wkY.getD j []) → d = 80) : d = wcY l := by sorry
theorem ug306 (σ : CsC) (a : Nat) : gtC σ a 306 = .inr (.inr (fRC σ a 306)) := rfl
theorem lcmp0 {y : Int64} : (lg_cmp y y).toInt = 0 := by sorry
theorem ltrI {r c : Int} (h : r = if isLY c then 1 else 0) : (r = 1 ∧ ((97 ≤ c ∧ c ≤ 122) ∨ (65 ≤ c ∧ c ≤ 90))) ∨ (r = 0 ∧ ¬ ((97 ≤ c ∧ c ≤ 122) ∨ (65 ≤ c ∧ c ≤ 90))) := by sorry
theorem al_1 {c : Int} (h : (97 ≤ c ∧ c ≤ 122) ∨ (65 ≤ c ∧ c ≤ 90) ∨ (48 ≤ c ∧ c ≤ 57)) : isLY c ∨ isDY c := by sorry
theorem al_0 {c : Int} (h : ¬ ((97 ≤ c ∧ c ≤ 122) ∨ (65 ≤ c ∧ c ≤ 90) ∨ (48 ≤ c ∧ c ≤ 57))) : ¬ (isLY c ∨ isDY c) := by sorry
theorem pw6 (k : Nat) (h : k ≤ 9) : (64 : Int) ^ k ≤ 2 ^ 57 := by sorry
theorem ky_s {l : List Int} {v : Int64} {c : Int32} {b : Int} (hl : alK l) (h9 : l.length ≤ 9) (hv : v.toInt = kyY l) (hb : isLY b ∨ isDY b) (hc : c.toInt = dgK b) : (v <<< ((Int32.ofInt 6).toInt64 &&& 63) ||| c.toInt64).toInt = kyY (b :: l) := by sorry
/-- the words' keys -/
def WdC (σ : CsC) (p0 : Nat) : Prop := ∀ c, fRC σ p0 306 = some c → ∀ k, k < 24 → (eLC σ c k).toInt = kyY (wkY.getD k [])
abbrev Pp_name (x : TxY) : CpC := fun As σ => match As with
  | [.inr (.inr (some p0)), .inl p1] => TxC σ p0 x ∧ 0 ≤ p1.toInt ∧ p1.toInt < x.2 ∧ WdC σ p0
  | _ => False
abbrev naY (x : TxY) (i : Int) : Int × List Int := nmY x (x.2 - i).toNat i []
abbrev Qp_cutName (x : TxY) : CqC := fun As σ w τ => match As with
  | [.inr (.inr (some p0)), .inl p1] => ∀ r, w = some (.inl r) → (10 < (naY x p1.toInt).1 - p1.toInt ∧ r.toInt = 0 ∧ SaC σ τ) ∨ (¬ 10 < (naY x p1.toInt).1 - p1.toInt ∧ r.toInt = (naY x p1.toInt).1 - p1.toInt ∧ OnC σ τ p0 (wcY (naY x p1.toInt).2))
  | _ => True
theorem wk_g {k : Nat} (h : k < 24) : alK (wkY.getD k []) := (by decide : ∀ k : Fin 24, alK (wkY.getD k.1 [])) ⟨k, h⟩
theorem wk_d : ∀ a b : Nat, a < 24 → b < 24 → a ≠ b → wkY.getD a [] ≠ wkY.getD b [] := by sorry
theorem p_cutName (x : TxY) : PbC KX9_cutName [(189, P_X9_byteAt, Q_X9_byteAt), (192, P_X9_isLetter, Q_X9_isLetter), (185, P_X9_longerKey, Q_X9_longerKey), (193, P_X9_isDigit, Q_X9_isDigit)] [(189, U_byteAt), (192, U_isLetter), (193, U_isDigit), (185, U_longerKey)] (fun As σ => P_X9_cutName As σ ∧ Pp_name x As σ) (Qp_cutName x) := by sorry
abbrev U_cutName : CqC := fun As σ w τ => ∀ x, Pp_name x As σ → Qp_cutName x As σ w τ
theorem n_cutName (l : Launch) : CMetC l 2 194 P_X9_cutName (fun As σ w τ => Q_X9_cutName As σ w τ ∧ U_cutName As σ w τ) := by sorry
def FrC (σ τ : CsC) (p0 : Nat) : Prop := SaC σ τ ∨ ∃ d, OnC σ τ p0 d
abbrev Qp_cutOne (x : TxY) : CqC := fun As σ w τ => match As with
  | [.inr (.inr (some p0)), .inl p1] => ∀ r, w = some (.inl r) → r.toInt = (oneY x p1.toInt).1 ∧ (0 < r.toInt → OnC σ τ p0 (oneY x p1.toInt).2) ∧ FrC σ τ p0
  | _ => True
theorem on_n {x : TxY} {i : Int} (h : isLY (btY x i)) : oneY x i = if 10 < (naY x i).1 - i then (0, 85) else ((naY x i).1 - i, wcY (naY x i).2) := by sorry
theorem on_d {x : TxY} {i : Int} (h : ¬ isLY (btY x i)) (h2 : isDY (btY x i)) : oneY x i = if 19 < nuY x i - i then (0, 85) else if btY x (nuY x i) = 76 then (nuY x i + 1 - i, 82) else (nuY x i - i, 81) := by sorry
theorem on_c {x : TxY} {i : Int} (h : ¬ isLY (btY x i)) (h2 : ¬ isDY (btY x i)) (h3 : btY x i = 39) : oneY x i = if chrY x i then (3, 83) else (0, 85) := by sorry
theorem on_s {x : TxY} {i : Int} (h : ¬ isLY (btY x i)) (h2 : ¬ isDY (btY x i)) (h3 : ¬ btY x i = 39) : oneY x i = sgAY x i := by sorry
theorem lt1 {c : Int} (h : (97 ≤ c ∧ c ≤ 122) ∨ (65 ≤ c ∧ c ≤ 90)) : isLY c := h
theorem lt0 {c : Int} (h : ¬ ((97 ≤ c ∧ c ≤ 122) ∨ (65 ≤ c ∧ c ≤ 90))) : ¬ isLY c := h
theorem dg1 {c : Int} (h : 48 ≤ c ∧ c ≤ 57) : isDY c := h
theorem dg0 {c : Int} (h : ¬ (48 ≤ c ∧ c ≤ 57)) : ¬ isDY c := h
theorem p_cutOne (x : TxY) : PbC KX9_cutOne [(189, P_X9_byteAt, Q_X9_byteAt), (192, P_X9_isLetter, Q_X9_isLetter), (193, P_X9_isDigit, Q_X9_isDigit), (197, P_X9_cutSign, Q_X9_cutSign), (196, P_X9_cutCharacter, Q_X9_cutCharacter), (195, P_X9_cutNumber, Q_X9_cutNumber), (194, P_X9_cutName, Q_X9_cutName)] [(189, U_byteAt), (192, U_isLetter), (193, U_isDigit), (197, U_cutSign), (196, U_cutCharacter), (195, U_cutNumber), (194, U_cutName)] (fun As σ => P_X9_cutOne As σ ∧ Pp_name x As σ) (Qp_cutOne x) := by sorry
abbrev U_cutOne : CqC := fun As σ w τ => ∀ x, Pp_name x As σ → Qp_cutOne x As σ w τ
theorem n_cutOne (l : Launch) : CMetC l 13 191 P_X9_cutOne (fun As σ w τ => Q_X9_cutOne As σ w τ ∧ U_cutOne As σ w τ) := by sorry
/-- the first k characters of a constant, last first -/
def chL (s : Nat) : Nat → List Int
  | 0 => []
  | k + 1 => (chrV s (Int32.ofInt k)).toInt :: chL s k
abbrev Pp_keyOf (s : Nat) : CpC := fun As σ => match As with
  | [.inr (.inr (some p0))] => p0 = 1000003 + s ∧ (s = 1 ∨ s = 2)
  | _ => False
abbrev Qp_keyOf (s : Nat) : CqC := fun As σ w τ => match As with
  | [.inr (.inr (some p0))] => ∀ v, w = some (.inr (.inl v)) → v.toInt = kyY (chL s (slnC p0).toNat)
  | _ => True
theorem p_keyOf (s : Nat) : PbC KX9_keyOf [(239, P_J0_length_8abf5, Q_J0_length_8abf5), (238, P_J0_charAt_5068e, Q_J0_charAt_5068e), (185, P_X9_longerKey, Q_X9_longerKey)] [(185, U_longerKey)] (fun As σ => P_X9_keyOf As σ ∧ Pp_keyOf s As σ) (Qp_keyOf s) := by sorry
abbrev U_keyOf : CqC := fun As σ w τ => ∀ s, Pp_keyOf s As σ → Qp_keyOf s As σ w τ
theorem n_keyOf (l : Launch) : CMetC l 11 186 P_X9_keyOf (fun As σ w τ => Q_X9_keyOf As σ w τ ∧ U_keyOf As σ w τ) := by sorry
theorem ug300 (σ : CsC) (a : Nat) : gtC σ a 300 = .inr (.inr (fRC σ a 300)) := rfl
theorem ug301 (σ : CsC) (a : Nat) : gtC σ a 301 = .inr (.inr (fRC σ a 301)) := rfl
theorem ug303 (σ : CsC) (a : Nat) : gtC σ a 303 = .inr (.inr (fRC σ a 303)) := rfl
theorem eI_q1 {σ : CsC} {a : Nat} {f : Nat → Int32} : eIC (qIC σ a f) a = f := u1C_eq
theorem eI_q2 {σ : CsC} {a b : Nat} {f : Nat → Int32} (h : b ≠ a) : eIC (qIC σ a f) b = eIC σ b := u1C_ne h
theorem eI_p {σ : CsC} {a k : Nat} {v : Int32} : eIC (pIC σ a k v) = eIC σ := rfl
theorem up_1 {f : Nat → Int32} {n : Nat} {v : Int32} : upd f n v n = v := by sorry
theorem up_2 {f : Nat → Int32} {n j : Nat} {v : Int32} (h : ¬ j = n) : upd f n v j = f j := by sorry
/-- what stands in the rows of Tokens once k tokens are cut -/
def CtI (τ : CsC) (p0 a0 a1 a2 a3 p1 : Nat) (x : TxY) (k : Nat) : Prop :=
  (fRC τ p0 300 = some a0 ∧ fRC τ p0 301 = some a1 ∧ fRC τ p0 302 = some a2 ∧ fRC τ p0 303 = some a3 ∧ fRC τ p0 307 = some p1) ∧
  ((fIC τ p0 308).toInt = x.2 ∧ (fIC τ p0 305).toInt = k) ∧
  (∀ j : Nat, (j : Int) < x.2 → (eIC τ p1 j &&& 255).toInt = x.1 j) ∧
  ∀ j : Nat, j < k → (eIC τ a0 j).toInt = atY x j ∧ (eIC τ a1 j).toInt = (oneY x (atY x j)).1 ∧ (eIC τ a2 j).toInt = (oneY x (atY x j)).2 ∧ 0 < (oneY x (atY x j)).1 ∧ atY x j < x.2
/-- the words' row -/
def W6I (τ : CsC) (p0 a6 : Nat) : Prop := fRC τ p0 306 = some a6 ∧ (a6 < cnC τ ∧ tgC τ a6 = 102 ∧ ghC τ a6 = 5) ∧ ∀ k, k < 24 → (eLC τ a6 k).toInt = kyY (wkY.getD k [])
theorem W6I.w {τ : CsC} {p0 a6 : Nat} (h : W6I τ p0 a6) : WdC τ p0 := by sorry
theorem W6I.x {M : List Nat} {σ τ : CsC} {p0 a6 : Nat} (h : W6I σ p0 a6) (e : ExC M σ τ) (m : M.elem 996 = false) (f : fRC τ p0 306 = fRC σ p0 306) : W6I τ p0 a6 := by sorry
theorem CtI.tx {τ : CsC} {p0 a0 a1 a2 a3 p1 : Nat} {x : TxY} {k : Nat} (h : CtI τ p0 a0 a1 a2 a3 p1 x k) (hx : okY x) : TxC τ p0 x := by sorry
theorem CtI.ix {τ : CsC} {p0 a0 a1 a2 a3 p1 : Nat} {x : TxY} {k : Nat} (h : CtI τ p0 a0 a1 a2 a3 p1 x k) : (fIC τ p0 305).toNatClampNeg = k := by sorry
theorem CtI.fr {σ τ : CsC} {p0 a0 a1 a2 a3 p1 : Nat} {x : TxY} {k : Nat} (h : CtI σ p0 a0 a1 a2 a3 p1 x k) (f : FrC σ τ p0) (n0 : a0 ≠ a2) (n1 : a1 ≠ a2) (np : p1 ≠ a2) : CtI τ p0 a0 a1 a2 a3 p1 x k := by sorry
theorem CtI.step {τ : CsC} {p0 a0 a1 a2 a3 p1 : Nat} {x : TxY} {k n : Nat} {i r c : Int32} {f0 f1 f3 : Nat → Int32} (h : CtI τ p0 a0 a1 a2 a3 p1 x k) (h0 : (eIC τ a2 k).toInt = (oneY x (atY x k)).2) (hi : i.toInt = atY x k) (hr : r.toInt = (oneY x (atY x k)).1) (hr0 : 0 < r.toInt) (hl : atY x k < x.2) (n01 : a0 ≠ a1) (n03 : a0 ≠ a3) (n13 : a1 ≠ a3) (n20 : a2 ≠ a0) (n21 : a2 ≠ a1) (n23 : a2 ≠ a3) (np0 : p1 ≠ a0) (np1 : p1 ≠ a1) (np3 : p1 ≠ a3) (hn : n = k) (hf0 : f0 = upd (eIC τ a0) n i) (hf1 : f1 = upd (eIC (qIC τ a0 f0) a1) n r) (hc : c.toInt = k + 1) : CtI (pIC (qIC (qIC (qIC τ a0 f0) a1 f1) a3 f3) p0 305 c) p0 a0 a1 a2 a3 p1 x (k + 1) := by sorry
theorem W6I.s {τ : CsC} {p0 a6 a b c d : Nat} {f g h : Nat → Int32} {v : Int32} (q : W6I τ p0 a6) : W6I (pIC (qIC (qIC (qIC τ a f) b g) c h) d 305 v) p0 a6 := q
theorem CtI.beg {σ : CsC} {p0 a0 a1 a2 a3 p1 : Nat} {p2 : Int32} {x : TxY} (e0 : fRC σ p0 300 = some a0) (e1 : fRC σ p0 301 = some a1) (e2 : fRC σ p0 302 = some a2) (e3 : fRC σ p0 303 = some a3) (hx : x.2 = p2.toInt) (hb : ∀ j : Nat, (j : Int) < x.2 → (eIC σ p1 j &&& 255).toInt = x.1 j) : CtI (pIC (pIC (pRC σ p0 307 (some p1)) p0 308 p2) p0 305 (Int32.ofInt 0)) p0 a0 a1 a2 a3 p1 x 0 := by sorry
/-- all tokens are cut: n stand there, behind them an end (84), or what is no token (85) -/
def CuC (τ : CsC) (p0 p1 : Nat) (x : TxY) (n : Nat) : Prop := n ≤ 501 ∧ ∃ a0 a1 a2 a3, CtI τ p0 a0 a1 a2 a3 p1 x n ∧ (eIC τ a0 n).toInt = atY x n ∧ (((eIC τ a2 n).toInt = 84 ∧ (x.2 ≤ atY x n ∨ 500 < n)) ∨ ((eIC τ a2 n).toInt = 85 ∧ (oneY x (atY x n)).1 ≤ 0 ∧ atY x n < x.2 ∧ n ≤ 500))
theorem CuC.we {σ τ : CsC} {p0 p1 : Nat} {x : TxY} {n : Nat} (h : CuC σ p0 p1 x n) (e : WeC σ τ) : CuC τ p0 p1 x n := by sorry
theorem CtI.fin {τ : CsC} {p0 a0 a1 a2 a3 p1 : Nat} {x : TxY} {k n : Nat} {i v : Int32} {f0 f2 : Nat → Int32} (h : CtI τ p0 a0 a1 a2 a3 p1 x k) (hk : k ≤ 501) (hi : i.toInt = atY x k) (n20 : a2 ≠ a0) (n10 : a1 ≠ a0) (n12 : a1 ≠ a2) (np0 : p1 ≠ a0) (np2 : p1 ≠ a2) (hn : n = k) (hf0 : f0 = upd (eIC τ a0) n i) (hf2 : f2 = upd (eIC (qIC τ a0 f0) a2) n v) (hv : (v.toInt = 84 ∧ (x.2 ≤ atY x k ∨ 500 < k)) ∨ (v.toInt = 85 ∧ (oneY x (atY x k)).1 ≤ 0 ∧ atY x k < x.2 ∧ k ≤ 500)) : CuC (qIC (qIC τ a0 f0) a2 f2) p0 p1 x k := by sorry
/-- but for the rows of t and three of its fields nothing has changed -/
def FrT (σ τ : CsC) (t a0 a1 a2 a3 : Nat) : Prop := (∀ b k, ¬ (b = t ∧ (k = 305 ∨ k = 308)) → fIC τ b k = fIC σ b k) ∧ (∀ b k, ¬ (b = t ∧ k = 307) → fRC τ b k = fRC σ b k) ∧ ∀ a, a ≠ a0 → a ≠ a1 → a ≠ a2 → a ≠ a3 → eIC τ a = eIC σ a
theorem FrT.fr {σ τ υ : CsC} {t a0 a1 a2 a3 : Nat} (h : FrT σ τ t a0 a1 a2 a3) (f : FrC τ υ t) (e : fRC τ t 302 = some a2) : FrT σ υ t a0 a1 a2 a3 := by sorry
theorem FrT.st {σ τ : CsC} {t a0 a1 a2 a3 : Nat} {f0 f1 f3 : Nat → Int32} {c : Int32} (h : FrT σ τ t a0 a1 a2 a3) : FrT σ (pIC (qIC (qIC (qIC τ a0 f0) a1 f1) a3 f3) t 305 c) t a0 a1 a2 a3 := by sorry
theorem FrT.fn {σ τ : CsC} {t a0 a1 a2 a3 : Nat} {f0 f2 : Nat → Int32} (h : FrT σ τ t a0 a1 a2 a3) : FrT σ (qIC (qIC τ a0 f0) a2 f2) t a0 a1 a2 a3 := by sorry
theorem FrT.bg {σ : CsC} {t a0 a1 a2 a3 p1 : Nat} {p2 c : Int32} : FrT σ (pIC (pIC (pRC σ t 307 (some p1)) t 308 p2) t 305 c) t a0 a1 a2 a3 := by sorry
theorem FrT.we {σ τ υ : CsC} {t a0 a1 a2 a3 : Nat} (h : FrT σ τ t a0 a1 a2 a3) (e : WeC τ υ) : FrT σ υ t a0 a1 a2 a3 := by sorry
/-- the same, by the fields of t -/
def FrA (σ τ : CsC) (t : Nat) : Prop := (∀ b k, ¬ (b = t ∧ (k = 305 ∨ k = 308)) → fIC τ b k = fIC σ b k) ∧ (∀ b k, ¬ (b = t ∧ k = 307) → fRC τ b k = fRC σ b k) ∧ ∀ a, (∀ k, k = 300 ∨ k = 301 ∨ k = 302 ∨ k = 303 → ¬ fRC σ t k = some a) → eIC τ a = eIC σ a
theorem FrT.a {σ τ : CsC} {t a0 a1 a2 a3 : Nat} (h : FrT σ τ t a0 a1 a2 a3) (e0 : fRC σ t 300 = some a0) (e1 : fRC σ t 301 = some a1) (e2 : fRC σ t 302 = some a2) (e3 : fRC σ t 303 = some a3) : FrA σ τ t := by sorry
abbrev Pp_cutText (x : TxY) : CpC := fun As σ => match As with
  | [.inr (.inr (some p0)), .inr (.inr (some p1)), .inl p2] => (cnC σ < 1000000 ∧ x.2 = p2.toInt ∧ (∀ j : Nat, (j : Int) < x.2 → (eIC σ p1 j &&& 255).toInt = x.1 j) ∧ okY x) ∧ WdC σ p0
  | _ => False
abbrev Qp_cutText (x : TxY) : CqC := fun As σ w τ => match As with
  | [.inr (.inr (some p0)), .inr (.inr (some p1)), .inl p2] => (∃ n : Nat, CuC τ p0 p1 x n) ∧ FrA σ τ p0
  | _ => True
abbrev U_behindBlanks : CqC := fun As σ w τ => ∀ x, Pp_byteAt x As σ → Qp_behindBlanks x As σ w τ
theorem p_cutText (x : TxY) : PbC KX9_cutText [(190, P_X9_behindBlanks, Q_X9_behindBlanks), (191, P_X9_cutOne, Q_X9_cutOne)] [(190, U_behindBlanks), (191, U_cutOne)] (fun As σ => P_X9_cutText As σ ∧ Pp_cutText x As σ) (Qp_cutText x) := by sorry
abbrev U_cutText : CqC := fun As σ w τ => ∀ x, Pp_cutText x As σ → Qp_cutText x As σ w τ
theorem n_cutText (l : Launch) : CMetC l 14 188 P_X9_cutText (fun As σ w τ => Q_X9_cutText As σ w τ ∧ U_cutText As σ w τ) := by sorry
abbrev P_X2_markTarget : CpC := fun As σ => ∃ (p0 : Nat), As = [.inr (.inr (some p0))] ∧ HIC σ ∧ TyC σ p0 9
abbrev Q_X2_markTarget : CqC := fun As σ w τ => match As with
  | [.inr (.inr (some p0))] => w = none ∧ HIC τ ∧ ExC [283, 284] σ τ
  | _ => False
set_option maxRecDepth 100000 in
set_option maxHeartbeats 4000000 in
theorem b_X2_markTarget : TbC KX2_markTarget [(181, P_X8_hasFinallyAhead, Q_X8_hasFinallyAhead)] P_X2_markTarget Q_X2_markTarget := by sorry
theorem lg_X2_markTarget : ∀ (As : List AvC) (σ : CsC), P_X2_markTarget As σ → lgC As ≤ rX2_markTarget.2.2.1 := by sorry
theorem m_X2_markTarget (l : Launch) : CMetC l 2 27 P_X2_markTarget Q_X2_markTarget := by sorry
abbrev P_X2_toAside : CpC := fun As σ => ∃ (p0 : Nat) (p1 : Int64), As = [.inr (.inr (some p0)), .inr (.inl p1)] ∧ HIC σ ∧ TyC σ p0 3
abbrev Q_X2_toAside : CqC := fun As σ w τ => match As with
  | [.inr (.inr (some p0)), .inr (.inl p1)] => w = none ∧ HIC τ ∧ ExC [94] σ τ
  | _ => False
set_option maxRecDepth 100000 in
set_option maxHeartbeats 4000000 in
theorem b_X2_toAside : TbC KX2_toAside [] P_X2_toAside Q_X2_toAside := by sorry
theorem lg_X2_toAside : ∀ (As : List AvC) (σ : CsC), P_X2_toAside As σ → lgC As ≤ rX2_toAside.2.2.1 := by sorry
theorem m_X2_toAside (l : Launch) : CMetC l 1 46 P_X2_toAside Q_X2_toAside := by sorry
abbrev P_X2_fromAside : CpC := fun As σ => ∃ (p0 : Nat), As = [.inr (.inr (some p0))] ∧ HIC σ ∧ TyC σ p0 3
abbrev Q_X2_fromAside : CqC := fun As σ w τ => match As with
  | [.inr (.inr (some p0))] => ∃ r : Int64, w = some (.inr (.inl r)) ∧ HIC τ ∧ ExC [94] σ τ
  | _ => False
set_option maxRecDepth 100000 in
set_option maxHeartbeats 4000000 in
theorem b_X2_fromAside : TbC KX2_fromAside [] P_X2_fromAside Q_X2_fromAside := by sorry
theorem lg_X2_fromAside : ∀ (As : List AvC) (σ : CsC), P_X2_fromAside As σ → lgC As ≤ rX2_fromAside.2.2.1 := by sorry
theorem m_X2_fromAside (l : Launch) : CMetC l 1 47 P_X2_fromAside Q_X2_fromAside := by sorry
abbrev P_X2_fork : CpC := fun As σ => ∃ (p0 : Nat) (p1 : Int64) (p2 : Int64), As = [.inr (.inr (some p0)), .inr (.inl p1), .inr (.inl p2)] ∧ HIC σ ∧ TyC σ p0 3
abbrev Q_X2_fork : CqC := fun As σ w τ => match As with
  | [.inr (.inr (some p0)), .inr (.inl p1), .inr (.inl p2)] => w = none ∧ HIC τ ∧ ExC [94] σ τ
  | _ => False
set_option maxRecDepth 100000 in
set_option maxHeartbeats 4000000 in
theorem b_X2_fork : TbC KX2_fork [(46, P_X2_toAside, Q_X2_toAside)] P_X2_fork Q_X2_fork := by sorry
theorem lg_X2_fork : ∀ (As : List AvC) (σ : CsC), P_X2_fork As σ → lgC As ≤ rX2_fork.2.2.1 := by sorry
theorem m_X2_fork (l : Launch) : CMetC l 2 41 P_X2_fork Q_X2_fork := by sorry
abbrev P_X2_passElse : CpC := fun As σ => ∃ (p0 : Nat), As = [.inr (.inr (some p0))] ∧ HIC σ ∧ TyC σ p0 3
abbrev Q_X2_passElse : CqC := fun As σ w τ => match As with
  | [.inr (.inr (some p0))] => w = none ∧ HIC τ ∧ ExC [94] σ τ
  | _ => False
set_option maxRecDepth 100000 in
set_option maxHeartbeats 4000000 in
theorem b_X2_passElse : TbC KX2_passElse [(47, P_X2_fromAside, Q_X2_fromAside), (46, P_X2_toAside, Q_X2_toAside)] P_X2_passElse Q_X2_passElse := by sorry
theorem lg_X2_passElse : ∀ (As : List AvC) (σ : CsC), P_X2_passElse As σ → lgC As ≤ rX2_passElse.2.2.1 := by sorry
theorem m_X2_passElse (l : Launch) : CMetC l 2 42 P_X2_passElse Q_X2_passElse := by sorry
abbrev P_X2_join : CpC := fun As σ => ∃ (p0 : Nat) (p1 : Nat) (p2 : Int64), As = [.inr (.inr (some p0)), .inr (.inr (some p1)), .inr (.inl p2)] ∧ HIC σ ∧ TyC σ p0 3 ∧ TyC σ p1 2
abbrev Q_X2_join : CqC := fun As σ w τ => match As with
  | [.inr (.inr (some p0)), .inr (.inr (some p1)), .inr (.inl p2)] => w = none ∧ HIC τ ∧ ExC [] σ τ
  | _ => False
set_option maxRecDepth 100000 in
set_option maxHeartbeats 4000000 in
theorem b_X2_join : TbC KX2_join [] P_X2_join Q_X2_join := by sorry
theorem lg_X2_join : ∀ (As : List AvC) (σ : CsC), P_X2_join As σ → lgC As ≤ rX2_join.2.2.1 := by sorry
theorem m_X2_join (l : Launch) : CMetC l 1 45 P_X2_join Q_X2_join := by sorry
abbrev P_X2_takeValue : CpC := fun As σ => ∃ (p0 : Nat) (p1 : Nat), As = [.inr (.inr (some p0)), .inr (.inr (some p1))] ∧ HIC σ ∧ TyC σ p0 3 ∧ TyC σ p1 2
abbrev Q_X2_takeValue : CqC := fun As σ w τ => match As with
  | [.inr (.inr (some p0)), .inr (.inr (some p1))] => w = none ∧ HIC τ ∧ ExC [217, 218] σ τ
  | _ => False
set_option maxRecDepth 100000 in
set_option maxHeartbeats 4000000 in
theorem b_X2_takeValue : TbC KX2_takeValue [(45, P_X2_join, Q_X2_join), (221, P_X11_has, Q_X11_has), (118, P_X6_tell, Q_X6_tell)] P_X2_takeValue Q_X2_takeValue := by sorry
theorem lg_X2_takeValue : ∀ (As : List AvC) (σ : CsC), P_X2_takeValue As σ → lgC As ≤ rX2_takeValue.2.2.1 := by sorry
theorem m_X2_takeValue (l : Launch) : CMetC l 2 44 P_X2_takeValue Q_X2_takeValue := by sorry
abbrev P_X2_passChain : CpC := fun As σ => ∃ (p0 : Nat) (p1 : Nat), As = [.inr (.inr (some p0)), .inr (.inr (some p1))] ∧ HIC σ ∧ TyC σ p0 3 ∧ TyC σ p1 2
abbrev Q_X2_passChain : CqC := fun As σ w τ => match As with
  | [.inr (.inr (some p0)), .inr (.inr (some p1))] => w = none ∧ HIC τ ∧ ExC [94] σ τ
  | _ => False
set_option maxRecDepth 100000 in
set_option maxHeartbeats 4000000 in
theorem b_X2_passChain : TbC KX2_passChain [(45, P_X2_join, Q_X2_join), (47, P_X2_fromAside, Q_X2_fromAside)] P_X2_passChain Q_X2_passChain := by sorry
theorem lg_X2_passChain : ∀ (As : List AvC) (σ : CsC), P_X2_passChain As σ → lgC As ≤ rX2_passChain.2.2.1 := by sorry
theorem m_X2_passChain (l : Launch) : CMetC l 2 43 P_X2_passChain Q_X2_passChain := by sorry
abbrev P_X2_pass : CpC := fun As σ => ∃ (p0 : Nat) (p1 : Nat), As = [.inr (.inr (some p0)), .inr (.inr (some p1))] ∧ HIC σ ∧ TyC σ p0 3 ∧ TyC σ p1 2
abbrev Q_X2_pass : CqC := fun As σ w τ => match As with
  | [.inr (.inr (some p0)), .inr (.inr (some p1))] => w = none ∧ HIC τ ∧ ExC [94, 217, 218] σ τ
  | _ => False
set_option maxRecDepth 100000 in
set_option maxHeartbeats 4000000 in
theorem b_X2_pass : TbC KX2_pass [(44, P_X2_takeValue, Q_X2_takeValue), (45, P_X2_join, Q_X2_join), (43, P_X2_passChain, Q_X2_passChain), (47, P_X2_fromAside, Q_X2_fromAside), (222, P_X11_bit, Q_X11_bit), (41, P_X2_fork, Q_X2_fork), (42, P_X2_passElse, Q_X2_passElse)] P_X2_pass Q_X2_pass := by sorry
theorem lg_X2_pass : ∀ (As : List AvC) (σ : CsC), P_X2_pass As σ → lgC As ≤ rX2_pass.2.2.1 := by sorry
theorem m_X2_pass (l : Launch) : CMetC l 3 40 P_X2_pass Q_X2_pass := by sorry
abbrev P_X2_behindExp : CpC := fun As σ => ∃ (p0 : Nat) (p1 : Option Nat) (p2 : Int64), As = [.inr (.inr (some p0)), .inr (.inr p1), .inr (.inl p2)] ∧ HIC σ ∧ TyC σ p0 3 ∧ OtC σ p1 2
abbrev Q_X2_behindExp : CqC := fun As σ w τ => match As with
  | [.inr (.inr (some p0)), .inr (.inr p1), .inr (.inl p2)] => ∃ r : Int64, w = some (.inr (.inl r)) ∧ HIC τ ∧ ExC [94, 217, 218] σ τ
  | _ => False
set_option maxRecDepth 100000 in
set_option maxHeartbeats 4000000 in
theorem b_X2_behindExp : TbC KX2_behindExp [(234, P_Jx4a65c_size_8abf5, Q_Jx4a65c_size_8abf5), (235, P_Jx4a65c_get_915e3, Q_Jx4a65c_get_915e3), (40, P_X2_pass, Q_X2_pass)] P_X2_behindExp Q_X2_behindExp := by sorry
theorem lg_X2_behindExp : ∀ (As : List AvC) (σ : CsC), P_X2_behindExp As σ → lgC As ≤ rX2_behindExp.2.2.1 := by sorry
theorem m_X2_behindExp (l : Launch) : CMetC l 11 39 P_X2_behindExp Q_X2_behindExp := by sorry
abbrev P_X2_behindTold : CpC := fun As σ => ∃ (p0 : Nat) (p1 : Nat) (p2 : Int64), As = [.inr (.inr (some p0)), .inr (.inr (some p1)), .inr (.inl p2)] ∧ HIC σ ∧ TyC σ p0 3 ∧ TyC σ p1 9
abbrev Q_X2_behindTold : CqC := fun As σ w τ => match As with
  | [.inr (.inr (some p0)), .inr (.inr (some p1)), .inr (.inl p2)] => ∃ r : Int64, w = some (.inr (.inl r)) ∧ HIC τ ∧ ExC [94, 217, 218] σ τ
  | _ => False
set_option maxRecDepth 100000 in
set_option maxHeartbeats 4000000 in
theorem b_X2_behindTold : TbC KX2_behindTold [(39, P_X2_behindExp, Q_X2_behindExp), (222, P_X11_bit, Q_X11_bit)] P_X2_behindTold Q_X2_behindTold := by sorry
theorem lg_X2_behindTold : ∀ (As : List AvC) (σ : CsC), P_X2_behindTold As σ → lgC As ≤ rX2_behindTold.2.2.1 := by sorry
theorem m_X2_behindTold (l : Launch) : CMetC l 12 33 P_X2_behindTold Q_X2_behindTold := by sorry
abbrev P_X2_leadTo : CpC := fun As σ => ∃ (p0 : Nat) (p1 : Nat) (p2 : Int64), As = [.inr (.inr (some p0)), .inr (.inr (some p1)), .inr (.inl p2)] ∧ HIC σ ∧ TyC σ p0 3 ∧ TyC σ p1 9
abbrev Q_X2_leadTo : CqC := fun As σ w τ => match As with
  | [.inr (.inr (some p0)), .inr (.inr (some p1)), .inr (.inl p2)] => w = none ∧ HIC τ ∧ ExC [] σ τ
  | _ => False
set_option maxRecDepth 100000 in
set_option maxHeartbeats 4000000 in
theorem b_X2_leadTo : TbC KX2_leadTo [(181, P_X8_hasFinallyAhead, Q_X8_hasFinallyAhead)] P_X2_leadTo Q_X2_leadTo := by sorry
theorem lg_X2_leadTo : ∀ (As : List AvC) (σ : CsC), P_X2_leadTo As σ → lgC As ≤ rX2_leadTo.2.2.1 := by sorry
theorem m_X2_leadTo (l : Launch) : CMetC l 2 34 P_X2_leadTo Q_X2_leadTo := by sorry
abbrev P_X0_put : CpC := fun As σ => ∃ (p0 : Nat) (p1 : Int32) (p2 : Option Nat), As = [.inr (.inr (some p0)), .inl p1, .inr (.inr p2)] ∧ HIC σ ∧ TyC σ p0 1 ∧ OtC σ p2 2
abbrev Q_X0_put : CqC := fun As σ w τ => match As with
  | [.inr (.inr (some p0)), .inl p1, .inr (.inr p2)] => ∃ r : Int32, w = some (.inl r) ∧ HIC τ ∧ ExC [34] σ τ ∧ 0 ≤ r.toInt ∧ r.toInt ≤ 999
  | _ => False
set_option maxRecDepth 100000 in
set_option maxHeartbeats 4000000 in
theorem b_X0_put : TbC KX0_put [] P_X0_put Q_X0_put := by sorry
theorem lg_X0_put : ∀ (As : List AvC) (σ : CsC), P_X0_put As σ → lgC As ≤ rX0_put.2.2.1 := by sorry
theorem m_X0_put (l : Launch) : CMetC l 1 2 P_X0_put Q_X0_put := by sorry
abbrev P_X0_jumpTo : CpC := fun As σ => ∃ (p0 : Nat) (p1 : Int32) (p2 : Int32), As = [.inr (.inr (some p0)), .inl p1, .inl p2] ∧ HIC σ ∧ TyC σ p0 1
abbrev Q_X0_jumpTo : CqC := fun As σ w τ => match As with
  | [.inr (.inr (some p0)), .inl p1, .inl p2] => w = none ∧ HIC τ ∧ ExC [34] σ τ
  | _ => False
set_option maxRecDepth 100000 in
set_option maxHeartbeats 4000000 in
theorem b_X0_jumpTo : TbC KX0_jumpTo [(2, P_X0_put, Q_X0_put)] P_X0_jumpTo Q_X0_jumpTo := by sorry
theorem lg_X0_jumpTo : ∀ (As : List AvC) (σ : CsC), P_X0_jumpTo As σ → lgC As ≤ rX0_jumpTo.2.2.1 := by sorry
theorem m_X0_jumpTo (l : Launch) : CMetC l 2 3 P_X0_jumpTo Q_X0_jumpTo := by sorry
abbrev P_X0_layOne : CpC := fun As σ => ∃ (p0 : Nat) (p1 : Nat), As = [.inr (.inr (some p0)), .inr (.inr (some p1))] ∧ HIC σ ∧ TyC σ p0 1 ∧ TyC σ p1 2
abbrev Q_X0_layOne : CqC := fun As σ w τ => match As with
  | [.inr (.inr (some p0)), .inr (.inr (some p1))] => w = none ∧ HIC τ ∧ ExC [34, 77] σ τ
  | _ => False
set_option maxRecDepth 100000 in
set_option maxHeartbeats 4000000 in
theorem b_X0_layOne : TbC KX0_layOne [(2, P_X0_put, Q_X0_put)] P_X0_layOne Q_X0_layOne := by sorry
theorem lg_X0_layOne : ∀ (As : List AvC) (σ : CsC), P_X0_layOne As σ → lgC As ≤ rX0_layOne.2.2.1 := by sorry
theorem m_X0_layOne (l : Launch) : CMetC l 2 16 P_X0_layOne Q_X0_layOne := by sorry
abbrev P_X0_layExp : CpC := fun As σ => ∃ (p0 : Nat) (p1 : Option Nat), As = [.inr (.inr (some p0)), .inr (.inr p1)] ∧ HIC σ ∧ TyC σ p0 1 ∧ OtC σ p1 2
abbrev Q_X0_layExp : CqC := fun As σ w τ => match As with
  | [.inr (.inr (some p0)), .inr (.inr p1)] => w = none ∧ HIC τ ∧ ExC [34, 77] σ τ
  | _ => False
set_option maxRecDepth 100000 in
set_option maxHeartbeats 4000000 in
theorem b_X0_layExp : TbC KX0_layExp [(234, P_Jx4a65c_size_8abf5, Q_Jx4a65c_size_8abf5), (235, P_Jx4a65c_get_915e3, Q_Jx4a65c_get_915e3), (16, P_X0_layOne, Q_X0_layOne)] P_X0_layExp Q_X0_layExp := by sorry
theorem lg_X0_layExp : ∀ (As : List AvC) (σ : CsC), P_X0_layExp As σ → lgC As ≤ rX0_layExp.2.2.1 := by sorry
theorem m_X0_layExp (l : Launch) : CMetC l 11 15 P_X0_layExp Q_X0_layExp := by sorry
abbrev P_X0_layTold : CpC := fun As σ => ∃ (p0 : Nat) (p1 : Nat), As = [.inr (.inr (some p0)), .inr (.inr (some p1))] ∧ HIC σ ∧ TyC σ p0 1 ∧ TyC σ p1 9
abbrev Q_X0_layTold : CqC := fun As σ w τ => match As with
  | [.inr (.inr (some p0)), .inr (.inr (some p1))] => w = none ∧ HIC τ ∧ ExC [34, 77] σ τ
  | _ => False
set_option maxRecDepth 100000 in
set_option maxHeartbeats 4000000 in
theorem b_X0_layTold : TbC KX0_layTold [(15, P_X0_layExp, Q_X0_layExp), (2, P_X0_put, Q_X0_put)] P_X0_layTold Q_X0_layTold := by sorry
theorem lg_X0_layTold : ∀ (As : List AvC) (σ : CsC), P_X0_layTold As σ → lgC As ≤ rX0_layTold.2.2.1 := by sorry
theorem m_X0_layTold (l : Launch) : CMetC l 12 9 P_X0_layTold Q_X0_layTold := by sorry
abbrev P_X4_push : CpC := fun As σ => ∃ (p0 : Nat) (p1 : Int64), As = [.inr (.inr (some p0)), .inr (.inl p1)] ∧ HIC σ ∧ TyC σ p0 5
abbrev Q_X4_push : CqC := fun As σ w τ => match As with
  | [.inr (.inr (some p0)), .inr (.inl p1)] => w = none ∧ HIC τ ∧ ExC [162] σ τ
  | _ => False
set_option maxRecDepth 100000 in
set_option maxHeartbeats 4000000 in
theorem b_X4_push : TbC KX4_push [] P_X4_push Q_X4_push := by sorry
theorem lg_X4_push : ∀ (As : List AvC) (σ : CsC), P_X4_push As σ → lgC As ≤ rX4_push.2.2.1 := by sorry
theorem m_X4_push (l : Launch) : CMetC l 1 91 P_X4_push Q_X4_push := by sorry
abbrev P_X4_pop : CpC := fun As σ => ∃ (p0 : Nat), As = [.inr (.inr (some p0))] ∧ HIC σ ∧ TyC σ p0 5
abbrev Q_X4_pop : CqC := fun As σ w τ => match As with
  | [.inr (.inr (some p0))] => ∃ r : Int64, w = some (.inr (.inl r)) ∧ HIC τ ∧ ExC [162] σ τ
  | _ => False
set_option maxRecDepth 100000 in
set_option maxHeartbeats 4000000 in
theorem b_X4_pop : TbC KX4_pop [] P_X4_pop Q_X4_pop := by sorry
theorem lg_X4_pop : ∀ (As : List AvC) (σ : CsC), P_X4_pop As σ → lgC As ≤ rX4_pop.2.2.1 := by sorry
theorem m_X4_pop (l : Launch) : CMetC l 1 92 P_X4_pop Q_X4_pop := by sorry
abbrev P_X4_slot : CpC := fun As σ => ∃ (p0 : Nat) (p1 : Int32), As = [.inr (.inr (some p0)), .inl p1] ∧ HIC σ ∧ TyC σ p0 5
abbrev Q_X4_slot : CqC := fun As σ w τ => match As with
  | [.inr (.inr (some p0)), .inl p1] => ∃ r : Int32, w = some (.inl r) ∧ σ = τ ∧ 0 ≤ r.toInt ∧ r.toInt ≤ 1799
  | _ => False
set_option maxRecDepth 100000 in
set_option maxHeartbeats 4000000 in
theorem b_X4_slot : TbC KX4_slot [] P_X4_slot Q_X4_slot := by sorry
theorem lg_X4_slot : ∀ (As : List AvC) (σ : CsC), P_X4_slot As σ → lgC As ≤ rX4_slot.2.2.1 := by sorry
theorem m_X4_slot (l : Launch) : CMetC l 1 93 P_X4_slot Q_X4_slot := by sorry
abbrev P_X4_step : CpC := fun As σ => ∃ (p0 : Nat), As = [.inr (.inr (some p0))] ∧ HIC σ ∧ TyC σ p0 5
abbrev Q_X4_step : CqC := fun As σ w τ => match As with
  | [.inr (.inr (some p0))] => ∃ r : Int32, w = some (.inl r) ∧ HIC τ ∧ ExC [165, 169] σ τ ∧ 0 ≤ r.toInt ∧ r.toInt ≤ 1 ∧ (r.toInt = 1 → (fIC τ p0 167).toInt < (fIC τ p0 165).toInt)
  | _ => False
set_option maxRecDepth 100000 in
set_option maxHeartbeats 4000000 in
theorem b_X4_step : TbC KX4_step [] P_X4_step Q_X4_step := by sorry
theorem lg_X4_step : ∀ (As : List AvC) (σ : CsC), P_X4_step As σ → lgC As ≤ rX4_step.2.2.1 := by sorry
theorem m_X4_step (l : Launch) : CMetC l 1 94 P_X4_step Q_X4_step := by sorry
abbrev P_X4_prepare : CpC := fun As σ => ∃ (p0 : Nat) (p1 : Nat) (p2 : Int32), As = [.inr (.inr (some p0)), .inr (.inr (some p1)), .inl p2] ∧ HIC σ ∧ TyC σ p0 5 ∧ TyC σ p1 100 ∧ alC σ p1 = 40 ∧ ghC σ p1 = 0 ∧ 0 ≤ p2.toInt ∧ p2.toInt ≤ 40
abbrev Q_X4_prepare : CqC := fun As σ w τ => match As with
  | [.inr (.inr (some p0)), .inr (.inr (some p1)), .inl p2] => w = none ∧ HIC τ ∧ ExC [159, 160, 162, 163, 165, 166, 167, 168, 169] σ τ
  | _ => False
set_option maxRecDepth 100000 in
set_option maxHeartbeats 4000000 in
theorem b_X4_prepare : TbC KX4_prepare [] P_X4_prepare Q_X4_prepare := by sorry
theorem lg_X4_prepare : ∀ (As : List AvC) (σ : CsC), P_X4_prepare As σ → lgC As ≤ rX4_prepare.2.2.1 := by sorry
theorem m_X4_prepare (l : Launch) : CMetC l 1 88 P_X4_prepare Q_X4_prepare := by sorry
abbrev P_X4_tellNumber : CpC := fun As σ => ∃ (p0 : Nat) (p1 : Int64), As = [.inr (.inr (some p0)), .inr (.inl p1)] ∧ HIC σ ∧ TyC σ p0 5
abbrev Q_X4_tellNumber : CqC := fun As σ w τ => match As with
  | [.inr (.inr (some p0)), .inr (.inl p1)] => w = none ∧ HIC τ ∧ ExC [162, 166, 169] σ τ
  | _ => False
set_option maxRecDepth 100000 in
set_option maxHeartbeats 4000000 in
theorem b_X4_tellNumber : TbC KX4_tellNumber [(91, P_X4_push, Q_X4_push)] P_X4_tellNumber Q_X4_tellNumber := by sorry
theorem lg_X4_tellNumber : ∀ (As : List AvC) (σ : CsC), P_X4_tellNumber As σ → lgC As ≤ rX4_tellNumber.2.2.1 := by sorry
theorem m_X4_tellNumber (l : Launch) : CMetC l 2 101 P_X4_tellNumber Q_X4_tellNumber := by sorry
abbrev P_X4_enter : CpC := fun As σ => ∃ (p0 : Nat) (p1 : Nat), As = [.inr (.inr (some p0)), .inr (.inr (some p1))] ∧ HIC σ ∧ TyC σ p0 5 ∧ TyC σ p1 6
abbrev Q_X4_enter : CqC := fun As σ w τ => match As with
  | [.inr (.inr (some p0)), .inr (.inr (some p1))] => w = none ∧ HIC τ ∧ ExC [161, 162, 163, 169] σ τ
  | _ => False
set_option maxRecDepth 100000 in
set_option maxHeartbeats 4000000 in
theorem b_X4_enter : TbC KX4_enter [(93, P_X4_slot, Q_X4_slot), (92, P_X4_pop, Q_X4_pop)] P_X4_enter Q_X4_enter := by sorry
theorem lg_X4_enter : ∀ (As : List AvC) (σ : CsC), P_X4_enter As σ → lgC As ≤ rX4_enter.2.2.1 := by sorry
theorem m_X4_enter (l : Launch) : CMetC l 2 102 P_X4_enter Q_X4_enter := by sorry
abbrev P_X4_leaveCall : CpC := fun As σ => ∃ (p0 : Nat) (p1 : Int64), As = [.inr (.inr (some p0)), .inr (.inl p1)] ∧ HIC σ ∧ TyC σ p0 5
abbrev Q_X4_leaveCall : CqC := fun As σ w τ => match As with
  | [.inr (.inr (some p0)), .inr (.inl p1)] => w = none ∧ HIC τ ∧ ExC [161, 162, 163, 169] σ τ
  | _ => False
set_option maxRecDepth 100000 in
set_option maxHeartbeats 4000000 in
theorem b_X4_leaveCall : TbC KX4_leaveCall [(91, P_X4_push, Q_X4_push)] P_X4_leaveCall Q_X4_leaveCall := by sorry
theorem lg_X4_leaveCall : ∀ (As : List AvC) (σ : CsC), P_X4_leaveCall As σ → lgC As ≤ rX4_leaveCall.2.2.1 := by sorry
theorem m_X4_leaveCall (l : Launch) : CMetC l 2 103 P_X4_leaveCall Q_X4_leaveCall := by sorry
abbrev P_X4_operate : CpC := fun As σ => ∃ (p0 : Nat) (p1 : Nat) (p2 : Int64) (p3 : Int64), As = [.inr (.inr (some p0)), .inr (.inr (some p1)), .inr (.inl p2), .inr (.inl p3)] ∧ HIC σ ∧ TyC σ p0 5 ∧ TyC σ p1 2
abbrev Q_X4_operate : CqC := fun As σ w τ => match As with
  | [.inr (.inr (some p0)), .inr (.inr (some p1)), .inr (.inl p2), .inr (.inl p3)] => w = none ∧ HIC τ ∧ ExC [162, 169] σ τ
  | _ => False
set_option maxRecDepth 100000 in
set_option maxHeartbeats 4000000 in
theorem b_X4_operate : TbC KX4_operate [(227, P_X11_isDivision, Q_X11_isDivision), (229, P_X11_worked, Q_X11_worked), (91, P_X4_push, Q_X4_push)] P_X4_operate Q_X4_operate := by sorry
theorem lg_X4_operate : ∀ (As : List AvC) (σ : CsC), P_X4_operate As σ → lgC As ≤ rX4_operate.2.2.1 := by sorry
theorem m_X4_operate (l : Launch) : CMetC l 3 97 P_X4_operate Q_X4_operate := by sorry
abbrev P_X4_count : CpC := fun As σ => ∃ (p0 : Nat) (p1 : Nat), As = [.inr (.inr (some p0)), .inr (.inr (some p1))] ∧ HIC σ ∧ TyC σ p0 5 ∧ TyC σ p1 2
abbrev Q_X4_count : CqC := fun As σ w τ => match As with
  | [.inr (.inr (some p0)), .inr (.inr (some p1))] => w = none ∧ HIC τ ∧ ExC [162] σ τ
  | _ => False
set_option maxRecDepth 100000 in
set_option maxHeartbeats 4000000 in
theorem b_X4_count : TbC KX4_count [(93, P_X4_slot, Q_X4_slot), (228, P_X11_narrowed, Q_X11_narrowed), (91, P_X4_push, Q_X4_push)] P_X4_count Q_X4_count := by sorry
theorem lg_X4_count : ∀ (As : List AvC) (σ : CsC), P_X4_count As σ → lgC As ≤ rX4_count.2.2.1 := by sorry
theorem m_X4_count (l : Launch) : CMetC l 2 98 P_X4_count Q_X4_count := by sorry
abbrev P_X4_assign : CpC := fun As σ => ∃ (p0 : Nat) (p1 : Nat), As = [.inr (.inr (some p0)), .inr (.inr (some p1))] ∧ HIC σ ∧ TyC σ p0 5 ∧ TyC σ p1 2
abbrev Q_X4_assign : CqC := fun As σ w τ => match As with
  | [.inr (.inr (some p0)), .inr (.inr (some p1))] => w = none ∧ HIC τ ∧ ExC [162, 169] σ τ
  | _ => False
set_option maxRecDepth 100000 in
set_option maxHeartbeats 4000000 in
theorem b_X4_assign : TbC KX4_assign [(92, P_X4_pop, Q_X4_pop), (227, P_X11_isDivision, Q_X11_isDivision), (229, P_X11_worked, Q_X11_worked), (228, P_X11_narrowed, Q_X11_narrowed), (93, P_X4_slot, Q_X4_slot), (91, P_X4_push, Q_X4_push)] P_X4_assign Q_X4_assign := by sorry
theorem lg_X4_assign : ∀ (As : List AvC) (σ : CsC), P_X4_assign As σ → lgC As ≤ rX4_assign.2.2.1 := by sorry
theorem m_X4_assign (l : Launch) : CMetC l 3 99 P_X4_assign Q_X4_assign := by sorry
abbrev P_X4_call : CpC := fun As σ => ∃ (p0 : Nat) (p1 : Nat), As = [.inr (.inr (some p0)), .inr (.inr (some p1))] ∧ HIC σ ∧ TyC σ p0 5 ∧ TyC σ p1 2
abbrev Q_X4_call : CqC := fun As σ w τ => match As with
  | [.inr (.inr (some p0)), .inr (.inr (some p1))] => w = none ∧ HIC τ ∧ ExC [161, 162, 163, 165, 166, 167, 169] σ τ
  | _ => False
set_option maxRecDepth 100000 in
set_option maxHeartbeats 4000000 in
theorem b_X4_call : TbC KX4_call [(119, P_X6_methodOf, Q_X6_methodOf), (94, P_X4_step, Q_X4_step), (92, P_X4_pop, Q_X4_pop), (101, P_X4_tellNumber, Q_X4_tellNumber), (91, P_X4_push, Q_X4_push), (102, P_X4_enter, Q_X4_enter)] P_X4_call Q_X4_call := by sorry
theorem lg_X4_call : ∀ (As : List AvC) (σ : CsC), P_X4_call As σ → lgC As ≤ rX4_call.2.2.1 := by sorry
theorem m_X4_call (l : Launch) : CMetC l 12 100 P_X4_call Q_X4_call := by sorry
abbrev P_X4_work : CpC := fun As σ => ∃ (p0 : Nat) (p1 : Int32) (p2 : Nat), As = [.inr (.inr (some p0)), .inl p1, .inr (.inr (some p2))] ∧ HIC σ ∧ TyC σ p0 5 ∧ TyC σ p2 2
abbrev Q_X4_work : CqC := fun As σ w τ => match As with
  | [.inr (.inr (some p0)), .inl p1, .inr (.inr (some p2))] => w = none ∧ HIC τ ∧ ExC [161, 162, 163, 165, 166, 167, 169] σ τ
  | _ => False
set_option maxRecDepth 100000 in
set_option maxHeartbeats 4000000 in
theorem b_X4_work : TbC KX4_work [(91, P_X4_push, Q_X4_push), (93, P_X4_slot, Q_X4_slot), (92, P_X4_pop, Q_X4_pop), (232, P_X11_workedAlone, Q_X11_workedAlone), (228, P_X11_narrowed, Q_X11_narrowed), (97, P_X4_operate, Q_X4_operate), (98, P_X4_count, Q_X4_count), (99, P_X4_assign, Q_X4_assign), (100, P_X4_call, Q_X4_call)] P_X4_work Q_X4_work := by sorry
theorem lg_X4_work : ∀ (As : List AvC) (σ : CsC), P_X4_work As σ → lgC As ≤ rX4_work.2.2.1 := by sorry
theorem m_X4_work (l : Launch) : CMetC l 13 96 P_X4_work Q_X4_work := by sorry
abbrev P_X4_move : CpC := fun As σ => ∃ (p0 : Nat) (p1 : Int32) (p2 : Int32), As = [.inr (.inr (some p0)), .inl p1, .inl p2] ∧ HIC σ ∧ TyC σ p0 5
abbrev Q_X4_move : CqC := fun As σ w τ => match As with
  | [.inr (.inr (some p0)), .inl p1, .inl p2] => w = none ∧ HIC τ ∧ ExC [161, 162] σ τ
  | _ => False
set_option maxRecDepth 100000 in
set_option maxHeartbeats 4000000 in
theorem b_X4_move : TbC KX4_move [(93, P_X4_slot, Q_X4_slot), (92, P_X4_pop, Q_X4_pop), (91, P_X4_push, Q_X4_push)] P_X4_move Q_X4_move := by sorry
theorem lg_X4_move : ∀ (As : List AvC) (σ : CsC), P_X4_move As σ → lgC As ≤ rX4_move.2.2.1 := by sorry
theorem m_X4_move (l : Launch) : CMetC l 2 104 P_X4_move Q_X4_move := by sorry
abbrev P_X4_way : CpC := fun As σ => ∃ (p0 : Nat) (p1 : Nat), As = [.inr (.inr (some p0)), .inr (.inr (some p1))] ∧ HIC σ ∧ TyC σ p0 5 ∧ TyC σ p1 9
abbrev Q_X4_way : CqC := fun As σ w τ => match As with
  | [.inr (.inr (some p0)), .inr (.inr (some p1))] => ∃ r : Int32, w = some (.inl r) ∧ σ = τ ∧ 0 ≤ r.toInt ∧ r.toInt ≤ 629
  | _ => False
set_option maxRecDepth 100000 in
set_option maxHeartbeats 4000000 in
theorem b_X4_way : TbC KX4_way [] P_X4_way Q_X4_way := by sorry
theorem lg_X4_way : ∀ (As : List AvC) (σ : CsC), P_X4_way As σ → lgC As ≤ rX4_way.2.2.1 := by sorry
theorem m_X4_way (l : Launch) : CMetC l 1 106 P_X4_way Q_X4_way := by sorry
abbrev P_X4_choose : CpC := fun As σ => ∃ (p0 : Nat) (p1 : Nat) (p2 : Int64), As = [.inr (.inr (some p0)), .inr (.inr (some p1)), .inr (.inl p2)] ∧ HIC σ ∧ TyC σ p0 5 ∧ TyC σ p1 9
abbrev Q_X4_choose : CqC := fun As σ w τ => match As with
  | [.inr (.inr (some p0)), .inr (.inr (some p1)), .inr (.inl p2)] => w = none ∧ HIC τ ∧ ExC [161] σ τ
  | _ => False
set_option maxRecDepth 100000 in
set_option maxHeartbeats 4000000 in
theorem b_X4_choose : TbC KX4_choose [] P_X4_choose Q_X4_choose := by sorry
theorem lg_X4_choose : ∀ (As : List AvC) (σ : CsC), P_X4_choose As σ → lgC As ≤ rX4_choose.2.2.1 := by sorry
theorem m_X4_choose (l : Launch) : CMetC l 1 107 P_X4_choose Q_X4_choose := by sorry
abbrev P_X4_goInto : CpC := fun As σ => ∃ (p0 : Nat) (p1 : Nat), As = [.inr (.inr (some p0)), .inr (.inr (some p1))] ∧ HIC σ ∧ TyC σ p0 5 ∧ TyC σ p1 9
abbrev Q_X4_goInto : CqC := fun As σ w τ => match As with
  | [.inr (.inr (some p0)), .inr (.inr (some p1))] => w = none ∧ HIC τ ∧ ExC [161, 162] σ τ
  | _ => False
set_option maxRecDepth 100000 in
set_option maxHeartbeats 4000000 in
theorem b_X4_goInto : TbC KX4_goInto [] P_X4_goInto Q_X4_goInto := by sorry
theorem lg_X4_goInto : ∀ (As : List AvC) (σ : CsC), P_X4_goInto As σ → lgC As ≤ rX4_goInto.2.2.1 := by sorry
theorem m_X4_goInto (l : Launch) : CMetC l 1 109 P_X4_goInto Q_X4_goInto := by sorry
abbrev P_X4_behindMethod : CpC := fun As σ => ∃ (p0 : Nat) (p1 : Int32) (p2 : Int64), As = [.inr (.inr (some p0)), .inl p1, .inr (.inl p2)] ∧ HIC σ ∧ TyC σ p0 5
abbrev Q_X4_behindMethod : CqC := fun As σ w τ => match As with
  | [.inr (.inr (some p0)), .inl p1, .inr (.inl p2)] => ∃ r : Option Nat, w = some (.inr (.inr r)) ∧ HIC τ ∧ ExC [161, 162, 163, 169] σ τ ∧ OtC τ r 9
  | _ => False
set_option maxRecDepth 100000 in
set_option maxHeartbeats 4000000 in
theorem b_X4_behindMethod : TbC KX4_behindMethod [(103, P_X4_leaveCall, Q_X4_leaveCall)] P_X4_behindMethod Q_X4_behindMethod := by sorry
theorem lg_X4_behindMethod : ∀ (As : List AvC) (σ : CsC), P_X4_behindMethod As σ → lgC As ≤ rX4_behindMethod.2.2.1 := by sorry
theorem m_X4_behindMethod (l : Launch) : CMetC l 3 110 P_X4_behindMethod Q_X4_behindMethod := by sorry
abbrev P_X4_leave : CpC := fun As σ => ∃ (p0 : Nat) (p1 : Int32) (p2 : Int64) (p3 : Option Nat) (p4 : Option Nat), As = [.inr (.inr (some p0)), .inl p1, .inr (.inl p2), .inr (.inr p3), .inr (.inr p4)] ∧ HIC σ ∧ TyC σ p0 5 ∧ OtC σ p3 9 ∧ OtC σ p4 9
abbrev Q_X4_leave : CqC := fun As σ w τ => match As with
  | [.inr (.inr (some p0)), .inl p1, .inr (.inl p2), .inr (.inr p3), .inr (.inr p4)] => w = none ∧ HIC τ ∧ ExC [161, 162, 163, 169] σ τ
  | _ => False
set_option maxRecDepth 100000 in
set_option maxHeartbeats 4000000 in
theorem b_X4_leave : TbC KX4_leave [(181, P_X8_hasFinallyAhead, Q_X8_hasFinallyAhead), (110, P_X4_behindMethod, Q_X4_behindMethod), (106, P_X4_way, Q_X4_way), (109, P_X4_goInto, Q_X4_goInto), (182, P_X8_isCaught, Q_X8_isCaught), (93, P_X4_slot, Q_X4_slot)] P_X4_leave Q_X4_leave := by sorry
theorem lg_X4_leave : ∀ (As : List AvC) (σ : CsC), P_X4_leave As σ → lgC As ≤ rX4_leave.2.2.1 := by sorry
theorem m_X4_leave (l : Launch) : CMetC l 4 108 P_X4_leave Q_X4_leave := by sorry
abbrev P_X4_control : CpC := fun As σ => ∃ (p0 : Nat) (p1 : Int32) (p2 : Nat), As = [.inr (.inr (some p0)), .inl p1, .inr (.inr (some p2))] ∧ HIC σ ∧ TyC σ p0 5 ∧ TyC σ p2 9
abbrev Q_X4_control : CqC := fun As σ w τ => match As with
  | [.inr (.inr (some p0)), .inl p1, .inr (.inr (some p2))] => w = none ∧ HIC τ ∧ ExC [161, 162, 163, 165, 168, 169] σ τ
  | _ => False
set_option maxRecDepth 100000 in
set_option maxHeartbeats 4000000 in
theorem b_X4_control : TbC KX4_control [(94, P_X4_step, Q_X4_step), (92, P_X4_pop, Q_X4_pop), (107, P_X4_choose, Q_X4_choose), (108, P_X4_leave, Q_X4_leave), (106, P_X4_way, Q_X4_way), (103, P_X4_leaveCall, Q_X4_leaveCall)] P_X4_control Q_X4_control := by sorry
theorem lg_X4_control : ∀ (As : List AvC) (σ : CsC), P_X4_control As σ → lgC As ≤ rX4_control.2.2.1 := by sorry
theorem m_X4_control (l : Launch) : CMetC l 5 105 P_X4_control Q_X4_control := by sorry
abbrev P_X4_obey : CpC := fun As σ => ∃ (p0 : Nat), As = [.inr (.inr (some p0))] ∧ HIC σ ∧ TyC σ p0 5
abbrev Q_X4_obey : CqC := fun As σ w τ => match As with
  | [.inr (.inr (some p0))] => w = none ∧ HIC τ ∧ ExC [161, 162, 163, 165, 166, 167, 168, 169] σ τ
  | _ => False
set_option maxRecDepth 100000 in
set_option maxHeartbeats 4000000 in
theorem b_X4_obey : TbC KX4_obey [(105, P_X4_control, Q_X4_control), (104, P_X4_move, Q_X4_move), (96, P_X4_work, Q_X4_work), (108, P_X4_leave, Q_X4_leave)] P_X4_obey Q_X4_obey := by sorry
theorem lg_X4_obey : ∀ (As : List AvC) (σ : CsC), P_X4_obey As σ → lgC As ≤ rX4_obey.2.2.1 := by sorry
theorem m_X4_obey (l : Launch) : CMetC l 14 95 P_X4_obey Q_X4_obey := by sorry
abbrev P_X4_perform : CpC := fun As σ => ∃ (p0 : Nat) (p1 : Nat) (p2 : Nat) (p3 : Int32), As = [.inr (.inr (some p0)), .inr (.inr (some p1)), .inr (.inr (some p2)), .inl p3] ∧ HIC σ ∧ TyC σ p0 5 ∧ TyC σ p1 6 ∧ TyC σ p2 102 ∧ alC σ p2 = 6 ∧ 1 ≤ p3.toInt ∧ p3.toInt ≤ 20000
abbrev Q_X4_perform : CqC := fun As σ w τ => match As with
  | [.inr (.inr (some p0)), .inr (.inr (some p1)), .inr (.inr (some p2)), .inl p3] => ∃ r : Int32, w = some (.inl r) ∧ HIC τ ∧ ExC [161, 162, 163, 164, 165, 166, 167, 168, 169] σ τ
  | _ => False
set_option maxRecDepth 100000 in
set_option maxHeartbeats 4000000 in
theorem b_X4_perform : TbC KX4_perform [(94, P_X4_step, Q_X4_step), (102, P_X4_enter, Q_X4_enter), (228, P_X11_narrowed, Q_X11_narrowed), (91, P_X4_push, Q_X4_push), (95, P_X4_obey, Q_X4_obey)] P_X4_perform Q_X4_perform := by sorry
theorem lg_X4_perform : ∀ (As : List AvC) (σ : CsC), P_X4_perform As σ → lgC As ≤ rX4_perform.2.2.1 := by sorry
theorem m_X4_perform (l : Launch) : CMetC l 15 89 P_X4_perform Q_X4_perform := by sorry
abbrev P_X4_report : CpC := fun As σ => ∃ (p0 : Nat) (p1 : Int32), As = [.inr (.inr (some p0)), .inl p1] ∧ HIC σ ∧ TyC σ p0 5
abbrev Q_X4_report : CqC := fun As σ w τ => match As with
  | [.inr (.inr (some p0)), .inl p1] => ∃ r : Int64, w = some (.inr (.inl r)) ∧ σ = τ
  | _ => False
set_option maxRecDepth 100000 in
set_option maxHeartbeats 4000000 in
theorem b_X4_report : TbC KX4_report [] P_X4_report Q_X4_report := by sorry
theorem lg_X4_report : ∀ (As : List AvC) (σ : CsC), P_X4_report As σ → lgC As ≤ rX4_report.2.2.1 := by sorry
theorem m_X4_report (l : Launch) : CMetC l 1 90 P_X4_report Q_X4_report := by sorry
abbrev P_X2_reachRow (n : Nat) : CpC := fun As σ => ∃ (p0 : Nat) (p1 : Nat), As = [.inr (.inr (some p0)), .inr (.inr (some p1))] ∧ HIC σ ∧ TyC σ p0 3 ∧ TyC σ p1 9 ∧ RkC σ p1 n ∧ ¬ (fIC σ p1 270).toInt = 68
abbrev Q_X2_reachRow : CqC := fun As σ w τ => match As with
  | [.inr (.inr (some p0)), .inr (.inr (some p1))] => ∃ r : Int32, w = some (.inl r) ∧ HIC τ ∧ ExC [217, 218, 282, 283, 284] σ τ ∧ 0 ≤ r.toInt ∧ r.toInt ≤ 1
  | _ => False
abbrev P_X2_reachBody (n : Nat) : CpC := fun As σ => ∃ (p0 : Nat) (p1 : Nat) (p2 : Int32), As = [.inr (.inr (some p0)), .inr (.inr (some p1)), .inl p2] ∧ HIC σ ∧ TyC σ p0 3 ∧ TyC σ p1 9 ∧ 0 ≤ p2.toInt ∧ p2.toInt ≤ 1 ∧ RkC σ p1 n
abbrev Q_X2_reachBody : CqC := fun As σ w τ => match As with
  | [.inr (.inr (some p0)), .inr (.inr (some p1)), .inl p2] => ∃ r : Int32, w = some (.inl r) ∧ HIC τ ∧ ExC [217, 218, 282, 283, 284] σ τ ∧ 0 ≤ r.toInt ∧ r.toInt ≤ 1
  | _ => False
abbrev P_X2_reachSwitch (n : Nat) : CpC := fun As σ => ∃ (p0 : Nat) (p1 : Nat), As = [.inr (.inr (some p0)), .inr (.inr (some p1))] ∧ HIC σ ∧ TyC σ p0 3 ∧ TyC σ p1 9 ∧ RkC σ p1 n ∧ ¬ (fIC σ p1 270).toInt = 68
abbrev Q_X2_reachSwitch : CqC := fun As σ w τ => match As with
  | [.inr (.inr (some p0)), .inr (.inr (some p1))] => ∃ r : Int32, w = some (.inl r) ∧ HIC τ ∧ ExC [217, 218, 282, 283, 284] σ τ ∧ 0 ≤ r.toInt ∧ r.toInt ≤ 1
  | _ => False
abbrev P_X2_reachTry (n : Nat) : CpC := fun As σ => ∃ (p0 : Nat) (p1 : Nat), As = [.inr (.inr (some p0)), .inr (.inr (some p1))] ∧ HIC σ ∧ TyC σ p0 3 ∧ TyC σ p1 9 ∧ RkC σ p1 n ∧ (fIC σ p1 270).toInt = 68
abbrev Q_X2_reachTry : CqC := fun As σ w τ => match As with
  | [.inr (.inr (some p0)), .inr (.inr (some p1))] => ∃ r : Int32, w = some (.inl r) ∧ HIC τ ∧ ExC [217, 218, 282, 283, 284] σ τ ∧ 0 ≤ r.toInt ∧ r.toInt ≤ 1
  | _ => False
abbrev P_X2_reachInside (n : Nat) : CpC := fun As σ => ∃ (p0 : Nat) (p1 : Nat), As = [.inr (.inr (some p0)), .inr (.inr (some p1))] ∧ HIC σ ∧ TyC σ p0 3 ∧ TyC σ p1 9 ∧ RkC σ p1 n
abbrev Q_X2_reachInside : CqC := fun As σ w τ => match As with
  | [.inr (.inr (some p0)), .inr (.inr (some p1))] => ∃ r : Int32, w = some (.inl r) ∧ HIC τ ∧ ExC [217, 218, 282, 283, 284] σ τ ∧ 0 ≤ r.toInt ∧ r.toInt ≤ 1
  | _ => False
abbrev P_X2_reach (n : Nat) : CpC := fun As σ => ∃ (p0 : Nat) (p1 : Nat) (p2 : Int32), As = [.inr (.inr (some p0)), .inr (.inr (some p1)), .inl p2] ∧ HIC σ ∧ TyC σ p0 3 ∧ TyC σ p1 9 ∧ 0 ≤ p2.toInt ∧ p2.toInt ≤ 1 ∧ RkC σ p1 n
abbrev Q_X2_reach : CqC := fun As σ w τ => match As with
  | [.inr (.inr (some p0)), .inr (.inr (some p1)), .inl p2] => ∃ r : Int32, w = some (.inl r) ∧ HIC τ ∧ ExC [217, 218, 282, 283, 284] σ τ ∧ 0 ≤ r.toInt ∧ r.toInt ≤ 1
  | _ => False
abbrev P_X2_assignBody (n : Nat) : CpC := fun As σ => ∃ (p0 : Nat) (p1 : Nat) (p2 : Int64), As = [.inr (.inr (some p0)), .inr (.inr (some p1)), .inr (.inl p2)] ∧ HIC σ ∧ TyC σ p0 3 ∧ TyC σ p1 9 ∧ RkC σ p1 n
abbrev Q_X2_assignBody : CqC := fun As σ w τ => match As with
  | [.inr (.inr (some p0)), .inr (.inr (some p1)), .inr (.inl p2)] => ∃ r : Int64, w = some (.inr (.inl r)) ∧ HIC τ ∧ ExC [94, 217, 218] σ τ
  | _ => False
abbrev P_X2_behindIf (n : Nat) : CpC := fun As σ => ∃ (p0 : Nat) (p1 : Nat) (p2 : Int64), As = [.inr (.inr (some p0)), .inr (.inr (some p1)), .inr (.inl p2)] ∧ HIC σ ∧ TyC σ p0 3 ∧ TyC σ p1 9 ∧ RkC σ p1 n
abbrev Q_X2_behindIf : CqC := fun As σ w τ => match As with
  | [.inr (.inr (some p0)), .inr (.inr (some p1)), .inr (.inl p2)] => ∃ r : Int64, w = some (.inr (.inl r)) ∧ HIC τ ∧ ExC [94, 217, 218] σ τ
  | _ => False
abbrev P_X2_behindLoop (n : Nat) : CpC := fun As σ => ∃ (p0 : Nat) (p1 : Nat) (p2 : Int64), As = [.inr (.inr (some p0)), .inr (.inr (some p1)), .inr (.inl p2)] ∧ HIC σ ∧ TyC σ p0 3 ∧ TyC σ p1 9 ∧ RkC σ p1 n
abbrev Q_X2_behindLoop : CqC := fun As σ w τ => match As with
  | [.inr (.inr (some p0)), .inr (.inr (some p1)), .inr (.inl p2)] => ∃ r : Int64, w = some (.inr (.inl r)) ∧ HIC τ ∧ ExC [94, 217, 218] σ τ
  | _ => False
abbrev P_X2_behindSwitch (n : Nat) : CpC := fun As σ => ∃ (p0 : Nat) (p1 : Nat) (p2 : Int64), As = [.inr (.inr (some p0)), .inr (.inr (some p1)), .inr (.inl p2)] ∧ HIC σ ∧ TyC σ p0 3 ∧ TyC σ p1 9 ∧ RkC σ p1 n ∧ ¬ (fIC σ p1 270).toInt = 68
abbrev Q_X2_behindSwitch : CqC := fun As σ w τ => match As with
  | [.inr (.inr (some p0)), .inr (.inr (some p1)), .inr (.inl p2)] => ∃ r : Int64, w = some (.inr (.inl r)) ∧ HIC τ ∧ ExC [94, 217, 218] σ τ
  | _ => False
abbrev P_X2_behindTry (n : Nat) : CpC := fun As σ => ∃ (p0 : Nat) (p1 : Nat) (p2 : Int64), As = [.inr (.inr (some p0)), .inr (.inr (some p1)), .inr (.inl p2)] ∧ HIC σ ∧ TyC σ p0 3 ∧ TyC σ p1 9 ∧ RkC σ p1 n
abbrev Q_X2_behindTry : CqC := fun As σ w τ => match As with
  | [.inr (.inr (some p0)), .inr (.inr (some p1)), .inr (.inl p2)] => ∃ r : Int64, w = some (.inr (.inl r)) ∧ HIC τ ∧ ExC [94, 217, 218] σ τ
  | _ => False
abbrev P_X2_behind (n : Nat) : CpC := fun As σ => ∃ (p0 : Nat) (p1 : Nat) (p2 : Int64), As = [.inr (.inr (some p0)), .inr (.inr (some p1)), .inr (.inl p2)] ∧ HIC σ ∧ TyC σ p0 3 ∧ TyC σ p1 9 ∧ RkC σ p1 n
abbrev Q_X2_behind : CqC := fun As σ w τ => match As with
  | [.inr (.inr (some p0)), .inr (.inr (some p1)), .inr (.inl p2)] => ∃ r : Int64, w = some (.inr (.inl r)) ∧ HIC τ ∧ ExC [94, 217, 218] σ τ
  | _ => False
abbrev P_X2_assign (n : Nat) : CpC := fun As σ => ∃ (p0 : Nat) (p1 : Nat) (p2 : Int64), As = [.inr (.inr (some p0)), .inr (.inr (some p1)), .inr (.inl p2)] ∧ HIC σ ∧ TyC σ p0 3 ∧ TyC σ p1 9 ∧ RkC σ p1 n
abbrev Q_X2_assign : CqC := fun As σ w τ => match As with
  | [.inr (.inr (some p0)), .inr (.inr (some p1)), .inr (.inl p2)] => ∃ r : Int64, w = some (.inr (.inl r)) ∧ HIC τ ∧ ExC [94, 217, 218] σ τ
  | _ => False
abbrev P_X2_assignRow (n : Nat) : CpC := fun As σ => ∃ (p0 : Nat) (p1 : Option Nat) (p2 : Int64), As = [.inr (.inr (some p0)), .inr (.inr p1), .inr (.inl p2)] ∧ HIC σ ∧ TyC σ p0 3 ∧ OtC σ p1 9 ∧ (∀ b, p1 = some b → RowC σ b n)
abbrev Q_X2_assignRow : CqC := fun As σ w τ => match As with
  | [.inr (.inr (some p0)), .inr (.inr p1), .inr (.inl p2)] => ∃ r : Int64, w = some (.inr (.inl r)) ∧ HIC τ ∧ ExC [94, 217, 218] σ τ
  | _ => False
abbrev P_X0_layBody (n : Nat) : CpC := fun As σ => ∃ (p0 : Nat) (p1 : Nat), As = [.inr (.inr (some p0)), .inr (.inr (some p1))] ∧ HIC σ ∧ TyC σ p0 1 ∧ TyC σ p1 9 ∧ RkC σ p1 n ∧ ¬ (fIC σ p1 270).toInt = 68
abbrev Q_X0_layBody : CqC := fun As σ w τ => match As with
  | [.inr (.inr (some p0)), .inr (.inr (some p1))] => w = none ∧ HIC τ ∧ ExC [34, 36, 77, 289, 290] σ τ
  | _ => False
abbrev P_X0_layIf (n : Nat) : CpC := fun As σ => ∃ (p0 : Nat) (p1 : Nat), As = [.inr (.inr (some p0)), .inr (.inr (some p1))] ∧ HIC σ ∧ TyC σ p0 1 ∧ TyC σ p1 9 ∧ RkC σ p1 n
abbrev Q_X0_layIf : CqC := fun As σ w τ => match As with
  | [.inr (.inr (some p0)), .inr (.inr (some p1))] => w = none ∧ HIC τ ∧ ExC [34, 36, 77, 289, 290] σ τ
  | _ => False
abbrev P_X0_layWhile (n : Nat) : CpC := fun As σ => ∃ (p0 : Nat) (p1 : Nat), As = [.inr (.inr (some p0)), .inr (.inr (some p1))] ∧ HIC σ ∧ TyC σ p0 1 ∧ TyC σ p1 9 ∧ RkC σ p1 n
abbrev Q_X0_layWhile : CqC := fun As σ w τ => match As with
  | [.inr (.inr (some p0)), .inr (.inr (some p1))] => w = none ∧ HIC τ ∧ ExC [34, 36, 77, 289, 290] σ τ
  | _ => False
abbrev P_X0_layDo (n : Nat) : CpC := fun As σ => ∃ (p0 : Nat) (p1 : Nat), As = [.inr (.inr (some p0)), .inr (.inr (some p1))] ∧ HIC σ ∧ TyC σ p0 1 ∧ TyC σ p1 9 ∧ RkC σ p1 n
abbrev Q_X0_layDo : CqC := fun As σ w τ => match As with
  | [.inr (.inr (some p0)), .inr (.inr (some p1))] => w = none ∧ HIC τ ∧ ExC [34, 36, 77, 289, 290] σ τ
  | _ => False
abbrev P_X0_layFor (n : Nat) : CpC := fun As σ => ∃ (p0 : Nat) (p1 : Nat), As = [.inr (.inr (some p0)), .inr (.inr (some p1))] ∧ HIC σ ∧ TyC σ p0 1 ∧ TyC σ p1 9 ∧ RkC σ p1 n ∧ (fIC σ p1 270).toInt = 60
abbrev Q_X0_layFor : CqC := fun As σ w τ => match As with
  | [.inr (.inr (some p0)), .inr (.inr (some p1))] => w = none ∧ HIC τ ∧ ExC [34, 36, 77, 289, 290] σ τ
  | _ => False
abbrev P_X0_layTry (n : Nat) : CpC := fun As σ => ∃ (p0 : Nat) (p1 : Nat), As = [.inr (.inr (some p0)), .inr (.inr (some p1))] ∧ HIC σ ∧ TyC σ p0 1 ∧ TyC σ p1 9 ∧ RkC σ p1 n ∧ (fIC σ p1 270).toInt = 68
abbrev Q_X0_layTry : CqC := fun As σ w τ => match As with
  | [.inr (.inr (some p0)), .inr (.inr (some p1))] => w = none ∧ HIC τ ∧ ExC [34, 36, 77, 289, 290] σ τ
  | _ => False
abbrev P_X0_layInside (n : Nat) : CpC := fun As σ => ∃ (p0 : Nat) (p1 : Nat), As = [.inr (.inr (some p0)), .inr (.inr (some p1))] ∧ HIC σ ∧ TyC σ p0 1 ∧ TyC σ p1 9 ∧ RkC σ p1 n
abbrev Q_X0_layInside : CqC := fun As σ w τ => match As with
  | [.inr (.inr (some p0)), .inr (.inr (some p1))] => w = none ∧ HIC τ ∧ ExC [34, 36, 77, 289, 290] σ τ
  | _ => False
abbrev P_X0_layStatement (n : Nat) : CpC := fun As σ => ∃ (p0 : Nat) (p1 : Nat), As = [.inr (.inr (some p0)), .inr (.inr (some p1))] ∧ HIC σ ∧ TyC σ p0 1 ∧ TyC σ p1 9 ∧ RkC σ p1 n
abbrev Q_X0_layStatement : CqC := fun As σ w τ => match As with
  | [.inr (.inr (some p0)), .inr (.inr (some p1))] => w = none ∧ HIC τ ∧ ExC [34, 36, 77, 289, 290] σ τ
  | _ => False
abbrev P_X0_layInner (n : Nat) : CpC := fun As σ => ∃ (p0 : Nat) (p1 : Option Nat), As = [.inr (.inr (some p0)), .inr (.inr p1)] ∧ HIC σ ∧ TyC σ p0 1 ∧ OtC σ p1 9 ∧ (∀ b, p1 = some b → RkC σ b n)
abbrev Q_X0_layInner : CqC := fun As σ w τ => match As with
  | [.inr (.inr (some p0)), .inr (.inr p1)] => w = none ∧ HIC τ ∧ ExC [34, 36, 77, 289, 290] σ τ
  | _ => False
abbrev P_X0_layRow (n : Nat) : CpC := fun As σ => ∃ (p0 : Nat) (p1 : Option Nat), As = [.inr (.inr (some p0)), .inr (.inr p1)] ∧ HIC σ ∧ TyC σ p0 1 ∧ OtC σ p1 9 ∧ (∀ b, p1 = some b → RowC σ b n)
abbrev Q_X0_layRow : CqC := fun As σ w τ => match As with
  | [.inr (.inr (some p0)), .inr (.inr p1)] => w = none ∧ HIC τ ∧ ExC [34, 36, 77, 289, 290] σ τ
  | _ => False
set_option maxRecDepth 100000 in
set_option maxHeartbeats 4000000 in
theorem b_X2_reachRow (d : Nat) : TbC KX2_reachRow [(22, (P_X2_reach d), Q_X2_reach)] (P_X2_reachRow (d + 1)) Q_X2_reachRow := by sorry
theorem lg_X2_reachRow (d : Nat) : ∀ (As : List AvC) (σ : CsC), (P_X2_reachRow (d + 1)) As σ → lgC As ≤ rX2_reachRow.2.2.1 := by sorry
theorem s_X2_reachRow (l : Launch) (d : Nat) (h_X2_reach : CMetC l (8 * d + 23) 22 (P_X2_reach d) Q_X2_reach) : CMetC l (8 * (d + 1) + 21) 21 (P_X2_reachRow (d + 1)) Q_X2_reachRow := by sorry
set_option maxRecDepth 100000 in
set_option maxHeartbeats 4000000 in
theorem b_X2_reachBody (d : Nat) : TbC KX2_reachBody [(22, (P_X2_reach d), Q_X2_reach)] (P_X2_reachBody (d + 1)) Q_X2_reachBody := by sorry
theorem lg_X2_reachBody (d : Nat) : ∀ (As : List AvC) (σ : CsC), (P_X2_reachBody (d + 1)) As σ → lgC As ≤ rX2_reachBody.2.2.1 := by sorry
theorem s_X2_reachBody (l : Launch) (d : Nat) (h_X2_reach : CMetC l (8 * d + 23) 22 (P_X2_reach d) Q_X2_reach) : CMetC l (8 * (d + 1) + 21) 24 (P_X2_reachBody (d + 1)) Q_X2_reachBody := by sorry
set_option maxRecDepth 100000 in
set_option maxHeartbeats 4000000 in
theorem b_X2_reachSwitch (d : Nat) : TbC KX2_reachSwitch [(22, (P_X2_reach d), Q_X2_reach)] (P_X2_reachSwitch (d + 1)) Q_X2_reachSwitch := by sorry
theorem lg_X2_reachSwitch (d : Nat) : ∀ (As : List AvC) (σ : CsC), (P_X2_reachSwitch (d + 1)) As σ → lgC As ≤ rX2_reachSwitch.2.2.1 := by sorry
theorem s_X2_reachSwitch (l : Launch) (d : Nat) (h_X2_reach : CMetC l (8 * d + 23) 22 (P_X2_reach d) Q_X2_reach) : CMetC l (8 * (d + 1) + 21) 25 (P_X2_reachSwitch (d + 1)) Q_X2_reachSwitch := by sorry
set_option maxRecDepth 100000 in
set_option maxHeartbeats 4000000 in
theorem b_X2_reachTry (d : Nat) : TbC KX2_reachTry [(21, (P_X2_reachRow d), Q_X2_reachRow)] (P_X2_reachTry (d + 1)) Q_X2_reachTry := by sorry
theorem lg_X2_reachTry (d : Nat) : ∀ (As : List AvC) (σ : CsC), (P_X2_reachTry (d + 1)) As σ → lgC As ≤ rX2_reachTry.2.2.1 := by sorry
theorem s_X2_reachTry (l : Launch) (d : Nat) (h_X2_reachRow : CMetC l (8 * d + 21) 21 (P_X2_reachRow d) Q_X2_reachRow) : CMetC l (8 * (d + 1) + 21) 26 (P_X2_reachTry (d + 1)) Q_X2_reachTry := by sorry
set_option maxRecDepth 100000 in
set_option maxHeartbeats 4000000 in
theorem b_X2_reachInside (d : Nat) : TbC KX2_reachInside [(21, (P_X2_reachRow (d + 1)), Q_X2_reachRow), (24, (P_X2_reachBody (d + 1)), Q_X2_reachBody), (22, (P_X2_reach d), Q_X2_reach), (183, P_X8_isAlways, Q_X8_isAlways), (25, (P_X2_reachSwitch (d + 1)), Q_X2_reachSwitch), (27, P_X2_markTarget, Q_X2_markTarget), (26, (P_X2_reachTry (d + 1)), Q_X2_reachTry)] (P_X2_reachInside (d + 1)) Q_X2_reachInside := by sorry
theorem lg_X2_reachInside (d : Nat) : ∀ (As : List AvC) (σ : CsC), (P_X2_reachInside (d + 1)) As σ → lgC As ≤ rX2_reachInside.2.2.1 := by sorry
theorem s_X2_reachInside (l : Launch) (d : Nat) (h_X2_reachRow : CMetC l (8 * (d + 1) + 21) 21 (P_X2_reachRow (d + 1)) Q_X2_reachRow) (h_X2_reachBody : CMetC l (8 * (d + 1) + 21) 24 (P_X2_reachBody (d + 1)) Q_X2_reachBody) (h_X2_reach : CMetC l (8 * d + 23) 22 (P_X2_reach d) Q_X2_reach) (h_X2_reachSwitch : CMetC l (8 * (d + 1) + 21) 25 (P_X2_reachSwitch (d + 1)) Q_X2_reachSwitch) (h_X2_reachTry : CMetC l (8 * (d + 1) + 21) 26 (P_X2_reachTry (d + 1)) Q_X2_reachTry) : CMetC l (8 * (d + 1) + 22) 23 (P_X2_reachInside (d + 1)) Q_X2_reachInside := by sorry
set_option maxRecDepth 100000 in
set_option maxHeartbeats 4000000 in
theorem b_X2_reach (d : Nat) : TbC KX2_reach [(23, (P_X2_reachInside (d + 1)), Q_X2_reachInside), (118, P_X6_tell, Q_X6_tell)] (P_X2_reach (d + 1)) Q_X2_reach := by sorry
theorem lg_X2_reach (d : Nat) : ∀ (As : List AvC) (σ : CsC), (P_X2_reach (d + 1)) As σ → lgC As ≤ rX2_reach.2.2.1 := by sorry
theorem s_X2_reach (l : Launch) (d : Nat) (h_X2_reachInside : CMetC l (8 * (d + 1) + 22) 23 (P_X2_reachInside (d + 1)) Q_X2_reachInside) : CMetC l (8 * (d + 1) + 23) 22 (P_X2_reach (d + 1)) Q_X2_reach := by sorry
set_option maxRecDepth 100000 in
set_option maxHeartbeats 4000000 in
theorem b_X2_assignBody (d : Nat) : TbC KX2_assignBody [(29, (P_X2_assign d), Q_X2_assign)] (P_X2_assignBody (d + 1)) Q_X2_assignBody := by sorry
theorem lg_X2_assignBody (d : Nat) : ∀ (As : List AvC) (σ : CsC), (P_X2_assignBody (d + 1)) As σ → lgC As ≤ rX2_assignBody.2.2.1 := by sorry
theorem s_X2_assignBody (l : Launch) (d : Nat) (h_X2_assign : CMetC l (8 * d + 24) 29 (P_X2_assign d) Q_X2_assign) : CMetC l (8 * (d + 1) + 21) 31 (P_X2_assignBody (d + 1)) Q_X2_assignBody := by sorry
set_option maxRecDepth 100000 in
set_option maxHeartbeats 4000000 in
theorem b_X2_behindIf (d : Nat) : TbC KX2_behindIf [(39, P_X2_behindExp, Q_X2_behindExp), (31, (P_X2_assignBody (d + 1)), Q_X2_assignBody), (29, (P_X2_assign d), Q_X2_assign)] (P_X2_behindIf (d + 1)) Q_X2_behindIf := by sorry
theorem lg_X2_behindIf (d : Nat) : ∀ (As : List AvC) (σ : CsC), (P_X2_behindIf (d + 1)) As σ → lgC As ≤ rX2_behindIf.2.2.1 := by sorry
theorem s_X2_behindIf (l : Launch) (d : Nat) (h_X2_assignBody : CMetC l (8 * (d + 1) + 21) 31 (P_X2_assignBody (d + 1)) Q_X2_assignBody) (h_X2_assign : CMetC l (8 * d + 24) 29 (P_X2_assign d) Q_X2_assign) : CMetC l (8 * (d + 1) + 22) 35 (P_X2_behindIf (d + 1)) Q_X2_behindIf := by sorry
set_option maxRecDepth 100000 in
set_option maxHeartbeats 4000000 in
theorem b_X2_behindLoop (d : Nat) : TbC KX2_behindLoop [(39, P_X2_behindExp, Q_X2_behindExp), (31, (P_X2_assignBody (d + 1)), Q_X2_assignBody), (30, (P_X2_assignRow d), Q_X2_assignRow)] (P_X2_behindLoop (d + 1)) Q_X2_behindLoop := by sorry
theorem lg_X2_behindLoop (d : Nat) : ∀ (As : List AvC) (σ : CsC), (P_X2_behindLoop (d + 1)) As σ → lgC As ≤ rX2_behindLoop.2.2.1 := by sorry
theorem s_X2_behindLoop (l : Launch) (d : Nat) (h_X2_assignBody : CMetC l (8 * (d + 1) + 21) 31 (P_X2_assignBody (d + 1)) Q_X2_assignBody) (h_X2_assignRow : CMetC l (8 * d + 25) 30 (P_X2_assignRow d) Q_X2_assignRow) : CMetC l (8 * (d + 1) + 22) 36 (P_X2_behindLoop (d + 1)) Q_X2_behindLoop := by sorry
set_option maxRecDepth 100000 in
set_option maxHeartbeats 4000000 in
theorem b_X2_behindSwitch (d : Nat) : TbC KX2_behindSwitch [(39, P_X2_behindExp, Q_X2_behindExp), (29, (P_X2_assign d), Q_X2_assign)] (P_X2_behindSwitch (d + 1)) Q_X2_behindSwitch := by sorry
theorem lg_X2_behindSwitch (d : Nat) : ∀ (As : List AvC) (σ : CsC), (P_X2_behindSwitch (d + 1)) As σ → lgC As ≤ rX2_behindSwitch.2.2.1 := by sorry
theorem s_X2_behindSwitch (l : Launch) (d : Nat) (h_X2_assign : CMetC l (8 * d + 24) 29 (P_X2_assign d) Q_X2_assign) : CMetC l (8 * (d + 1) + 22) 37 (P_X2_behindSwitch (d + 1)) Q_X2_behindSwitch := by sorry
set_option maxRecDepth 100000 in
set_option maxHeartbeats 4000000 in
theorem b_X2_behindTry (d : Nat) : TbC KX2_behindTry [(29, (P_X2_assign d), Q_X2_assign), (31, (P_X2_assignBody (d + 1)), Q_X2_assignBody), (222, P_X11_bit, Q_X11_bit)] (P_X2_behindTry (d + 1)) Q_X2_behindTry := by sorry
theorem lg_X2_behindTry (d : Nat) : ∀ (As : List AvC) (σ : CsC), (P_X2_behindTry (d + 1)) As σ → lgC As ≤ rX2_behindTry.2.2.1 := by sorry
theorem s_X2_behindTry (l : Launch) (d : Nat) (h_X2_assign : CMetC l (8 * d + 24) 29 (P_X2_assign d) Q_X2_assign) (h_X2_assignBody : CMetC l (8 * (d + 1) + 21) 31 (P_X2_assignBody (d + 1)) Q_X2_assignBody) : CMetC l (8 * (d + 1) + 22) 38 (P_X2_behindTry (d + 1)) Q_X2_behindTry := by sorry
set_option maxRecDepth 100000 in
set_option maxHeartbeats 4000000 in
theorem b_X2_behind (d : Nat) : TbC KX2_behind [(30, (P_X2_assignRow d), Q_X2_assignRow), (31, (P_X2_assignBody (d + 1)), Q_X2_assignBody), (35, (P_X2_behindIf (d + 1)), Q_X2_behindIf), (36, (P_X2_behindLoop (d + 1)), Q_X2_behindLoop), (37, (P_X2_behindSwitch (d + 1)), Q_X2_behindSwitch), (34, P_X2_leadTo, Q_X2_leadTo), (39, P_X2_behindExp, Q_X2_behindExp), (38, (P_X2_behindTry (d + 1)), Q_X2_behindTry), (33, P_X2_behindTold, Q_X2_behindTold)] (P_X2_behind (d + 1)) Q_X2_behind := by sorry
theorem lg_X2_behind (d : Nat) : ∀ (As : List AvC) (σ : CsC), (P_X2_behind (d + 1)) As σ → lgC As ≤ rX2_behind.2.2.1 := by sorry
theorem s_X2_behind (l : Launch) (d : Nat) (h_X2_assignRow : CMetC l (8 * d + 25) 30 (P_X2_assignRow d) Q_X2_assignRow) (h_X2_assignBody : CMetC l (8 * (d + 1) + 21) 31 (P_X2_assignBody (d + 1)) Q_X2_assignBody) (h_X2_behindIf : CMetC l (8 * (d + 1) + 22) 35 (P_X2_behindIf (d + 1)) Q_X2_behindIf) (h_X2_behindLoop : CMetC l (8 * (d + 1) + 22) 36 (P_X2_behindLoop (d + 1)) Q_X2_behindLoop) (h_X2_behindSwitch : CMetC l (8 * (d + 1) + 22) 37 (P_X2_behindSwitch (d + 1)) Q_X2_behindSwitch) (h_X2_behindTry : CMetC l (8 * (d + 1) + 22) 38 (P_X2_behindTry (d + 1)) Q_X2_behindTry) : CMetC l (8 * (d + 1) + 23) 32 (P_X2_behind (d + 1)) Q_X2_behind := by sorry
set_option maxRecDepth 100000 in
set_option maxHeartbeats 4000000 in
theorem b_X2_assign (d : Nat) : TbC KX2_assign [(32, (P_X2_behind (d + 1)), Q_X2_behind)] (P_X2_assign (d + 1)) Q_X2_assign := by sorry
theorem lg_X2_assign (d : Nat) : ∀ (As : List AvC) (σ : CsC), (P_X2_assign (d + 1)) As σ → lgC As ≤ rX2_assign.2.2.1 := by sorry
theorem s_X2_assign (l : Launch) (d : Nat) (h_X2_behind : CMetC l (8 * (d + 1) + 23) 32 (P_X2_behind (d + 1)) Q_X2_behind) : CMetC l (8 * (d + 1) + 24) 29 (P_X2_assign (d + 1)) Q_X2_assign := by sorry
set_option maxRecDepth 100000 in
set_option maxHeartbeats 4000000 in
theorem b_X2_assignRow (d : Nat) : TbC KX2_assignRow [(29, (P_X2_assign d), Q_X2_assign)] (P_X2_assignRow d) Q_X2_assignRow := by sorry
theorem lg_X2_assignRow (d : Nat) : ∀ (As : List AvC) (σ : CsC), (P_X2_assignRow d) As σ → lgC As ≤ rX2_assignRow.2.2.1 := by sorry
theorem s_X2_assignRow (l : Launch) (d : Nat) (h_X2_assign : CMetC l (8 * d + 24) 29 (P_X2_assign d) Q_X2_assign) : CMetC l (8 * d + 25) 30 (P_X2_assignRow d) Q_X2_assignRow := by sorry
set_option maxRecDepth 100000 in
set_option maxHeartbeats 4000000 in
theorem b_X0_layBody (d : Nat) : TbC KX0_layBody [(5, (P_X0_layRow d), Q_X0_layRow)] (P_X0_layBody (d + 1)) Q_X0_layBody := by sorry
theorem lg_X0_layBody (d : Nat) : ∀ (As : List AvC) (σ : CsC), (P_X0_layBody (d + 1)) As σ → lgC As ≤ rX0_layBody.2.2.1 := by sorry
theorem s_X0_layBody (l : Launch) (d : Nat) (h_X0_layRow : CMetC l (8 * d + 25) 5 (P_X0_layRow d) Q_X0_layRow) : CMetC l (8 * (d + 1) + 21) 4 (P_X0_layBody (d + 1)) Q_X0_layBody := by sorry
set_option maxRecDepth 100000 in
set_option maxHeartbeats 4000000 in
theorem b_X0_layIf (d : Nat) : TbC KX0_layIf [(15, P_X0_layExp, Q_X0_layExp), (2, P_X0_put, Q_X0_put), (7, (P_X0_layInner d), Q_X0_layInner), (6, (P_X0_layStatement d), Q_X0_layStatement)] (P_X0_layIf (d + 1)) Q_X0_layIf := by sorry
theorem lg_X0_layIf (d : Nat) : ∀ (As : List AvC) (σ : CsC), (P_X0_layIf (d + 1)) As σ → lgC As ≤ rX0_layIf.2.2.1 := by sorry
theorem s_X0_layIf (l : Launch) (d : Nat) (h_X0_layInner : CMetC l (8 * d + 25) 7 (P_X0_layInner d) Q_X0_layInner) (h_X0_layStatement : CMetC l (8 * d + 24) 6 (P_X0_layStatement d) Q_X0_layStatement) : CMetC l (8 * (d + 1) + 22) 10 (P_X0_layIf (d + 1)) Q_X0_layIf := by sorry
set_option maxRecDepth 100000 in
set_option maxHeartbeats 4000000 in
theorem b_X0_layWhile (d : Nat) : TbC KX0_layWhile [(2, P_X0_put, Q_X0_put), (15, P_X0_layExp, Q_X0_layExp), (7, (P_X0_layInner d), Q_X0_layInner), (3, P_X0_jumpTo, Q_X0_jumpTo)] (P_X0_layWhile (d + 1)) Q_X0_layWhile := by sorry
theorem lg_X0_layWhile (d : Nat) : ∀ (As : List AvC) (σ : CsC), (P_X0_layWhile (d + 1)) As σ → lgC As ≤ rX0_layWhile.2.2.1 := by sorry
theorem s_X0_layWhile (l : Launch) (d : Nat) (h_X0_layInner : CMetC l (8 * d + 25) 7 (P_X0_layInner d) Q_X0_layInner) : CMetC l (8 * (d + 1) + 22) 11 (P_X0_layWhile (d + 1)) Q_X0_layWhile := by sorry
set_option maxRecDepth 100000 in
set_option maxHeartbeats 4000000 in
theorem b_X0_layDo (d : Nat) : TbC KX0_layDo [(7, (P_X0_layInner d), Q_X0_layInner), (2, P_X0_put, Q_X0_put), (15, P_X0_layExp, Q_X0_layExp), (3, P_X0_jumpTo, Q_X0_jumpTo)] (P_X0_layDo (d + 1)) Q_X0_layDo := by sorry
theorem lg_X0_layDo (d : Nat) : ∀ (As : List AvC) (σ : CsC), (P_X0_layDo (d + 1)) As σ → lgC As ≤ rX0_layDo.2.2.1 := by sorry
theorem s_X0_layDo (l : Launch) (d : Nat) (h_X0_layInner : CMetC l (8 * d + 25) 7 (P_X0_layInner d) Q_X0_layInner) : CMetC l (8 * (d + 1) + 22) 12 (P_X0_layDo (d + 1)) Q_X0_layDo := by sorry
set_option maxRecDepth 100000 in
set_option maxHeartbeats 4000000 in
theorem b_X0_layFor (d : Nat) : TbC KX0_layFor [(5, (P_X0_layRow d), Q_X0_layRow), (2, P_X0_put, Q_X0_put), (3, P_X0_jumpTo, Q_X0_jumpTo), (7, (P_X0_layInner d), Q_X0_layInner), (15, P_X0_layExp, Q_X0_layExp)] (P_X0_layFor (d + 1)) Q_X0_layFor := by sorry
theorem lg_X0_layFor (d : Nat) : ∀ (As : List AvC) (σ : CsC), (P_X0_layFor (d + 1)) As σ → lgC As ≤ rX0_layFor.2.2.1 := by sorry
theorem s_X0_layFor (l : Launch) (d : Nat) (h_X0_layRow : CMetC l (8 * d + 25) 5 (P_X0_layRow d) Q_X0_layRow) (h_X0_layInner : CMetC l (8 * d + 25) 7 (P_X0_layInner d) Q_X0_layInner) : CMetC l (8 * (d + 1) + 22) 13 (P_X0_layFor (d + 1)) Q_X0_layFor := by sorry
set_option maxRecDepth 100000 in
set_option maxHeartbeats 4000000 in
theorem b_X0_layTry (d : Nat) : TbC KX0_layTry [(2, P_X0_put, Q_X0_put), (4, (P_X0_layBody d), Q_X0_layBody)] (P_X0_layTry (d + 1)) Q_X0_layTry := by sorry
theorem lg_X0_layTry (d : Nat) : ∀ (As : List AvC) (σ : CsC), (P_X0_layTry (d + 1)) As σ → lgC As ≤ rX0_layTry.2.2.1 := by sorry
theorem s_X0_layTry (l : Launch) (d : Nat) (h_X0_layBody : CMetC l (8 * d + 21) 4 (P_X0_layBody d) Q_X0_layBody) : CMetC l (8 * (d + 1) + 22) 14 (P_X0_layTry (d + 1)) Q_X0_layTry := by sorry
set_option maxRecDepth 100000 in
set_option maxHeartbeats 4000000 in
theorem b_X0_layInside (d : Nat) : TbC KX0_layInside [(5, (P_X0_layRow d), Q_X0_layRow), (7, (P_X0_layInner d), Q_X0_layInner), (10, (P_X0_layIf (d + 1)), Q_X0_layIf), (11, (P_X0_layWhile (d + 1)), Q_X0_layWhile), (12, (P_X0_layDo (d + 1)), Q_X0_layDo), (13, (P_X0_layFor (d + 1)), Q_X0_layFor), (15, P_X0_layExp, Q_X0_layExp), (2, P_X0_put, Q_X0_put), (14, (P_X0_layTry (d + 1)), Q_X0_layTry), (9, P_X0_layTold, Q_X0_layTold)] (P_X0_layInside (d + 1)) Q_X0_layInside := by sorry
theorem lg_X0_layInside (d : Nat) : ∀ (As : List AvC) (σ : CsC), (P_X0_layInside (d + 1)) As σ → lgC As ≤ rX0_layInside.2.2.1 := by sorry
theorem s_X0_layInside (l : Launch) (d : Nat) (h_X0_layRow : CMetC l (8 * d + 25) 5 (P_X0_layRow d) Q_X0_layRow) (h_X0_layInner : CMetC l (8 * d + 25) 7 (P_X0_layInner d) Q_X0_layInner) (h_X0_layIf : CMetC l (8 * (d + 1) + 22) 10 (P_X0_layIf (d + 1)) Q_X0_layIf) (h_X0_layWhile : CMetC l (8 * (d + 1) + 22) 11 (P_X0_layWhile (d + 1)) Q_X0_layWhile) (h_X0_layDo : CMetC l (8 * (d + 1) + 22) 12 (P_X0_layDo (d + 1)) Q_X0_layDo) (h_X0_layFor : CMetC l (8 * (d + 1) + 22) 13 (P_X0_layFor (d + 1)) Q_X0_layFor) (h_X0_layTry : CMetC l (8 * (d + 1) + 22) 14 (P_X0_layTry (d + 1)) Q_X0_layTry) : CMetC l (8 * (d + 1) + 23) 8 (P_X0_layInside (d + 1)) Q_X0_layInside := by sorry
set_option maxRecDepth 100000 in
set_option maxHeartbeats 4000000 in
theorem b_X0_layStatement (d : Nat) : TbC KX0_layStatement [(180, P_X8_isPart, Q_X8_isPart), (8, (P_X0_layInside (d + 1)), Q_X0_layInside), (2, P_X0_put, Q_X0_put)] (P_X0_layStatement (d + 1)) Q_X0_layStatement := by sorry
theorem lg_X0_layStatement (d : Nat) : ∀ (As : List AvC) (σ : CsC), (P_X0_layStatement (d + 1)) As σ → lgC As ≤ rX0_layStatement.2.2.1 := by sorry
theorem s_X0_layStatement (l : Launch) (d : Nat) (h_X0_layInside : CMetC l (8 * (d + 1) + 23) 8 (P_X0_layInside (d + 1)) Q_X0_layInside) : CMetC l (8 * (d + 1) + 24) 6 (P_X0_layStatement (d + 1)) Q_X0_layStatement := by sorry
set_option maxRecDepth 100000 in
set_option maxHeartbeats 4000000 in
theorem b_X0_layInner (d : Nat) : TbC KX0_layInner [(6, (P_X0_layStatement d), Q_X0_layStatement)] (P_X0_layInner d) Q_X0_layInner := by sorry
theorem lg_X0_layInner (d : Nat) : ∀ (As : List AvC) (σ : CsC), (P_X0_layInner d) As σ → lgC As ≤ rX0_layInner.2.2.1 := by sorry
theorem s_X0_layInner (l : Launch) (d : Nat) (h_X0_layStatement : CMetC l (8 * d + 24) 6 (P_X0_layStatement d) Q_X0_layStatement) : CMetC l (8 * d + 25) 7 (P_X0_layInner d) Q_X0_layInner := by sorry
set_option maxRecDepth 100000 in
set_option maxHeartbeats 4000000 in
theorem b_X0_layRow (d : Nat) : TbC KX0_layRow [(6, (P_X0_layStatement d), Q_X0_layStatement)] (P_X0_layRow d) Q_X0_layRow := by sorry
theorem lg_X0_layRow (d : Nat) : ∀ (As : List AvC) (σ : CsC), (P_X0_layRow d) As σ → lgC As ≤ rX0_layRow.2.2.1 := by sorry
theorem s_X0_layRow (l : Launch) (d : Nat) (h_X0_layStatement : CMetC l (8 * d + 24) 6 (P_X0_layStatement d) Q_X0_layStatement) : CMetC l (8 * d + 25) 5 (P_X0_layRow d) Q_X0_layRow := by sorry
theorem recA (l : Launch) : ∀ n : Nat, CMetC l (8 * n + 21) 21 (P_X2_reachRow n) Q_X2_reachRow ∧ CMetC l (8 * n + 21) 24 (P_X2_reachBody n) Q_X2_reachBody ∧ CMetC l (8 * n + 21) 25 (P_X2_reachSwitch n) Q_X2_reachSwitch ∧ CMetC l (8 * n + 21) 26 (P_X2_reachTry n) Q_X2_reachTry ∧ CMetC l (8 * n + 22) 23 (P_X2_reachInside n) Q_X2_reachInside ∧ CMetC l (8 * n + 23) 22 (P_X2_reach n) Q_X2_reach := by sorry
theorem m_X2_reachRow (l : Launch) (n : Nat) : CMetC l (8 * n + 21) 21 (P_X2_reachRow n) Q_X2_reachRow := (recA l n).1
theorem m_X2_reachBody (l : Launch) (n : Nat) : CMetC l (8 * n + 21) 24 (P_X2_reachBody n) Q_X2_reachBody := (recA l n).2.1
theorem m_X2_reachSwitch (l : Launch) (n : Nat) : CMetC l (8 * n + 21) 25 (P_X2_reachSwitch n) Q_X2_reachSwitch := (recA l n).2.2.1
theorem m_X2_reachTry (l : Launch) (n : Nat) : CMetC l (8 * n + 21) 26 (P_X2_reachTry n) Q_X2_reachTry := (recA l n).2.2.2.1
theorem m_X2_reachInside (l : Launch) (n : Nat) : CMetC l (8 * n + 22) 23 (P_X2_reachInside n) Q_X2_reachInside := (recA l n).2.2.2.2.1
theorem m_X2_reach (l : Launch) (n : Nat) : CMetC l (8 * n + 23) 22 (P_X2_reach n) Q_X2_reach := (recA l n).2.2.2.2.2

theorem recB (l : Launch) : ∀ n : Nat, CMetC l (8 * n + 21) 31 (P_X2_assignBody n) Q_X2_assignBody ∧ CMetC l (8 * n + 22) 35 (P_X2_behindIf n) Q_X2_behindIf ∧ CMetC l (8 * n + 22) 36 (P_X2_behindLoop n) Q_X2_behindLoop ∧ CMetC l (8 * n + 22) 37 (P_X2_behindSwitch n) Q_X2_behindSwitch ∧ CMetC l (8 * n + 22) 38 (P_X2_behindTry n) Q_X2_behindTry ∧ CMetC l (8 * n + 23) 32 (P_X2_behind n) Q_X2_behind ∧ CMetC l (8 * n + 24) 29 (P_X2_assign n) Q_X2_assign ∧ CMetC l (8 * n + 25) 30 (P_X2_assignRow n) Q_X2_assignRow := by sorry
theorem m_X2_assignBody (l : Launch) (n : Nat) : CMetC l (8 * n + 21) 31 (P_X2_assignBody n) Q_X2_assignBody := (recB l n).1
theorem m_X2_behindIf (l : Launch) (n : Nat) : CMetC l (8 * n + 22) 35 (P_X2_behindIf n) Q_X2_behindIf := (recB l n).2.1
theorem m_X2_behindLoop (l : Launch) (n : Nat) : CMetC l (8 * n + 22) 36 (P_X2_behindLoop n) Q_X2_behindLoop := (recB l n).2.2.1
theorem m_X2_behindSwitch (l : Launch) (n : Nat) : CMetC l (8 * n + 22) 37 (P_X2_behindSwitch n) Q_X2_behindSwitch := (recB l n).2.2.2.1
theorem m_X2_behindTry (l : Launch) (n : Nat) : CMetC l (8 * n + 22) 38 (P_X2_behindTry n) Q_X2_behindTry := (recB l n).2.2.2.2.1
theorem m_X2_behind (l : Launch) (n : Nat) : CMetC l (8 * n + 23) 32 (P_X2_behind n) Q_X2_behind := (recB l n).2.2.2.2.2.1
theorem m_X2_assign (l : Launch) (n : Nat) : CMetC l (8 * n + 24) 29 (P_X2_assign n) Q_X2_assign := (recB l n).2.2.2.2.2.2.1
theorem m_X2_assignRow (l : Launch) (n : Nat) : CMetC l (8 * n + 25) 30 (P_X2_assignRow n) Q_X2_assignRow := (recB l n).2.2.2.2.2.2.2

theorem recC (l : Launch) : ∀ n : Nat, CMetC l (8 * n + 21) 4 (P_X0_layBody n) Q_X0_layBody ∧ CMetC l (8 * n + 22) 10 (P_X0_layIf n) Q_X0_layIf ∧ CMetC l (8 * n + 22) 11 (P_X0_layWhile n) Q_X0_layWhile ∧ CMetC l (8 * n + 22) 12 (P_X0_layDo n) Q_X0_layDo ∧ CMetC l (8 * n + 22) 13 (P_X0_layFor n) Q_X0_layFor ∧ CMetC l (8 * n + 22) 14 (P_X0_layTry n) Q_X0_layTry ∧ CMetC l (8 * n + 23) 8 (P_X0_layInside n) Q_X0_layInside ∧ CMetC l (8 * n + 24) 6 (P_X0_layStatement n) Q_X0_layStatement ∧ CMetC l (8 * n + 25) 7 (P_X0_layInner n) Q_X0_layInner ∧ CMetC l (8 * n + 25) 5 (P_X0_layRow n) Q_X0_layRow := by sorry
theorem m_X0_layBody (l : Launch) (n : Nat) : CMetC l (8 * n + 21) 4 (P_X0_layBody n) Q_X0_layBody := (recC l n).1
theorem m_X0_layIf (l : Launch) (n : Nat) : CMetC l (8 * n + 22) 10 (P_X0_layIf n) Q_X0_layIf := (recC l n).2.1
theorem m_X0_layWhile (l : Launch) (n : Nat) : CMetC l (8 * n + 22) 11 (P_X0_layWhile n) Q_X0_layWhile := (recC l n).2.2.1
theorem m_X0_layDo (l : Launch) (n : Nat) : CMetC l (8 * n + 22) 12 (P_X0_layDo n) Q_X0_layDo := (recC l n).2.2.2.1
theorem m_X0_layFor (l : Launch) (n : Nat) : CMetC l (8 * n + 22) 13 (P_X0_layFor n) Q_X0_layFor := (recC l n).2.2.2.2.1
theorem m_X0_layTry (l : Launch) (n : Nat) : CMetC l (8 * n + 22) 14 (P_X0_layTry n) Q_X0_layTry := (recC l n).2.2.2.2.2.1
theorem m_X0_layInside (l : Launch) (n : Nat) : CMetC l (8 * n + 23) 8 (P_X0_layInside n) Q_X0_layInside := (recC l n).2.2.2.2.2.2.1
theorem m_X0_layStatement (l : Launch) (n : Nat) : CMetC l (8 * n + 24) 6 (P_X0_layStatement n) Q_X0_layStatement := (recC l n).2.2.2.2.2.2.2.1
theorem m_X0_layInner (l : Launch) (n : Nat) : CMetC l (8 * n + 25) 7 (P_X0_layInner n) Q_X0_layInner := (recC l n).2.2.2.2.2.2.2.2.1
theorem m_X0_layRow (l : Launch) (n : Nat) : CMetC l (8 * n + 25) 5 (P_X0_layRow n) Q_X0_layRow := (recC l n).2.2.2.2.2.2.2.2.2
abbrev P_X2_reachAll : CpC := fun As σ => ∃ (p0 : Nat) (p1 : Nat), As = [.inr (.inr (some p0)), .inr (.inr (some p1))] ∧ HIC σ ∧ TyC σ p0 3 ∧ TyC σ p1 7
abbrev Q_X2_reachAll : CqC := fun As σ w τ => match As with
  | [.inr (.inr (some p0)), .inr (.inr (some p1))] => w = none ∧ HIC τ ∧ ExC [90, 217, 218, 282, 283, 284] σ τ
  | _ => False
set_option maxRecDepth 100000 in
set_option maxHeartbeats 4000000 in
theorem b_X2_reachAll : TbC KX2_reachAll [(234, P_Jx4a65c_size_8abf5, Q_Jx4a65c_size_8abf5), (235, P_Jx4a65c_get_915e3, Q_Jx4a65c_get_915e3), (21, (P_X2_reachRow 61), Q_X2_reachRow), (118, P_X6_tell, Q_X6_tell)] P_X2_reachAll Q_X2_reachAll := by sorry
theorem lg_X2_reachAll : ∀ (As : List AvC) (σ : CsC), P_X2_reachAll As σ → lgC As ≤ rX2_reachAll.2.2.1 := by sorry
theorem m_X2_reachAll (l : Launch) : CMetC l 510 20 P_X2_reachAll Q_X2_reachAll := by sorry
abbrev P_X2_assignAll : CpC := fun As σ => ∃ (p0 : Nat) (p1 : Nat), As = [.inr (.inr (some p0)), .inr (.inr (some p1))] ∧ HIC σ ∧ TyC σ p0 3 ∧ TyC σ p1 7
abbrev Q_X2_assignAll : CqC := fun As σ w τ => match As with
  | [.inr (.inr (some p0)), .inr (.inr (some p1))] => w = none ∧ HIC τ ∧ ExC [90, 94, 217, 218] σ τ
  | _ => False
set_option maxRecDepth 100000 in
set_option maxHeartbeats 4000000 in
theorem b_X2_assignAll : TbC KX2_assignAll [(234, P_Jx4a65c_size_8abf5, Q_Jx4a65c_size_8abf5), (235, P_Jx4a65c_get_915e3, Q_Jx4a65c_get_915e3), (29, (P_X2_assign 61), Q_X2_assign), (222, P_X11_bit, Q_X11_bit)] P_X2_assignAll Q_X2_assignAll := by sorry
theorem lg_X2_assignAll : ∀ (As : List AvC) (σ : CsC), P_X2_assignAll As σ → lgC As ≤ rX2_assignAll.2.2.1 := by sorry
theorem m_X2_assignAll (l : Launch) : CMetC l 513 28 P_X2_assignAll Q_X2_assignAll := by sorry
abbrev P_X0_lay : CpC := fun As σ => ∃ (p0 : Nat) (p1 : Nat), As = [.inr (.inr (some p0)), .inr (.inr (some p1))] ∧ HIC σ ∧ TyC σ p0 1 ∧ TyC σ p1 7
abbrev Q_X0_lay : CqC := fun As σ w τ => match As with
  | [.inr (.inr (some p0)), .inr (.inr (some p1))] => w = none ∧ HIC τ ∧ ExC [34, 35, 36, 77, 289, 290] σ τ
  | _ => False
set_option maxRecDepth 100000 in
set_option maxHeartbeats 4000000 in
theorem b_X0_lay : TbC KX0_lay [(234, P_Jx4a65c_size_8abf5, Q_Jx4a65c_size_8abf5), (235, P_Jx4a65c_get_915e3, Q_Jx4a65c_get_915e3), (4, (P_X0_layBody 61), Q_X0_layBody), (2, P_X0_put, Q_X0_put)] P_X0_lay Q_X0_lay := by sorry
theorem lg_X0_lay : ∀ (As : List AvC) (σ : CsC), P_X0_lay As σ → lgC As ≤ rX0_lay.2.2.1 := by sorry
theorem m_X0_lay (l : Launch) : CMetC l 510 1 P_X0_lay Q_X0_lay := by sorry
abbrev P_X3_judgeMethod : CpC := fun As σ => ∃ (p0 : Nat) (p1 : Int32), As = [.inr (.inr (some p0)), .inl p1] ∧ HIC σ ∧ TyC σ p0 4 ∧ 0 ≤ p1.toInt ∧ (∀ q m, fRC σ p0 121 = some q → fRC σ q 211 = some m → p1.toInt < (fIC σ m 2).toInt)
abbrev Q_X3_judgeMethod : CqC := fun As σ w τ => match As with
  | [.inr (.inr (some p0)), .inl p1] => w = none ∧ HIC τ ∧ ExC [217, 218] σ τ
  | _ => False
set_option maxRecDepth 100000 in
set_option maxHeartbeats 4000000 in
theorem b_X3_judgeMethod : TbC KX3_judgeMethod [(235, P_Jx4a65c_get_915e3, Q_Jx4a65c_get_915e3), (119, P_X6_methodOf, Q_X6_methodOf), (113, P_X5_hasSameParams, Q_X5_hasSameParams), (118, P_X6_tell, Q_X6_tell)] P_X3_judgeMethod Q_X3_judgeMethod := by sorry
theorem lg_X3_judgeMethod : ∀ (As : List AvC) (σ : CsC), P_X3_judgeMethod As σ → lgC As ≤ rX3_judgeMethod.2.2.1 := by sorry
theorem m_X3_judgeMethod (l : Launch) : CMetC l 12 50 P_X3_judgeMethod Q_X3_judgeMethod := by sorry
abbrev P_X3_judgeProgram : CpC := fun As σ => ∃ (p0 : Nat) (p1 : Nat), As = [.inr (.inr (some p0)), .inr (.inr (some p1))] ∧ HIC σ ∧ TyC σ p0 4 ∧ TyC σ p1 7
abbrev Q_X3_judgeProgram : CqC := fun As σ w τ => match As with
  | [.inr (.inr (some p0)), .inr (.inr (some p1))] => w = none ∧ HIC τ ∧ ExC [67, 68, 69, 70, 90, 94, 121, 217, 218, 281, 282, 283, 284, 335] σ τ
  | _ => False
set_option maxRecDepth 100000 in
set_option maxHeartbeats 4000000 in
theorem b_X3_judgeProgram : TbC KX3_judgeProgram [(234, P_Jx4a65c_size_8abf5, Q_Jx4a65c_size_8abf5), (50, P_X3_judgeMethod, Q_X3_judgeMethod), (235, P_Jx4a65c_get_915e3, Q_Jx4a65c_get_915e3), (118, P_X6_tell, Q_X6_tell), (53, P_X3_judgeExp, Q_X3_judgeExp), (28, P_X2_assignAll, Q_X2_assignAll), (20, P_X2_reachAll, Q_X2_reachAll), (80, P_X3_judgeStatement, Q_X3_judgeStatement)] P_X3_judgeProgram Q_X3_judgeProgram := by sorry
theorem lg_X3_judgeProgram : ∀ (As : List AvC) (σ : CsC), P_X3_judgeProgram As σ → lgC As ≤ rX3_judgeProgram.2.2.1 := by sorry
theorem m_X3_judgeProgram (l : Launch) : CMetC l 514 49 P_X3_judgeProgram Q_X3_judgeProgram := by sorry
abbrev P_X11_append : CpC := fun As σ => ∃ (p0 : Nat) (p1 : Int32), As = [.inr (.inr (some p0)), .inl p1] ∧ HIC σ ∧ TyC σ p0 12
abbrev Q_X11_append : CqC := fun As σ w τ => match As with
  | [.inr (.inr (some p0)), .inl p1] => w = none ∧ HIC τ ∧ ExC [369, 997] σ τ ∧ ((fIC τ p0 369).toInt ≤ (fIC σ p0 369).toInt + 4) ∧ ((2500 < (fIC σ p0 369).toInt + 4 ∨ (fIC τ p0 369).toInt = (fIC σ p0 369).toInt + 4))
  | _ => False
set_option maxRecDepth 100000 in
set_option maxHeartbeats 4000000 in
theorem b_X11_append : TbC KX11_append [] P_X11_append Q_X11_append := by sorry
theorem lg_X11_append : ∀ (As : List AvC) (σ : CsC), P_X11_append As σ → lgC As ≤ rX11_append.2.2.1 := by sorry
theorem m_X11_append (l : Launch) : CMetC l 1 202 P_X11_append Q_X11_append := by sorry
abbrev P_X11_feed : CpC := fun As σ => ∃ (p0 : Nat) (p1 : Int32) (p2 : Int32) (p3 : Int32) (p4 : Int32) (p5 : Int32), As = [.inr (.inr (some p0)), .inl p1, .inl p2, .inl p3, .inl p4, .inl p5] ∧ HIC σ ∧ TyC σ p0 12
abbrev Q_X11_feed : CqC := fun As σ w τ => match As with
  | [.inr (.inr (some p0)), .inl p1, .inl p2, .inl p3, .inl p4, .inl p5] => ∃ r : Int32, w = some (.inl r) ∧ HIC τ ∧ ExC [369, 997] σ τ ∧ ((fIC τ p0 369).toInt ≤ (fIC σ p0 369).toInt + 20) ∧ (((2500 < (fIC σ p0 369).toInt + 20 ∧ r.toInt = -3 ∧ (fIC τ p0 369).toInt = (fIC σ p0 369).toInt) ∨ ((fIC σ p0 369).toInt + 20 ≤ 2500 ∧ r.toInt = (fIC τ p0 369).toInt ∧ (fIC τ p0 369).toInt = (fIC σ p0 369).toInt + 20)))
  | _ => False
set_option maxRecDepth 100000 in
set_option maxHeartbeats 4000000 in
theorem b_X11_feed : TbC KX11_feed [(202, P_X11_append, Q_X11_append)] P_X11_feed Q_X11_feed := by sorry
theorem lg_X11_feed : ∀ (As : List AvC) (σ : CsC), P_X11_feed As σ → lgC As ≤ rX11_feed.2.2.1 := by sorry
theorem m_X11_feed (l : Launch) : CMetC l 2 201 P_X11_feed Q_X11_feed := by sorry
abbrev P_X11_cut : CpC := fun As σ => ∃ (p0 : Nat) (p1 : Int32), As = [.inr (.inr (some p0)), .inl p1] ∧ HIC σ ∧ TyC σ p0 12
abbrev Q_X11_cut : CqC := fun As σ w τ => match As with
  | [.inr (.inr (some p0)), .inl p1] => ∃ r : Int32, w = some (.inl r) ∧ HIC τ ∧ ExC [369] σ τ ∧ ((fIC τ p0 369).toInt ≤ (fIC σ p0 369).toInt) ∧ ((((p1.toInt < 0 ∨ (fIC σ p0 369).toInt < p1.toInt) ∧ r.toInt = -1 ∧ (fIC τ p0 369).toInt = (fIC σ p0 369).toInt) ∨ ((0 ≤ p1.toInt ∧ p1.toInt ≤ (fIC σ p0 369).toInt) ∧ r.toInt = (fIC τ p0 369).toInt ∧ (fIC τ p0 369).toInt = (fIC σ p0 369).toInt - p1.toInt)))
  | _ => False
set_option maxRecDepth 100000 in
set_option maxHeartbeats 4000000 in
theorem b_X11_cut : TbC KX11_cut [] P_X11_cut Q_X11_cut := by sorry
theorem lg_X11_cut : ∀ (As : List AvC) (σ : CsC), P_X11_cut As σ → lgC As ≤ rX11_cut.2.2.1 := by sorry
theorem m_X11_cut (l : Launch) : CMetC l 1 203 P_X11_cut Q_X11_cut := by sorry
abbrev P_X11_place : CpC := fun As σ => ∃ (p0 : Nat), As = [.inr (.inr (some p0))] ∧ HIC σ ∧ TyC σ p0 12
abbrev Q_X11_place : CqC := fun As σ w τ => match As with
  | [.inr (.inr (some p0))] => ∃ r : Int32, w = some (.inl r) ∧ σ = τ
  | _ => False
set_option maxRecDepth 100000 in
set_option maxHeartbeats 4000000 in
theorem b_X11_place : TbC KX11_place [] P_X11_place Q_X11_place := by sorry
theorem lg_X11_place : ∀ (As : List AvC) (σ : CsC), P_X11_place As σ → lgC As ≤ rX11_place.2.2.1 := by sorry
theorem m_X11_place (l : Launch) : CMetC l 1 205 P_X11_place Q_X11_place := by sorry
abbrev P_X11_judge : CpC := fun As σ => ∃ (p0 : Nat), As = [.inr (.inr (some p0))] ∧ HIC σ ∧ TyC σ p0 12
abbrev Q_X11_judge : CqC := fun As σ w τ => match As with
  | [.inr (.inr (some p0))] => ∃ r : Int32, w = some (.inl r) ∧ HIC τ ∧ ExC [371] σ τ
  | _ => False
set_option maxRecDepth 100000 in
set_option maxHeartbeats 4000000 in
theorem b_X11_judge : TbC KX11_judge [] P_X11_judge Q_X11_judge := by sorry
theorem lg_X11_judge : ∀ (As : List AvC) (σ : CsC), P_X11_judge As σ → lgC As ≤ rX11_judge.2.2.1 := by sorry
theorem m_X11_judge (l : Launch) : CMetC l 1 206 P_X11_judge Q_X11_judge := by sorry
abbrev P_X11_told : CpC := fun As σ => ∃ (p0 : Nat) (p1 : Int32), As = [.inr (.inr (some p0)), .inl p1] ∧ HIC σ ∧ TyC σ p0 12
abbrev Q_X11_told : CqC := fun As σ w τ => match As with
  | [.inr (.inr (some p0)), .inl p1] => ∃ r : Int32, w = some (.inl r) ∧ σ = τ
  | _ => False
set_option maxRecDepth 100000 in
set_option maxHeartbeats 4000000 in
theorem b_X11_told : TbC KX11_told [(234, P_Jx4a65c_size_8abf5, Q_Jx4a65c_size_8abf5)] P_X11_told Q_X11_told := by sorry
theorem lg_X11_told : ∀ (As : List AvC) (σ : CsC), P_X11_told As σ → lgC As ≤ rX11_told.2.2.1 := by sorry
theorem m_X11_told (l : Launch) : CMetC l 11 207 P_X11_told Q_X11_told := by sorry
abbrev P_X11_token : CpC := fun As σ => ∃ (p0 : Nat) (p1 : Int32) (p2 : Int32), As = [.inr (.inr (some p0)), .inl p1, .inl p2] ∧ HIC σ ∧ TyC σ p0 12
abbrev Q_X11_token : CqC := fun As σ w τ => match As with
  | [.inr (.inr (some p0)), .inl p1, .inl p2] => ∃ r : Int32, w = some (.inl r) ∧ σ = τ
  | _ => False
set_option maxRecDepth 100000 in
set_option maxHeartbeats 4000000 in
theorem b_X11_token : TbC KX11_token [(187, P_X9_sort, Q_X9_sort)] P_X11_token Q_X11_token := by sorry
theorem lg_X11_token : ∀ (As : List AvC) (σ : CsC), P_X11_token As σ → lgC As ≤ rX11_token.2.2.1 := by sorry
theorem m_X11_token (l : Launch) : CMetC l 2 208 P_X11_token Q_X11_token := by sorry
abbrev P_X11_method : CpC := fun As σ => ∃ (p0 : Nat) (p1 : Int32) (p2 : Int32), As = [.inr (.inr (some p0)), .inl p1, .inl p2] ∧ HIC σ ∧ TyC σ p0 12
abbrev Q_X11_method : CqC := fun As σ w τ => match As with
  | [.inr (.inr (some p0)), .inl p1, .inl p2] => ∃ r : Int32, w = some (.inl r) ∧ σ = τ
  | _ => False
set_option maxRecDepth 100000 in
set_option maxHeartbeats 4000000 in
theorem b_X11_method : TbC KX11_method [(234, P_Jx4a65c_size_8abf5, Q_Jx4a65c_size_8abf5), (235, P_Jx4a65c_get_915e3, Q_Jx4a65c_get_915e3)] P_X11_method Q_X11_method := by sorry
theorem lg_X11_method : ∀ (As : List AvC) (σ : CsC), P_X11_method As σ → lgC As ≤ rX11_method.2.2.1 := by sorry
theorem m_X11_method (l : Launch) : CMetC l 11 209 P_X11_method Q_X11_method := by sorry
abbrev P_X11_variable : CpC := fun As σ => ∃ (p0 : Nat) (p1 : Int32) (p2 : Int32), As = [.inr (.inr (some p0)), .inl p1, .inl p2] ∧ HIC σ ∧ TyC σ p0 12
abbrev Q_X11_variable : CqC := fun As σ w τ => match As with
  | [.inr (.inr (some p0)), .inl p1, .inl p2] => ∃ r : Int32, w = some (.inl r) ∧ σ = τ
  | _ => False
set_option maxRecDepth 100000 in
set_option maxHeartbeats 4000000 in
theorem b_X11_variable : TbC KX11_variable [(234, P_Jx4a65c_size_8abf5, Q_Jx4a65c_size_8abf5), (235, P_Jx4a65c_get_915e3, Q_Jx4a65c_get_915e3)] P_X11_variable Q_X11_variable := by sorry
theorem lg_X11_variable : ∀ (As : List AvC) (σ : CsC), P_X11_variable As σ → lgC As ≤ rX11_variable.2.2.1 := by sorry
theorem m_X11_variable (l : Launch) : CMetC l 11 210 P_X11_variable Q_X11_variable := by sorry
abbrev P_X11_means : CpC := fun As σ => ∃ (p0 : Nat) (p1 : Int32), As = [.inr (.inr (some p0)), .inl p1] ∧ HIC σ ∧ TyC σ p0 12
abbrev Q_X11_means : CqC := fun As σ w τ => match As with
  | [.inr (.inr (some p0)), .inl p1] => ∃ r : Int32, w = some (.inl r) ∧ σ = τ
  | _ => False
set_option maxRecDepth 100000 in
set_option maxHeartbeats 4000000 in
theorem b_X11_means : TbC KX11_means [] P_X11_means Q_X11_means := by sorry
theorem lg_X11_means : ∀ (As : List AvC) (σ : CsC), P_X11_means As σ → lgC As ≤ rX11_means.2.2.1 := by sorry
theorem m_X11_means (l : Launch) : CMetC l 1 211 P_X11_means Q_X11_means := by sorry
abbrev P_X11_type : CpC := fun As σ => ∃ (p0 : Nat) (p1 : Int32) (p2 : Int32), As = [.inr (.inr (some p0)), .inl p1, .inl p2] ∧ HIC σ ∧ TyC σ p0 12
abbrev Q_X11_type : CqC := fun As σ w τ => match As with
  | [.inr (.inr (some p0)), .inl p1, .inl p2] => ∃ r : Int32, w = some (.inl r) ∧ σ = τ
  | _ => False
set_option maxRecDepth 100000 in
set_option maxHeartbeats 4000000 in
theorem b_X11_type : TbC KX11_type [(120, P_X6_expAt, Q_X6_expAt)] P_X11_type Q_X11_type := by sorry
theorem lg_X11_type : ∀ (As : List AvC) (σ : CsC), P_X11_type As σ → lgC As ≤ rX11_type.2.2.1 := by sorry
theorem m_X11_type (l : Launch) : CMetC l 12 212 P_X11_type Q_X11_type := by sorry
abbrev P_X11_constant : CpC := fun As σ => ∃ (p0 : Nat) (p1 : Int32) (p2 : Int32), As = [.inr (.inr (some p0)), .inl p1, .inl p2] ∧ HIC σ ∧ TyC σ p0 12
abbrev Q_X11_constant : CqC := fun As σ w τ => match As with
  | [.inr (.inr (some p0)), .inl p1, .inl p2] => ∃ r : Int64, w = some (.inr (.inl r)) ∧ σ = τ
  | _ => False
set_option maxRecDepth 100000 in
set_option maxHeartbeats 4000000 in
theorem b_X11_constant : TbC KX11_constant [(120, P_X6_expAt, Q_X6_expAt)] P_X11_constant Q_X11_constant := by sorry
theorem lg_X11_constant : ∀ (As : List AvC) (σ : CsC), P_X11_constant As σ → lgC As ≤ rX11_constant.2.2.1 := by sorry
theorem m_X11_constant (l : Launch) : CMetC l 12 213 P_X11_constant Q_X11_constant := by sorry
abbrev P_X11_ends : CpC := fun As σ => ∃ (p0 : Nat) (p1 : Int32), As = [.inr (.inr (some p0)), .inl p1] ∧ HIC σ ∧ TyC σ p0 12
abbrev Q_X11_ends : CqC := fun As σ w τ => match As with
  | [.inr (.inr (some p0)), .inl p1] => ∃ r : Int32, w = some (.inl r) ∧ σ = τ
  | _ => False
set_option maxRecDepth 100000 in
set_option maxHeartbeats 4000000 in
theorem b_X11_ends : TbC KX11_ends [(121, P_X6_statementAt, Q_X6_statementAt)] P_X11_ends Q_X11_ends := by sorry
theorem lg_X11_ends : ∀ (As : List AvC) (σ : CsC), P_X11_ends As σ → lgC As ≤ rX11_ends.2.2.1 := by sorry
theorem m_X11_ends (l : Launch) : CMetC l 12 214 P_X11_ends Q_X11_ends := by sorry
abbrev P_X11_assigned : CpC := fun As σ => ∃ (p0 : Nat) (p1 : Int32) (p2 : Int32), As = [.inr (.inr (some p0)), .inl p1, .inl p2] ∧ HIC σ ∧ TyC σ p0 12
abbrev Q_X11_assigned : CqC := fun As σ w τ => match As with
  | [.inr (.inr (some p0)), .inl p1, .inl p2] => ∃ r : Int32, w = some (.inl r) ∧ σ = τ
  | _ => False
set_option maxRecDepth 100000 in
set_option maxHeartbeats 4000000 in
theorem b_X11_assigned : TbC KX11_assigned [(121, P_X6_statementAt, Q_X6_statementAt), (234, P_Jx4a65c_size_8abf5, Q_Jx4a65c_size_8abf5), (221, P_X11_has, Q_X11_has)] P_X11_assigned Q_X11_assigned := by sorry
theorem lg_X11_assigned : ∀ (As : List AvC) (σ : CsC), P_X11_assigned As σ → lgC As ≤ rX11_assigned.2.2.1 := by sorry
theorem m_X11_assigned (l : Launch) : CMetC l 12 215 P_X11_assigned Q_X11_assigned := by sorry
abbrev P_X11_argument : CpC := fun As σ => ∃ (p0 : Nat) (p1 : Int32) (p2 : Int64), As = [.inr (.inr (some p0)), .inl p1, .inr (.inl p2)] ∧ HIC σ ∧ TyC σ p0 12
abbrev Q_X11_argument : CqC := fun As σ w τ => match As with
  | [.inr (.inr (some p0)), .inl p1, .inr (.inl p2)] => ∃ r : Int32, w = some (.inl r) ∧ HIC τ ∧ ExC [] σ τ ∧ ((r.toInt = 1 ∧ 0 ≤ p1.toInt ∧ p1.toInt < 6) ∨ (r.toInt = -1 ∧ (p1.toInt < 0 ∨ 6 ≤ p1.toInt)))
  | _ => False
set_option maxRecDepth 100000 in
set_option maxHeartbeats 4000000 in
theorem b_X11_argument : TbC KX11_argument [] P_X11_argument Q_X11_argument := by sorry
theorem lg_X11_argument : ∀ (As : List AvC) (σ : CsC), P_X11_argument As σ → lgC As ≤ rX11_argument.2.2.1 := by sorry
theorem m_X11_argument (l : Launch) : CMetC l 1 216 P_X11_argument Q_X11_argument := by sorry
abbrev P_X11_input : CpC := fun As σ => ∃ (p0 : Nat) (p1 : Int32), As = [.inr (.inr (some p0)), .inl p1] ∧ HIC σ ∧ TyC σ p0 12
abbrev Q_X11_input : CqC := fun As σ w τ => match As with
  | [.inr (.inr (some p0)), .inl p1] => ∃ r : Int32, w = some (.inl r) ∧ HIC τ ∧ ExC [370] σ τ ∧ ((((fIC σ p0 370).toInt = 40 ∧ r.toInt = -3 ∧ (fIC τ p0 370).toInt = (fIC σ p0 370).toInt) ∨ ((fIC σ p0 370).toInt < 40 ∧ r.toInt = (fIC τ p0 370).toInt ∧ (fIC τ p0 370).toInt = (fIC σ p0 370).toInt + 1)))
  | _ => False
set_option maxRecDepth 100000 in
set_option maxHeartbeats 4000000 in
theorem b_X11_input : TbC KX11_input [] P_X11_input Q_X11_input := by sorry
theorem lg_X11_input : ∀ (As : List AvC) (σ : CsC), P_X11_input As σ → lgC As ≤ rX11_input.2.2.1 := by sorry
theorem m_X11_input (l : Launch) : CMetC l 1 217 P_X11_input Q_X11_input := by sorry
abbrev P_X11_drain : CpC := fun As σ => ∃ (p0 : Nat), As = [.inr (.inr (some p0))] ∧ HIC σ ∧ TyC σ p0 12
abbrev Q_X11_drain : CqC := fun As σ w τ => match As with
  | [.inr (.inr (some p0))] => ∃ r : Int32, w = some (.inl r) ∧ HIC τ ∧ ExC [370] σ τ ∧ ((r.toInt = (fIC σ p0 370).toInt ∧ (fIC τ p0 370).toInt = 0))
  | _ => False
set_option maxRecDepth 100000 in
set_option maxHeartbeats 4000000 in
theorem b_X11_drain : TbC KX11_drain [] P_X11_drain Q_X11_drain := by sorry
theorem lg_X11_drain : ∀ (As : List AvC) (σ : CsC), P_X11_drain As σ → lgC As ≤ rX11_drain.2.2.1 := by sorry
theorem m_X11_drain (l : Launch) : CMetC l 1 218 P_X11_drain Q_X11_drain := by sorry
abbrev P_X11_run : CpC := fun As σ => ∃ (p0 : Nat) (p1 : Int32) (p2 : Int32), As = [.inr (.inr (some p0)), .inl p1, .inl p2] ∧ HIC σ ∧ TyC σ p0 12
abbrev Q_X11_run : CqC := fun As σ w τ => match As with
  | [.inr (.inr (some p0)), .inl p1, .inl p2] => ∃ r : Int32, w = some (.inl r) ∧ HIC τ ∧ ExC [159, 160, 161, 162, 163, 164, 165, 166, 167, 168, 169, 372] σ τ
  | _ => False
set_option maxRecDepth 100000 in
set_option maxHeartbeats 4000000 in
theorem b_X11_run : TbC KX11_run [(234, P_Jx4a65c_size_8abf5, Q_Jx4a65c_size_8abf5), (88, P_X4_prepare, Q_X4_prepare), (235, P_Jx4a65c_get_915e3, Q_Jx4a65c_get_915e3), (89, P_X4_perform, Q_X4_perform)] P_X11_run Q_X11_run := by sorry
theorem lg_X11_run : ∀ (As : List AvC) (σ : CsC), P_X11_run As σ → lgC As ≤ rX11_run.2.2.1 := by sorry
theorem m_X11_run (l : Launch) : CMetC l 16 219 P_X11_run Q_X11_run := by sorry
abbrev P_X11_ran : CpC := fun As σ => ∃ (p0 : Nat) (p1 : Int32), As = [.inr (.inr (some p0)), .inl p1] ∧ HIC σ ∧ TyC σ p0 12
abbrev Q_X11_ran : CqC := fun As σ w τ => match As with
  | [.inr (.inr (some p0)), .inl p1] => ∃ r : Int64, w = some (.inr (.inl r)) ∧ σ = τ
  | _ => False
set_option maxRecDepth 100000 in
set_option maxHeartbeats 4000000 in
theorem b_X11_ran : TbC KX11_ran [(90, P_X4_report, Q_X4_report)] P_X11_ran Q_X11_ran := by sorry
theorem lg_X11_ran : ∀ (As : List AvC) (σ : CsC), P_X11_ran As σ → lgC As ≤ rX11_ran.2.2.1 := by sorry
theorem m_X11_ran (l : Launch) : CMetC l 2 220 P_X11_ran Q_X11_ran := by sorry
abbrev P_X1_init : CpC := fun As σ => ∃ (p0 : Nat) (p1 : Int32) (p2 : Int32) (p3 : Int32) (p4 : Int32), As = [.inr (.inr (some p0)), .inl p1, .inl p2, .inl p3, .inl p4] ∧ HIC σ ∧ RawC σ p0 2 ∧ ZrC σ p0 ∧ 0 ≤ p3.toInt ∧ p3.toInt ≤ 502 ∧ 0 ≤ p4.toInt ∧ cnC σ + 0 ≤ cpC σ ∧ slC σ + 0 ≤ spC σ
abbrev Q_X1_init : CqC := fun As σ w τ => match As with
  | [.inr (.inr (some p0)), .inl p1, .inl p2, .inl p3, .inl p4] => w = none ∧ HIC τ ∧ ExT p0 [] σ τ ∧ p0 < cnC τ ∧ tgC τ p0 = 2 ∧ ghC τ p0 = ghC σ p0 ∧ cnC τ = cnC σ + 0 ∧ slC τ = slC σ + 0 ∧ GwC none σ τ ∧ (fIC τ p0 60 = p1) ∧ (fRC τ p0 73 = none) ∧ (fIC τ p0 62 = p3) ∧ (fIC τ p0 63 = p4)
  | _ => False
set_option maxRecDepth 100000 in
set_option maxHeartbeats 4000000 in
theorem b_X1_init : TbC KX1_init [] P_X1_init Q_X1_init := by sorry
theorem lg_X1_init : ∀ (As : List AvC) (σ : CsC), P_X1_init As σ → lgC As ≤ rX1_init.2.2.1 := by sorry
theorem m_X1_init (l : Launch) : CMetC l 1 17 P_X1_init Q_X1_init := by sorry
abbrev P_X8_init : CpC := fun As σ => ∃ (p0 : Nat) (p1 : Int32) (p2 : Int32) (p3 : Int32) (p4 : Option Nat) (p5 : Int64), As = [.inr (.inr (some p0)), .inl p1, .inl p2, .inl p3, .inr (.inr p4), .inr (.inl p5)] ∧ HIC σ ∧ RawC σ p0 9 ∧ ZrC σ p0 ∧ 0 ≤ p2.toInt ∧ p2.toInt ≤ 502 ∧ 0 ≤ p3.toInt ∧ p3.toInt ≤ 22 ∧ OtC σ p4 9 ∧ cnC σ + 0 ≤ cpC σ ∧ slC σ + 0 ≤ spC σ ∧ ¬ p1.toInt = 6 ∧ (∀ b, p4 = some b → b < p0)
abbrev Q_X8_init : CqC := fun As σ w τ => match As with
  | [.inr (.inr (some p0)), .inl p1, .inl p2, .inl p3, .inr (.inr p4), .inr (.inl p5)] => w = none ∧ HIC τ ∧ ExT p0 [] σ τ ∧ TyC τ p0 9 ∧ ghC τ p0 = ghC σ p0 ∧ cnC τ = cnC σ + 0 ∧ slC τ = slC σ + 0 ∧ GwC none σ τ ∧ (fIC τ p0 270 = p1) ∧ (fIC τ p0 272 = p3)
  | _ => False
set_option maxRecDepth 100000 in
set_option maxHeartbeats 4000000 in
theorem b_X8_init : TbC KX8_init [] P_X8_init Q_X8_init := by sorry
theorem lg_X8_init : ∀ (As : List AvC) (σ : CsC), P_X8_init As σ → lgC As ≤ rX8_init.2.2.1 := by sorry
theorem m_X8_init (l : Launch) : CMetC l 1 178 P_X8_init Q_X8_init := by sorry
abbrev P_X10_init : CpC := fun As σ => ∃ (p0 : Nat) (p1 : Int32) (p2 : Int32) (p3 : Int32) (p4 : Int32), As = [.inr (.inr (some p0)), .inl p1, .inl p2, .inl p3, .inl p4] ∧ HIC σ ∧ RawC σ p0 11 ∧ ZrC σ p0 ∧ 0 ≤ p1.toInt ∧ p1.toInt ≤ 502 ∧ 0 ≤ p3.toInt ∧ p3.toInt ≤ 1 ∧ cnC σ + 0 ≤ cpC σ ∧ slC σ + 0 ≤ spC σ
abbrev Q_X10_init : CqC := fun As σ w τ => match As with
  | [.inr (.inr (some p0)), .inl p1, .inl p2, .inl p3, .inl p4] => w = none ∧ HIC τ ∧ ExT p0 [] σ τ ∧ TyC τ p0 11 ∧ ghC τ p0 = ghC σ p0 ∧ cnC τ = cnC σ + 0 ∧ slC τ = slC σ + 0 ∧ GwC none σ τ ∧ (fIC τ p0 330 = p1) ∧ (fIC τ p0 331 = p2) ∧ (fIC τ p0 332 = p3) ∧ (fIC τ p0 333 = p4)
  | _ => False
set_option maxRecDepth 100000 in
set_option maxHeartbeats 4000000 in
theorem b_X10_init : TbC KX10_init [] P_X10_init Q_X10_init := by sorry
theorem lg_X10_init : ∀ (As : List AvC) (σ : CsC), P_X10_init As σ → lgC As ≤ rX10_init.2.2.1 := by sorry
theorem m_X10_init (l : Launch) : CMetC l 1 199 P_X10_init Q_X10_init := by sorry
abbrev P_X5_init : CpC := fun As σ => ∃ (p0 : Nat) (p1 : Int32) (p2 : Int64) (p3 : Int32) (p4 : Int32), As = [.inr (.inr (some p0)), .inl p1, .inr (.inl p2), .inl p3, .inl p4] ∧ HIC σ ∧ RawC σ p0 6 ∧ ZrC σ p0 ∧ (-1) ≤ p1.toInt ∧ p1.toInt ≤ 502 ∧ cnC σ + 2 ≤ cpC σ ∧ slC σ + 27 ≤ spC σ
abbrev Q_X5_init : CqC := fun As σ w τ => match As with
  | [.inr (.inr (some p0)), .inl p1, .inr (.inl p2), .inl p3, .inl p4] => w = none ∧ HIC τ ∧ ExT p0 [999] σ τ ∧ TyC τ p0 6 ∧ ghC τ p0 = ghC σ p0 ∧ cnC τ = cnC σ + 2 ∧ slC τ = slC σ + 27 ∧ GwC none σ τ ∧ (fIC τ p0 180 = p1) ∧ (fIC τ p0 185 = 0) ∧ (fIC τ p0 182 = p3) ∧ ((∀ r, fRC τ p0 183 = some r → cnC σ ≤ r))
  | _ => False
set_option maxRecDepth 100000 in
set_option maxHeartbeats 4000000 in
theorem b_X5_init : TbC KX5_init [(178, P_X8_init, Q_X8_init)] P_X5_init Q_X5_init := by sorry
theorem lg_X5_init : ∀ (As : List AvC) (σ : CsC), P_X5_init As σ → lgC As ≤ rX5_init.2.2.1 := by sorry
theorem m_X5_init (l : Launch) : CMetC l 2 111 P_X5_init Q_X5_init := by sorry
abbrev P_X7_init : CpC := fun As σ => ∃ (p0 : Nat) (p1 : Nat), As = [.inr (.inr (some p0)), .inr (.inr (some p1))] ∧ HIC σ ∧ RawC σ p0 8 ∧ ZrC σ p0 ∧ TyC σ p1 7 ∧ cnC σ + 0 ≤ cpC σ ∧ slC σ + 0 ≤ spC σ
abbrev Q_X7_init : CqC := fun As σ w τ => match As with
  | [.inr (.inr (some p0)), .inr (.inr (some p1))] => w = none ∧ HIC τ ∧ ExT p0 [] σ τ ∧ TyC τ p0 8 ∧ ghC τ p0 = ghC σ p0 ∧ cnC τ = cnC σ + 0 ∧ slC τ = slC σ + 0
  | _ => False
set_option maxRecDepth 100000 in
set_option maxHeartbeats 4000000 in
theorem b_X7_init : TbC KX7_init [] P_X7_init Q_X7_init := by sorry
theorem lg_X7_init : ∀ (As : List AvC) (σ : CsC), P_X7_init As σ → lgC As ≤ rX7_init.2.2.1 := by sorry
theorem m_X7_init (l : Launch) : CMetC l 1 122 P_X7_init Q_X7_init := by sorry
abbrev P_X2_init : CpC := fun As σ => ∃ (p0 : Nat) (p1 : Nat), As = [.inr (.inr (some p0)), .inr (.inr (some p1))] ∧ HIC σ ∧ RawC σ p0 3 ∧ ZrC σ p0 ∧ TyC σ p1 7 ∧ cnC σ + 1 ≤ cpC σ ∧ slC σ + 500 ≤ spC σ
abbrev Q_X2_init : CqC := fun As σ w τ => match As with
  | [.inr (.inr (some p0)), .inr (.inr (some p1))] => w = none ∧ HIC τ ∧ ExT p0 [999] σ τ ∧ TyC τ p0 3 ∧ ghC τ p0 = ghC σ p0 ∧ cnC τ = cnC σ + 1 ∧ slC τ = slC σ + 500
  | _ => False
set_option maxRecDepth 100000 in
set_option maxHeartbeats 4000000 in
theorem b_X2_init : TbC KX2_init [] P_X2_init Q_X2_init := by sorry
theorem lg_X2_init : ∀ (As : List AvC) (σ : CsC), P_X2_init As σ → lgC As ≤ rX2_init.2.2.1 := by sorry
theorem m_X2_init (l : Launch) : CMetC l 1 19 P_X2_init Q_X2_init := by sorry
abbrev P_X3_init : CpC := fun As σ => ∃ (p0 : Nat) (p1 : Nat), As = [.inr (.inr (some p0)), .inr (.inr (some p1))] ∧ HIC σ ∧ RawC σ p0 4 ∧ ZrC σ p0 ∧ TyC σ p1 7 ∧ cnC σ + 2 ≤ cpC σ ∧ slC σ + 505 ≤ spC σ
abbrev Q_X3_init : CqC := fun As σ w τ => match As with
  | [.inr (.inr (some p0)), .inr (.inr (some p1))] => w = none ∧ HIC τ ∧ ExT p0 [999] σ τ ∧ TyC τ p0 4 ∧ ghC τ p0 = ghC σ p0 ∧ cnC τ = cnC σ + 2 ∧ slC τ = slC σ + 505
  | _ => False
set_option maxRecDepth 100000 in
set_option maxHeartbeats 4000000 in
theorem b_X3_init : TbC KX3_init [(19, P_X2_init, Q_X2_init)] P_X3_init Q_X3_init := by sorry
theorem lg_X3_init : ∀ (As : List AvC) (σ : CsC), P_X3_init As σ → lgC As ≤ rX3_init.2.2.1 := by sorry
theorem m_X3_init (l : Launch) : CMetC l 2 48 P_X3_init Q_X3_init := by sorry
abbrev P_X0_init : CpC := fun As σ => ∃ (p0 : Nat) (p1 : Nat), As = [.inr (.inr (some p0)), .inr (.inr (some p1))] ∧ HIC σ ∧ RawC σ p0 1 ∧ ZrC σ p0 ∧ TyC σ p1 7 ∧ cnC σ + 5 ≤ cpC σ ∧ slC σ + 4021 ≤ spC σ
abbrev Q_X0_init : CqC := fun As σ w τ => match As with
  | [.inr (.inr (some p0)), .inr (.inr (some p1))] => w = none ∧ HIC τ ∧ ExT p0 [999] σ τ ∧ TyC τ p0 1 ∧ ghC τ p0 = ghC σ p0 ∧ cnC τ = cnC σ + 5 ∧ slC τ = slC σ + 4021
  | _ => False
set_option maxRecDepth 100000 in
set_option maxHeartbeats 4000000 in
theorem b_X0_init : TbC KX0_init [(178, P_X8_init, Q_X8_init)] P_X0_init Q_X0_init := by sorry
theorem lg_X0_init : ∀ (As : List AvC) (σ : CsC), P_X0_init As σ → lgC As ≤ rX0_init.2.2.1 := by sorry
theorem m_X0_init (l : Launch) : CMetC l 2 0 P_X0_init Q_X0_init := by sorry
abbrev P_X4_init : CpC := fun As σ => ∃ (p0 : Nat) (p1 : Nat), As = [.inr (.inr (some p0)), .inr (.inr (some p1))] ∧ HIC σ ∧ RawC σ p0 5 ∧ ZrC σ p0 ∧ TyC σ p1 1 ∧ cnC σ + 9 ≤ cpC σ ∧ slC σ + 11452 ≤ spC σ
abbrev Q_X4_init : CqC := fun As σ w τ => match As with
  | [.inr (.inr (some p0)), .inr (.inr (some p1))] => w = none ∧ HIC τ ∧ ExT p0 [999] σ τ ∧ TyC τ p0 5 ∧ ghC τ p0 = ghC σ p0 ∧ cnC τ = cnC σ + 9 ∧ slC τ = slC σ + 11452
  | _ => False
set_option maxRecDepth 100000 in
set_option maxHeartbeats 4000000 in
theorem b_X4_init : TbC KX4_init [] P_X4_init Q_X4_init := by sorry
theorem lg_X4_init : ∀ (As : List AvC) (σ : CsC), P_X4_init As σ → lgC As ≤ rX4_init.2.2.1 := by sorry
theorem m_X4_init (l : Launch) : CMetC l 1 87 P_X4_init Q_X4_init := by sorry
abbrev P_X9_init : CpC := fun As σ => ∃ (p0 : Nat), As = [.inr (.inr (some p0))] ∧ HIC σ ∧ RawC σ p0 10 ∧ ZrC σ p0 ∧ cnC σ + 7 ≤ cpC σ ∧ slC σ + 2539 ≤ spC σ
abbrev Q_X9_init : CqC := fun As σ w τ => match As with
  | [.inr (.inr (some p0))] => w = none ∧ HIC τ ∧ ExT p0 [996, 999] σ τ ∧ TyC τ p0 10 ∧ ghC τ p0 = ghC σ p0 ∧ cnC τ = cnC σ + 7 ∧ slC τ = slC σ + 2539
  | _ => False
set_option maxRecDepth 100000 in
set_option maxHeartbeats 4000000 in
theorem b_X9_init : TbC KX9_init [(239, P_J0_length_8abf5, Q_J0_length_8abf5), (238, P_J0_charAt_5068e, Q_J0_charAt_5068e), (185, P_X9_longerKey, Q_X9_longerKey)] P_X9_init Q_X9_init := by sorry
theorem lg_X9_init : ∀ (As : List AvC) (σ : CsC), P_X9_init As σ → lgC As ≤ rX9_init.2.2.1 := by sorry
theorem m_X9_init (l : Launch) : CMetC l 11 184 P_X9_init Q_X9_init := by sorry
abbrev P_X6_init : CpC := fun As σ => ∃ (p0 : Nat), As = [.inr (.inr (some p0))] ∧ HIC σ ∧ RawC σ p0 7 ∧ ZrC σ p0 ∧ cnC σ + 18 ≤ cpC σ ∧ slC σ + 2628 ≤ spC σ
abbrev Q_X6_init : CqC := fun As σ w τ => match As with
  | [.inr (.inr (some p0))] => w = none ∧ HIC τ ∧ ExT p0 [185, 995, 996, 999] σ τ ∧ TyC τ p0 7 ∧ ghC τ p0 = ghC σ p0 ∧ cnC τ = cnC σ + 18 ∧ slC τ = slC σ + 2628
  | _ => False
set_option maxRecDepth 100000 in
set_option maxHeartbeats 4000000 in
theorem b_X6_init : TbC KX6_init [(184, P_X9_init, Q_X9_init), (233, P_Jx4a65c_init_da8c8, Q_Jx4a65c_init_da8c8), (186, P_X9_keyOf, Q_X9_keyOf), (111, P_X5_init, Q_X5_init), (112, P_X5_addParam, Q_X5_addParam)] P_X6_init Q_X6_init := by sorry
theorem lg_X6_init : ∀ (As : List AvC) (σ : CsC), P_X6_init As σ → lgC As ≤ rX6_init.2.2.1 := by sorry
theorem m_X6_init (l : Launch) : CMetC l 12 116 P_X6_init Q_X6_init := by sorry
abbrev P_X11_init : CpC := fun As σ => ∃ (p0 : Nat), As = [.inr (.inr (some p0))] ∧ HIC σ ∧ RawC σ p0 12 ∧ ZrC σ p0 ∧ cnC σ + 61 ≤ cpC σ ∧ slC σ + 23835 ≤ spC σ
abbrev Q_X11_init : CqC := fun As σ w τ => match As with
  | [.inr (.inr (some p0))] => w = none ∧ HIC τ ∧ ExT p0 [185, 995, 996, 999] σ τ ∧ TyC τ p0 12 ∧ ghC τ p0 = ghC σ p0 ∧ cnC τ = cnC σ + 61 ∧ slC τ = slC σ + 23835 ∧ (fIC τ p0 369 = 0) ∧ (fIC τ p0 370 = 0)
  | _ => False
set_option maxRecDepth 100000 in
set_option maxHeartbeats 4000000 in
theorem b_X11_init : TbC KX11_init [(116, P_X6_init, Q_X6_init), (122, P_X7_init, Q_X7_init), (48, P_X3_init, Q_X3_init), (0, P_X0_init, Q_X0_init), (87, P_X4_init, Q_X4_init)] P_X11_init Q_X11_init := by sorry
theorem lg_X11_init : ∀ (As : List AvC) (σ : CsC), P_X11_init As σ → lgC As ≤ rX11_init.2.2.1 := by sorry
theorem m_X11_init (l : Launch) : CMetC l 13 200 P_X11_init Q_X11_init := by sorry
def wtT : List Int := [98, 111, 111, 108, 101, 97, 110, 32, 98, 121, 116, 101, 32, 99, 104, 97, 114, 32, 105, 110, 116, 32, 108, 111, 110, 103, 32, 118, 111, 105, 100, 32, 105, 102, 32, 101, 108, 115, 101, 32, 119, 104, 105, 108, 101, 32, 100, 111, 32, 102, 111, 114, 32, 115, 119, 105, 116, 99, 104, 32, 99, 97, 115, 101, 32, 100, 101, 102, 97, 117, 108, 116, 32, 98, 114, 101, 97, 107, 32, 99, 111, 110, 116, 105, 110, 117, 101, 32, 114, 101, 116, 117, 114, 110, 32, 116, 104, 114, 111, 119, 32, 116, 114, 121, 32, 99, 97, 116, 99, 104, 32, 102, 105, 110, 97, 108, 108, 121, 32, 102, 105, 110, 97, 108, 32, 116, 114, 117, 101, 32, 102, 97, 108, 115, 101]
def wwT : List Nat := [0, 0, 0, 0, 0, 0, 0, 0, 1, 1, 1, 1, 1, 2, 2, 2, 2, 2, 3, 3, 3, 3, 4, 4, 4, 4, 4, 5, 5, 5, 5, 5, 6, 6, 6, 7, 7, 7, 7, 7, 8, 8, 8, 8, 8, 8, 9, 9, 9, 10, 10, 10, 10, 11, 11, 11, 11, 11, 11, 11, 12, 12, 12, 12, 12, 13, 13, 13, 13, 13, 13, 13, 13, 14, 14, 14, 14, 14, 14, 15, 15, 15, 15, 15, 15, 15, 15, 15, 16, 16, 16, 16, 16, 16, 16, 17, 17, 17, 17, 17, 17, 18, 18, 18, 18, 19, 19, 19, 19, 19, 19, 20, 20, 20, 20, 20, 20, 20, 20, 21, 21, 21, 21, 21, 21, 22, 22, 22, 22, 22, 23, 23, 23, 23, 23, 23]
def wiT : List Nat := [0, 0, 0, 0, 0, 0, 0, 99, 1, 1, 1, 1, 99, 2, 2, 2, 2, 99, 3, 3, 3, 99, 4, 4, 4, 4, 99, 5, 5, 5, 5, 99, 6, 6, 99, 7, 7, 7, 7, 99, 8, 8, 8, 8, 8, 99, 9, 9, 99, 10, 10, 10, 99, 11, 11, 11, 11, 11, 11, 99, 12, 12, 12, 12, 99, 13, 13, 13, 13, 13, 13, 13, 99, 14, 14, 14, 14, 14, 99, 15, 15, 15, 15, 15, 15, 15, 15, 99, 16, 16, 16, 16, 16, 16, 99, 17, 17, 17, 17, 17, 99, 18, 18, 18, 99, 19, 19, 19, 19, 19, 99, 20, 20, 20, 20, 20, 20, 20, 99, 21, 21, 21, 21, 21, 99, 22, 22, 22, 22, 99, 23, 23, 23, 23, 23]
/-- the bytes of the words among the first characters, last first -/
def wlY : Nat → Nat → List Int
  | 0, _ => []
  | i + 1, k => if k = wiT.getD i 99 then wtT.getD i 0 :: wlY i k else wlY i k
theorem wt_c : ∀ i : Fin 135, (chrV 0 (Int32.ofInt (i.1 : Int))).toInt = wtT.getD i.1 0 := by sorry
theorem wt_s : ∀ i : Fin 135, (wtT.getD i.1 0 = 32 ∧ wwT.getD (i.1 + 1) 0 = wwT.getD i.1 0 + 1 ∧ wiT.getD i.1 99 = 99 ∧ wwT.getD i.1 0 < 24) ∨ (¬ wtT.getD i.1 0 = 32 ∧ (isLY (wtT.getD i.1 0) ∨ isDY (wtT.getD i.1 0)) ∧ wiT.getD i.1 99 = wwT.getD i.1 0 ∧ wwT.getD i.1 0 < 24 ∧ wwT.getD (i.1 + 1) 0 = wwT.getD i.1 0 ∧ (wlY i.1 (wwT.getD i.1 0)).length ≤ 9) := by sorry
theorem wt_e : ∀ k : Fin 24, wlY 135 k.1 = wkY.getD k.1 [] := by sorry
theorem wl_al : ∀ i, i ≤ 135 → ∀ k, k < 24 → alK (wlY i k) := by sorry
theorem WeC.fR {σ τ : CsC} (h : WeC σ τ) : fRC τ = fRC σ := by sorry
theorem WeC.fI {σ τ : CsC} (h : WeC σ τ) : fIC τ = fIC σ := by sorry
theorem WeC.eL {σ τ : CsC} (h : WeC σ τ) : eLC τ = eLC σ := by sorry
theorem WeC.eI {σ τ : CsC} (h : WeC σ τ) : eIC τ = eIC σ := by sorry
/-- rows of longs that were there are as they were -/
def OldL (σ τ : CsC) : Prop := cnC σ ≤ cnC τ ∧ ∀ b, b < cnC σ → eLC τ b = eLC σ b
theorem OldL.rf {σ : CsC} : OldL σ σ := ⟨Nat.le_refl _, fun _ _ => rfl⟩
theorem OldL.n {σ τ : CsC} {t n g : Nat} (h : OldL σ τ) : OldL σ (nAC τ t n g) := by sorry
theorem OldL.p {σ τ : CsC} {a k : Nat} {v : Option Nat} (h : OldL σ τ) : OldL σ (pRC τ a k v) := h
theorem OldL.q {σ τ : CsC} {c : Nat} {f : Nat → Int64} (h : OldL σ τ) (hc : cnC σ ≤ c) : OldL σ (qLC τ c f) := by sorry
theorem OldL.we {σ τ υ : CsC} (h : OldL σ τ) (e : WeC τ υ) : OldL σ υ := by sorry
theorem fR_w1 {σ : CsC} {a k : Nat} {v : Option Nat} : fRC (pRC σ a k v) a k = v := u2C_eq
theorem fR_w2 {σ : CsC} {a k j : Nat} {v : Option Nat} (h : j ≠ k) : fRC (pRC σ a k v) a j = fRC σ a j := u2C_nk h
theorem fR_w3 {σ : CsC} {a b k j : Nat} {v : Option Nat} (h : j ≠ k) : fRC (pRC σ a k v) b j = fRC σ b j := u2C_nk h
theorem fR_w4 {σ : CsC} {a k : Nat} {v : Int32} : fRC (pIC σ a k v) = fRC σ := rfl
theorem fR_nw2 {σ : CsC} {a k j t n g : Nat} {v : Option Nat} (h : j ≠ k) : fRC (nAC (pRC σ a k v) t n g) a j = fRC σ a j := u2C_nk h
theorem fR_nw1 {σ : CsC} {a k t n g : Nat} {v : Option Nat} : fRC (nAC (pRC σ a k v) t n g) a k = v := u2C_eq
/-- the rows of places, sizes, codes are new, and none is cut -/
def NwR (N : Nat) (τ : CsC) (p0 : Nat) : Prop := (∃ a, fRC τ p0 300 = some a ∧ N ≤ a) ∧ (∃ a, fRC τ p0 301 = some a ∧ N ≤ a) ∧ (∃ a, fRC τ p0 302 = some a ∧ N ≤ a) ∧ fIC τ p0 305 = 0
theorem eL_nA1 {σ : CsC} {t n g : Nat} : eLC (nAC σ t n g) (cnC σ) = fun _ => 0 := u1C_eq
theorem eL_nA2 {σ : CsC} {t n g b : Nat} (h : b ≠ cnC σ) : eLC (nAC σ t n g) b = eLC σ b := u1C_ne h
theorem ini9 {Y : CsC} {p0 n1 g1 n2 g2 : Nat} : fRC (pRC (nAC (pRC (nAC Y 102 n1 g1) p0 306 (some (cnC Y))) 101 n2 g2) p0 307 (some (cnC (pRC (nAC Y 102 n1 g1) p0 306 (some (cnC Y)))))) p0 306 = some (cnC Y) ∧ ∀ k, eLC (pRC (nAC (pRC (nAC Y 102 n1 g1) p0 306 (some (cnC Y))) 101 n2 g2) p0 307 (some (cnC (pRC (nAC Y 102 n1 g1) p0 306 (some (cnC Y)))))) (cnC Y) k = 0 := by sorry
abbrev Pp_ini9 (_y : Unit) : CpC := fun _ _ => True
abbrev Qp_ini9 (_y : Unit) : CqC := fun As σ w τ => match As with
  | [.inr (.inr (some p0))] => (OldL σ τ ∧ NwR (cnC σ) τ p0) ∧ ∃ c, cnC σ ≤ c ∧ fRC τ p0 306 = some c ∧ ∀ k, k < 24 → (eLC τ c k).toInt = kyY (wkY.getD k [])
  | _ => True
theorem p_ini9 (y : Unit) : PbC KX9_init [(239, P_J0_length_8abf5, Q_J0_length_8abf5), (238, P_J0_charAt_5068e, Q_J0_charAt_5068e), (185, P_X9_longerKey, Q_X9_longerKey)] [(185, U_longerKey)] (fun As σ => P_X9_init As σ ∧ Pp_ini9 y As σ) (Qp_ini9 y) := by sorry
abbrev U_ini9 : CqC := fun As σ w τ => ∀ y, Pp_ini9 y As σ → Qp_ini9 y As σ w τ
theorem n_ini9 (l : Launch) : CMetC l 11 184 P_X9_init (fun As σ w τ => Q_X9_init As σ w τ ∧ U_ini9 As σ w τ) := by sorry
def KX6_init_0z8 : List RI := (.getfield 45, 3, 0, 215, []) :: (.iconst 4, 1, 0, 0, []) :: (.invokevirtual 52, 3, 1, 112, [(0, 0), (0, 0), (0, 0), (0, 0), (0, 0), (0, 0)]) :: (.return_, 1, 0, 0, []) :: []
theorem KX6_init_0z8e : KX6_init_0z8 = (.getfield 45, 3, 0, 215, []) :: (.iconst 4, 1, 0, 0, []) :: (.invokevirtual 52, 3, 1, 112, [(0, 0), (0, 0), (0, 0), (0, 0), (0, 0), (0, 0)]) :: (.return_, 1, 0, 0, []) :: [] := rfl
def KX6_init_0z7 : List RI := (.invokestatic 38, 3, 1, 186, []) :: (.iconst 3, 1, 0, 0, []) :: (.iconst 0, 1, 0, 0, []) :: (.invokespecial 42, 3, 4, 111, []) :: (.putfield 50, 3, 0, 216, []) :: (.aload_n 0, 1, 0, 0, []) :: KX6_init_0z8
theorem KX6_init_0z7e : KX6_init_0z7 = (.invokestatic 38, 3, 1, 186, []) :: (.iconst 3, 1, 0, 0, []) :: (.iconst 0, 1, 0, 0, []) :: (.invokespecial 42, 3, 4, 111, []) :: (.putfield 50, 3, 0, 216, []) :: (.aload_n 0, 1, 0, 0, []) :: KX6_init_0z8 := rfl
def KX6_init_0z6 : List RI := (.putfield 45, 3, 0, 215, []) :: (.aload_n 0, 1, 0, 0, []) :: (.new 34, 3, 0, 6, []) :: (.dup, 1, 0, 0, []) :: (.iconst (-1), 1, 0, 0, []) :: (.ldc 48, 2, 0, 1000005, []) :: KX6_init_0z7
theorem KX6_init_0z6e : KX6_init_0z6 = (.putfield 45, 3, 0, 215, []) :: (.aload_n 0, 1, 0, 0, []) :: (.new 34, 3, 0, 6, []) :: (.dup, 1, 0, 0, []) :: (.iconst (-1), 1, 0, 0, []) :: (.ldc 48, 2, 0, 1000005, []) :: KX6_init_0z7 := rfl
def KX6_init_0z5 : List RI := (.iconst (-1), 1, 0, 0, []) :: (.ldc 36, 2, 0, 1000004, []) :: (.invokestatic 38, 3, 1, 186, []) :: (.iconst 5, 1, 0, 0, []) :: (.iconst 0, 1, 0, 0, []) :: (.invokespecial 42, 3, 4, 111, []) :: KX6_init_0z6
theorem KX6_init_0z5e : KX6_init_0z5 = (.iconst (-1), 1, 0, 0, []) :: (.ldc 36, 2, 0, 1000004, []) :: (.invokestatic 38, 3, 1, 186, []) :: (.iconst 5, 1, 0, 0, []) :: (.iconst 0, 1, 0, 0, []) :: (.invokespecial 42, 3, 4, 111, []) :: KX6_init_0z6 := rfl
def KX6_init_0z4 : List RI := (.dup, 1, 0, 0, []) :: (.invokespecial 20, 3, 0, 233, []) :: (.putfield 31, 3, 0, 214, []) :: (.aload_n 0, 1, 0, 0, []) :: (.new 34, 3, 0, 6, []) :: (.dup, 1, 0, 0, []) :: KX6_init_0z5
theorem KX6_init_0z4e : KX6_init_0z4 = (.dup, 1, 0, 0, []) :: (.invokespecial 20, 3, 0, 233, []) :: (.putfield 31, 3, 0, 214, []) :: (.aload_n 0, 1, 0, 0, []) :: (.new 34, 3, 0, 6, []) :: (.dup, 1, 0, 0, []) :: KX6_init_0z5 := rfl
def KX6_init_0z3 : List RI := (.new 18, 3, 2, 0, []) :: (.dup, 1, 0, 0, []) :: (.invokespecial 20, 3, 0, 233, []) :: (.putfield 28, 3, 0, 213, []) :: (.aload_n 0, 1, 0, 0, []) :: (.new 18, 3, 9, 0, []) :: KX6_init_0z4
theorem KX6_init_0z3e : KX6_init_0z3 = (.new 18, 3, 2, 0, []) :: (.dup, 1, 0, 0, []) :: (.invokespecial 20, 3, 0, 233, []) :: (.putfield 28, 3, 0, 213, []) :: (.aload_n 0, 1, 0, 0, []) :: (.new 18, 3, 9, 0, []) :: KX6_init_0z4 := rfl
def KX6_init_0z2 : List RI := (.aload_n 0, 1, 0, 0, []) :: (.new 18, 3, 11, 0, []) :: (.dup, 1, 0, 0, []) :: (.invokespecial 20, 3, 0, 233, []) :: (.putfield 25, 3, 0, 212, []) :: (.aload_n 0, 1, 0, 0, []) :: KX6_init_0z3
theorem KX6_init_0z2e : KX6_init_0z2 = (.aload_n 0, 1, 0, 0, []) :: (.new 18, 3, 11, 0, []) :: (.dup, 1, 0, 0, []) :: (.invokespecial 20, 3, 0, 233, []) :: (.putfield 25, 3, 0, 212, []) :: (.aload_n 0, 1, 0, 0, []) :: KX6_init_0z3 := rfl
def KX6_init_0z1 : List RI := (.putfield 12, 3, 0, 210, []) :: (.aload_n 0, 1, 0, 0, []) :: (.new 18, 3, 6, 0, []) :: (.dup, 1, 0, 0, []) :: (.invokespecial 20, 3, 0, 233, []) :: (.putfield 21, 3, 0, 211, []) :: KX6_init_0z2
theorem KX6_init_0z1e : KX6_init_0z1 = (.putfield 12, 3, 0, 210, []) :: (.aload_n 0, 1, 0, 0, []) :: (.new 18, 3, 6, 0, []) :: (.dup, 1, 0, 0, []) :: (.invokespecial 20, 3, 0, 233, []) :: (.putfield 21, 3, 0, 211, []) :: KX6_init_0z2 := rfl
theorem KX6_init_0e : KX6_init_0 = (.aload_n 0, 1, 0, 0, []) :: (.invokespecial 3, 3, 0, 9999, []) :: (.aload_n 0, 1, 0, 0, []) :: (.new 9, 3, 0, 10, []) :: (.dup, 1, 0, 0, []) :: (.invokespecial 11, 3, 0, 184, []) :: KX6_init_0z1 := rfl
theorem ug215 (σ : CsC) (a : Nat) : gtC σ a 215 = .inr (.inr (fRC σ a 215)) := rfl
theorem ug363 (σ : CsC) (a : Nat) : gtC σ a 363 = .inr (.inr (fRC σ a 363)) := rfl
theorem ug364 (σ : CsC) (a : Nat) : gtC σ a 364 = .inr (.inr (fRC σ a 364)) := rfl
theorem ug367 (σ : CsC) (a : Nat) : gtC σ a 367 = .inr (.inr (fRC σ a 367)) := rfl
/-- what a piece of a constructor of p0 leaves as it was: fields F of p0, and of all that was there: tags, final fields, words -/
def Kp (F : List Nat) (p0 : Nat) (σ τ : CsC) : Prop := ((cnC σ ≤ cnC τ ∧ tgC τ p0 = tgC σ p0) ∧ ∀ k, F.elem k = true → fRC τ p0 k = fRC σ p0 k) ∧ ∀ b, b < cnC σ → b ≠ p0 → (tgC τ b = tgC σ b ∧ ghC τ b = ghC σ b) ∧ (tgC σ b < 13 → ∀ k, finC k = true → fRC τ b k = fRC σ b k) ∧ (tgC σ b = 102 → ghC σ b = 5 → eLC τ b = eLC σ b) ∧ fIC τ b 305 = fIC σ b 305 ∧ fIC τ b 2 = fIC σ b 2
theorem Kp.tr {F : List Nat} {p0 : Nat} {σ τ υ : CsC} (h1 : Kp F p0 σ τ) (h2 : Kp F p0 τ υ) : Kp F p0 σ υ := by sorry
theorem Kp.nil {F : List Nat} {p0 : Nat} {σ τ : CsC} (h : Kp F p0 σ τ) : Kp [] p0 σ τ := ⟨⟨h.1.1, fun _ hk => by cases hk⟩, h.2⟩
theorem Kp.sub {F F' : List Nat} {p0 : Nat} {σ τ : CsC} (h : Kp F p0 σ τ) (hs : ∀ k, F'.elem k = true → F.elem k = true) : Kp F' p0 σ τ := ⟨⟨h.1.1, fun k hk => h.1.2 k (hs k hk)⟩, h.2⟩
theorem Kp.p {F : List Nat} {p0 k : Nat} {σ : CsC} {v : Option Nat} (hk : F.elem k = false) : Kp F p0 σ (pRC σ p0 k v) := by sorry
theorem Kp.pi {F : List Nat} {p0 k : Nat} {σ : CsC} {v : Int32} : Kp F p0 σ (pIC σ p0 k v) := by sorry
theorem nO_t {σ : CsC} {t N g b : Nat} (h : b < cnC σ) : tgC (nOC σ t N g) b = tgC σ b ∧ ghC (nOC σ t N g) b = ghC σ b := by sorry
theorem nA_t {σ : CsC} {t N g b : Nat} (h : b < cnC σ) : tgC (nAC σ t N g) b = tgC σ b ∧ ghC (nAC σ t N g) b = ghC σ b := by sorry
theorem nO_f {σ : CsC} {t N g b k : Nat} (h : b < cnC σ) : fRC (nOC σ t N g) b k = fRC σ b k := by sorry
theorem nO_i {σ : CsC} {t N g b k : Nat} (h : b < cnC σ) : fIC (nOC σ t N g) b k = fIC σ b k := by sorry
theorem Kp.na {F : List Nat} {p0 : Nat} {σ : CsC} {t n g : Nat} (hp : p0 < cnC σ) : Kp F p0 σ (nAC σ t n g) := by sorry
theorem Kp.ne {F M : List Nat} {p0 : Nat} {σ τ : CsC} {t N g : Nat} (e : ExT (cnC σ) M (nOC σ t N g) τ) (oe : ∀ b, b < cnC σ → tgC σ b = 102 → ghC σ b = 5 → eLC τ b = eLC σ b) (hF : ∀ k, F.elem k = true → M.elem k = false) (hp : p0 < cnC σ) (m5 : M.elem 305 = false ∧ M.elem 2 = false) : Kp F p0 σ τ := by sorry
theorem Kp.nx {F M : List Nat} {p0 : Nat} {σ τ : CsC} {t N g : Nat} (e : ExT (cnC σ) M (nOC σ t N g) τ) (m : M.elem 996 = false ∧ M.elem 305 = false ∧ M.elem 2 = false) (hF : ∀ k, F.elem k = true → M.elem k = false) (hp : p0 < cnC σ) : Kp F p0 σ τ := by sorry
theorem Kp.c {F M : List Nat} {p0 : Nat} {σ τ : CsC} (e : ExC M σ τ) (m : M.elem 996 = false ∧ M.elem 305 = false ∧ M.elem 2 = false) (hF : ∀ k, F.elem k = true → M.elem k = false) (hp : p0 < cnC σ) : Kp F p0 σ τ := by sorry
/-- the words stand in the Tokens t -/
def WW (τ : CsC) (t c : Nat) : Prop := (t < cnC τ ∧ tgC τ t = 10) ∧ fRC τ t 306 = some c ∧ (c < cnC τ ∧ tgC τ c = 102 ∧ ghC τ c = 5) ∧ ∀ k, k < 24 → (eLC τ c k).toInt = kyY (wkY.getD k [])
def WP (τ : CsC) (P t c : Nat) : Prop := (P < cnC τ ∧ tgC τ P = 7) ∧ fRC τ P 210 = some t ∧ WW τ t c
theorem WW.k {F : List Nat} {p0 t c : Nat} {σ τ : CsC} (h : WW σ t c) (k : Kp F p0 σ τ) (ht : t ≠ p0) (hc : c ≠ p0) : WW τ t c := by sorry
theorem WP.k {F : List Nat} {p0 P t c : Nat} {σ τ : CsC} (h : WP σ P t c) (k : Kp F p0 σ τ) (hp : P ≠ p0) (ht : t ≠ p0) (hc : c ≠ p0) : WP τ P t c := by sorry
theorem WP.k' {F : List Nat} {p0 P t c : Nat} {σ τ : CsC} (h : WP σ P t c) (k : Kp F p0 σ τ) (ht : tgC σ p0 = 62) : WP τ P t c := by sorry
theorem NwR.k {F : List Nat} {p0 t N : Nat} {σ τ : CsC} (h : NwR N σ t) (k : Kp F p0 σ τ) (h1 : t < cnC σ) (h2 : tgC σ t = 10) (ht : t ≠ p0) : NwR N τ t := by sorry
theorem NwR.le {t N M : Nat} {σ : CsC} (h : NwR N σ t) (hm : M ≤ N) : NwR M σ t := by sorry
theorem WW.mk {τ : CsC} {t c : Nat} (H : HIC τ) (ty : TyC τ t 10) (hf : fRC τ t 306 = some c) (hk : ∀ k, k < 24 → (eLC τ c k).toInt = kyY (wkY.getD k [])) : WW τ t c := by sorry
theorem WP.mk {τ : CsC} {P t c : Nat} (H : HIC τ) (ty : TyC τ P 7) (hp : fRC τ P 210 = some t) (hf : fRC τ t 306 = some c) (hk : ∀ k, k < 24 → (eLC τ c k).toInt = kyY (wkY.getD k [])) : WP τ P t c := by sorry
/-- a new list in a field of p0 -/
def LnF (τ : CsC) (p0 k a : Nat) : Prop := (a < cnC τ ∧ a ≠ p0 ∧ fIC τ a 2 = 0) ∧ fRC τ p0 k = some a
theorem LnF.k {F : List Nat} {σ τ : CsC} {p0 k a : Nat} (h : LnF σ p0 k a) (q : Kp F p0 σ τ) (hk : F.elem k = true) : LnF τ p0 k a := by sorry
theorem LnF.new {τ : CsC} {p0 k a : Nat} (h1 : a < cnC τ) (h2 : p0 < a) (h3 : fIC τ a 2 = 0) : LnF (pRC τ p0 k (some a)) p0 k a := ⟨⟨h1, by omega, h3⟩, fR_w1⟩
/-- the lists of methods and of variables are new, and nothing stands there -/
def NwL (N : Nat) (τ : CsC) (p0 : Nat) : Prop := ∀ k, k = 211 ∨ k = 212 → ∃ a, fRC τ p0 k = some a ∧ N ≤ a ∧ fIC τ a 2 = 0
abbrev U_lin : CqC := fun As _ _ τ => match As with
  | [.inr (.inr (some p0))] => fIC τ p0 2 = 0
  | _ => True
theorem n_lin (l : Launch) : CMetC l 10 233 P_Jx4a65c_init_da8c8 (fun As σ w τ => Q_Jx4a65c_init_da8c8 As σ w τ ∧ U_lin As σ w τ) := by sorry
abbrev Pp_ini6 (_y : Unit) : CpC := fun _ _ => True
abbrev Qp_ini6 (_y : Unit) : CqC := fun As σ w τ => match As with
  | [.inr (.inr (some p0))] => ((∀ b, b < cnC σ → tgC σ b = 102 → ghC σ b = 5 → eLC τ b = eLC σ b) ∧ NwL (cnC σ) τ p0) ∧ ∃ t c, (cnC σ ≤ t ∧ NwR (cnC σ) τ t) ∧ fRC τ p0 210 = some t ∧ fRC τ t 306 = some c ∧ ∀ k, k < 24 → (eLC τ c k).toInt = kyY (wkY.getD k [])
  | _ => True
theorem p_ini6 (y : Unit) : PbC KX6_init [(184, P_X9_init, Q_X9_init), (233, P_Jx4a65c_init_da8c8, Q_Jx4a65c_init_da8c8), (186, P_X9_keyOf, Q_X9_keyOf), (111, P_X5_init, Q_X5_init), (112, P_X5_addParam, Q_X5_addParam)] [(184, U_ini9), (233, U_lin)] (fun As σ => P_X6_init As σ ∧ Pp_ini6 y As σ) (Qp_ini6 y) := by sorry
abbrev U_ini6 : CqC := fun As σ w τ => ∀ y, Pp_ini6 y As σ → Qp_ini6 y As σ w τ
theorem n_ini6 (l : Launch) : CMetC l 12 116 P_X6_init (fun As σ w τ => Q_X6_init As σ w τ ∧ U_ini6 As σ w τ) := by sorry
def KX11_init_0z9 : List RI := (.putfield 63, 3, 0, 371, []) :: (.return_, 1, 0, 0, []) :: []
theorem KX11_init_0z9e : KX11_init_0z9 = (.putfield 63, 3, 0, 371, []) :: (.return_, 1, 0, 0, []) :: [] := rfl
def KX11_init_0z8 : List RI := (.aload_n 0, 1, 0, 0, []) :: (.getfield 50, 3, 0, 367, []) :: (.invokespecial 56, 3, 1, 87, []) :: (.putfield 59, 3, 0, 368, []) :: (.aload_n 0, 1, 0, 0, []) :: (.bipush (-2), 2, 0, 0, []) :: KX11_init_0z9
theorem KX11_init_0z8e : KX11_init_0z8 = (.aload_n 0, 1, 0, 0, []) :: (.getfield 50, 3, 0, 367, []) :: (.invokespecial 56, 3, 1, 87, []) :: (.putfield 59, 3, 0, 368, []) :: (.aload_n 0, 1, 0, 0, []) :: (.bipush (-2), 2, 0, 0, []) :: KX11_init_0z9 := rfl
def KX11_init_0z7 : List RI := (.getfield 24, 3, 0, 363, []) :: (.invokespecial 49, 3, 1, 0, []) :: (.putfield 50, 3, 0, 367, []) :: (.aload_n 0, 1, 0, 0, []) :: (.new 54, 3, 0, 5, []) :: (.dup, 1, 0, 0, []) :: KX11_init_0z8
theorem KX11_init_0z7e : KX11_init_0z7 = (.getfield 24, 3, 0, 363, []) :: (.invokespecial 49, 3, 1, 0, []) :: (.putfield 50, 3, 0, 367, []) :: (.aload_n 0, 1, 0, 0, []) :: (.new 54, 3, 0, 5, []) :: (.dup, 1, 0, 0, []) :: KX11_init_0z8 := rfl
def KX11_init_0z6 : List RI := (.invokespecial 42, 3, 1, 48, []) :: (.putfield 43, 3, 0, 366, []) :: (.aload_n 0, 1, 0, 0, []) :: (.new 47, 3, 0, 1, []) :: (.dup, 1, 0, 0, []) :: (.aload_n 0, 1, 0, 0, []) :: KX11_init_0z7
theorem KX11_init_0z6e : KX11_init_0z6 = (.invokespecial 42, 3, 1, 48, []) :: (.putfield 43, 3, 0, 366, []) :: (.aload_n 0, 1, 0, 0, []) :: (.new 47, 3, 0, 1, []) :: (.dup, 1, 0, 0, []) :: (.aload_n 0, 1, 0, 0, []) :: KX11_init_0z7 := rfl
def KX11_init_0z5 : List RI := (.putfield 36, 3, 0, 365, []) :: (.aload_n 0, 1, 0, 0, []) :: (.new 40, 3, 0, 4, []) :: (.dup, 1, 0, 0, []) :: (.aload_n 0, 1, 0, 0, []) :: (.getfield 24, 3, 0, 363, []) :: KX11_init_0z6
theorem KX11_init_0z5e : KX11_init_0z5 = (.putfield 36, 3, 0, 365, []) :: (.aload_n 0, 1, 0, 0, []) :: (.new 40, 3, 0, 4, []) :: (.dup, 1, 0, 0, []) :: (.aload_n 0, 1, 0, 0, []) :: (.getfield 24, 3, 0, 363, []) :: KX11_init_0z6 := rfl
def KX11_init_0z4 : List RI := (.aload_n 0, 1, 0, 0, []) :: (.new 31, 3, 0, 8, []) :: (.dup, 1, 0, 0, []) :: (.aload_n 0, 1, 0, 0, []) :: (.getfield 28, 3, 0, 364, []) :: (.invokespecial 33, 3, 1, 122, []) :: KX11_init_0z5
theorem KX11_init_0z4e : KX11_init_0z4 = (.aload_n 0, 1, 0, 0, []) :: (.new 31, 3, 0, 8, []) :: (.dup, 1, 0, 0, []) :: (.aload_n 0, 1, 0, 0, []) :: (.getfield 28, 3, 0, 364, []) :: (.invokespecial 33, 3, 1, 122, []) :: KX11_init_0z5 := rfl
def KX11_init_0z3 : List RI := (.putfield 24, 3, 0, 363, []) :: (.aload_n 0, 1, 0, 0, []) :: (.new 21, 3, 0, 7, []) :: (.dup, 1, 0, 0, []) :: (.invokespecial 23, 3, 0, 116, []) :: (.putfield 28, 3, 0, 364, []) :: KX11_init_0z4
theorem KX11_init_0z3e : KX11_init_0z3 = (.putfield 24, 3, 0, 363, []) :: (.aload_n 0, 1, 0, 0, []) :: (.new 21, 3, 0, 7, []) :: (.dup, 1, 0, 0, []) :: (.invokespecial 23, 3, 0, 116, []) :: (.putfield 28, 3, 0, 364, []) :: KX11_init_0z4 := rfl
def KX11_init_0z2 : List RI := (.newarray .long, 2, 0, 102, []) :: (.putfield 17, 3, 0, 362, []) :: (.aload_n 0, 1, 0, 0, []) :: (.new 21, 3, 0, 7, []) :: (.dup, 1, 0, 0, []) :: (.invokespecial 23, 3, 0, 116, []) :: KX11_init_0z3
theorem KX11_init_0z2e : KX11_init_0z2 = (.newarray .long, 2, 0, 102, []) :: (.putfield 17, 3, 0, 362, []) :: (.aload_n 0, 1, 0, 0, []) :: (.new 21, 3, 0, 7, []) :: (.dup, 1, 0, 0, []) :: (.invokespecial 23, 3, 0, 116, []) :: KX11_init_0z3 := rfl
def KX11_init_0z1 : List RI := (.aload_n 0, 1, 0, 0, []) :: (.bipush 40, 2, 0, 0, []) :: (.newarray .int, 2, 0, 100, []) :: (.putfield 13, 3, 0, 361, []) :: (.aload_n 0, 1, 0, 0, []) :: (.bipush 6, 2, 0, 0, []) :: KX11_init_0z2
theorem KX11_init_0z1e : KX11_init_0z1 = (.aload_n 0, 1, 0, 0, []) :: (.bipush 40, 2, 0, 0, []) :: (.newarray .int, 2, 0, 100, []) :: (.putfield 13, 3, 0, 361, []) :: (.aload_n 0, 1, 0, 0, []) :: (.bipush 6, 2, 0, 0, []) :: KX11_init_0z2 := rfl
theorem KX11_init_0e : KX11_init_0 = (.aload_n 0, 1, 0, 0, []) :: (.invokespecial 1, 3, 0, 9999, []) :: (.aload_n 0, 1, 0, 0, []) :: (.sipush 2500, 3, 0, 0, []) :: (.newarray .byte, 2, 0, 101, []) :: (.putfield 9, 3, 0, 360, []) :: KX11_init_0z1 := rfl
theorem qx_X7 {b : Nat} {v : Option Nat} {S τ : CsC} {w : Option AvC} (o : Q_X7_init [.inr (.inr (some b)), .inr (.inr v)] S w τ) : w = none ∧ ExT b [] S τ := by sorry
theorem qx_X3 {b : Nat} {v : Option Nat} {S τ : CsC} {w : Option AvC} (o : Q_X3_init [.inr (.inr (some b)), .inr (.inr v)] S w τ) : w = none ∧ ExT b [999] S τ := by sorry
theorem qx_X0 {b : Nat} {v : Option Nat} {S τ : CsC} {w : Option AvC} (o : Q_X0_init [.inr (.inr (some b)), .inr (.inr v)] S w τ) : w = none ∧ ExT b [999] S τ := by sorry
theorem qx_X4 {b : Nat} {v : Option Nat} {S τ : CsC} {w : Option AvC} (o : Q_X4_init [.inr (.inr (some b)), .inr (.inr v)] S w τ) : w = none ∧ ExT b [999] S τ := by sorry
theorem qx_X2 {b : Nat} {v : Option Nat} {S τ : CsC} {w : Option AvC} (o : Q_X2_init [.inr (.inr (some b)), .inr (.inr v)] S w τ) : w = none ∧ ExT b [999] S τ := by sorry
/-- the words stand in the program's and in the spare's Tokens -/
def W2C (τ : CsC) (p0 : Nat) : Prop := ∃ P t c P' t' c', (fRC τ p0 363 = some P ∧ fRC τ P 210 = some t ∧ fRC τ t 306 = some c ∧ ∀ k, k < 24 → (eLC τ c k).toInt = kyY (wkY.getD k [])) ∧ (fRC τ p0 364 = some P' ∧ fRC τ P' 210 = some t' ∧ fRC τ t' 306 = some c' ∧ ∀ k, k < 24 → (eLC τ c' k).toInt = kyY (wkY.getD k []))
/-- the rows of places, sizes, codes are below N -/
def RlC (N : Nat) (τ : CsC) (t : Nat) : Prop := (∀ a, fRC τ t 300 = some a → a < N) ∧ (∀ a, fRC τ t 301 = some a → a < N) ∧ (∀ a, fRC τ t 302 = some a → a < N)
theorem RlC.mk {τ : CsC} {t : Nat} (H : HIC τ) (ty : TyC τ t 10) : RlC (cnC τ) τ t := by sorry
theorem RlC.kk {F : List Nat} {p0 P t c N : Nat} {σ τ : CsC} (h : RlC N σ t) (w : WP σ P t c) (k : Kp F p0 σ τ) (ht : tgC σ p0 = 62) : RlC N τ t := by sorry
theorem NwR.kk {F : List Nat} {p0 P t c N : Nat} {σ τ : CsC} (h : NwR N σ t) (w : WP σ P t c) (k : Kp F p0 σ τ) (ht : tgC σ p0 = 62) : NwR N τ t := by sorry
theorem WP.tt {τ : CsC} {P t c : Nat} (h : WP τ P t c) : TyC τ t 10 := ⟨h.2.2.1.1, h.2.2.1.2, fun q => by cases q⟩
theorem ds_1 {t t' N : Nat} (h : t < N) (h' : N + 1 ≤ t') : t ≠ t' := by sorry
theorem ds_2 {τ υ : CsC} {t t' N k : Nat} (h : ∀ a, fRC τ t k = some a → a < N) (h' : ∃ a, fRC τ t' k = some a ∧ N + 1 ≤ a) (q : ∀ y, fRC υ y k = fRC τ y k) {a a' : Nat} (e : fRC υ t k = some a) (e' : fRC υ t' k = some a') : a ≠ a' := by sorry
/-- the two programs' Tokens and their rows are apart -/
def DsC (τ : CsC) (p0 : Nat) : Prop := ∀ P P' t t', fRC τ p0 363 = some P → fRC τ p0 364 = some P' → fRC τ P 210 = some t → fRC τ P' 210 = some t' → t ≠ t' ∧ ∀ k, k = 300 ∨ k = 301 ∨ k = 302 → ∀ a a', fRC τ t k = some a → fRC τ t' k = some a' → a ≠ a'
/-- the lists of methods and of variables of P, and that nothing stands there -/
def LPw (τ : CsC) (P a b : Nat) : Prop := (fRC τ P 211 = some a ∧ fRC τ P 212 = some b) ∧ ((a < cnC τ ∧ tgC τ a = 0) ∧ (b < cnC τ ∧ tgC τ b = 0)) ∧ fIC τ a 2 = 0 ∧ fIC τ b 2 = 0
theorem LPw.mk {N : Nat} {τ : CsC} {P : Nat} (H : HIC τ) (ty : TyC τ P 7) (h : NwL N τ P) : ∃ a b, LPw τ P a b ∧ N ≤ a ∧ N ≤ b := by sorry
theorem LPw.k {F : List Nat} {p0 P t c a b : Nat} {σ τ : CsC} (h : LPw σ P a b) (w : WP σ P t c) (k : Kp F p0 σ τ) (ht : tgC σ p0 = 62) : LPw τ P a b := by sorry
/-- the two programs' lists are apart -/
def D2L (τ : CsC) (P P' : Nat) : Prop := ∀ k, k = 211 ∨ k = 212 → ∀ a a', fRC τ P k = some a → fRC τ P' k = some a' → a ≠ a'
def DlC (τ : CsC) (p0 : Nat) : Prop := ∀ P P', fRC τ p0 363 = some P → fRC τ p0 364 = some P' → D2L τ P P'
/-- nothing is told -/
def Lz0 (τ : CsC) (p0 : Nat) : Prop := ∀ P k, fRC τ p0 363 = some P → (k = 211 ∨ k = 212) → ∀ a, fRC τ P k = some a → fIC τ a 2 = 0
theorem LPw.d2 {τ υ : CsC} {P P' a b a' b' N : Nat} (h : LPw τ P a b) (h' : LPw τ P' a' b') (n1 : a < N) (n2 : b < N) (n3 : N ≤ a') (n4 : N ≤ b') (q : ∀ y k, k = 211 ∨ k = 212 → fRC υ y k = fRC τ y k) : D2L υ P P' := by sorry
theorem LPw.z {τ υ : CsC} {P a b : Nat} (h : LPw τ P a b) (q : ∀ y k, k = 211 ∨ k = 212 → fRC υ y k = fRC τ y k) (i : ∀ y, fIC υ y 2 = fIC τ y 2) : ∀ k, k = 211 ∨ k = 212 → ∀ x, fRC υ P k = some x → fIC υ x 2 = 0 := by sorry
abbrev Qp_ini11 (_y : Unit) : CqC := fun As σ w τ => match As with
  | [.inr (.inr (some p0))] => W2C τ p0 ∧ DsC τ p0 ∧ (∀ P t, fRC τ p0 363 = some P → fRC τ P 210 = some t → fIC τ t 305 = 0) ∧ DlC τ p0 ∧ Lz0 τ p0
  | _ => True
theorem p_ini11 (y : Unit) : PbC KX11_init [(116, P_X6_init, Q_X6_init), (122, P_X7_init, Q_X7_init), (48, P_X3_init, Q_X3_init), (0, P_X0_init, Q_X0_init), (87, P_X4_init, Q_X4_init)] [(116, U_ini6)] (fun As σ => P_X11_init As σ ∧ Pp_ini6 y As σ) (Qp_ini11 y) := by sorry
abbrev U_ini11 : CqC := fun As σ w τ => ∀ y, Pp_ini6 y As σ → Qp_ini11 y As σ w τ
theorem n_ini11 (l : Launch) : CMetC l 13 200 P_X11_init (fun As σ w τ => Q_X11_init As σ w τ ∧ U_ini11 As σ w τ) := by sorry
theorem bp_b (x : Int32) : x.toInt8.toInt32 &&& 255 = x &&& 255 := by sorry
theorem ug360 (σ : CsC) (a : Nat) : gtC σ a 360 = .inr (.inr (fRC σ a 360)) := rfl
theorem ug369 (σ : CsC) (a : Nat) : gtC σ a 369 = .inl (fIC σ a 369) := rfl
/-- the j-th byte of four -/
def byV (v : Int32) (j : Nat) : Int32 := (v >>> ((Int32.ofInt (24 - 8 * (j : Int))) &&& 31)) &&& 255
/-- j bytes are laid behind L -/
def apk (f : Nat → Int32) (L : Nat) (v : Int32) : Nat → Nat → Int32
  | 0 => f
  | j + 1 => fun i => if i = L + j then byV v j else apk f L v j i
theorem apk_eq {f g : Nat → Int32} {L : Nat} {v : Int32} (h : ∀ i, i < L → f i = g i) : ∀ j i, i < L + j → apk f L v j i = apk g L v j i := by sorry
theorem ap_j {s : Int} {j : Nat} (h : s = 24 - 8 * (j : Int)) (g : (0 : Int32).toInt ≤ s) (hj : j ≤ 4) : j + 1 ≤ 4 := by sorry
theorem ap_s {s t : Int} {j : Nat} (h : s = 24 - 8 * (j : Int)) (e : t = s + (-8)) : t = 24 - 8 * ((j + 1 : Nat) : Int) := by sorry
theorem ap_l {s t : Int} {j : Nat} {L : Int} (h : s = L + j) (e : t = s + 1) : t = L + ((j + 1 : Nat) : Int) := by sorry
theorem ap_x {s L : Int} {j : Nat} (h : s = L + j) (h0 : 0 ≤ L) : s.toNat = L.toNat + j := by sorry
theorem ap_4 {s : Int} {j : Nat} (h : s = 24 - 8 * (j : Int)) (g : s < (0 : Int32).toInt) (hj : j ≤ 4) : j = 4 := by sorry
theorem ap_d {l L : Int} {s : Int} {j : Nat} (h : s = 24 - 8 * (j : Int)) (g : (0 : Int32).toInt ≤ s) (hl : l = L + j) (h1 : L + 4 ≤ 2500) (h2 : (Int32.ofInt 2500).toInt ≤ l) : False := by sorry
abbrev Pp_append (f : Nat → Int32) : CpC := fun As σ => match As with
  | [.inr (.inr (some p0)), .inl p1] => (0 ≤ (fIC σ p0 369).toInt ∧ (fIC σ p0 369).toInt + 4 ≤ 2500) ∧ ∀ c, fRC σ p0 360 = some c → ∀ i, eIC σ c i &&& 255 = f i
  | _ => False
abbrev Qp_append (f : Nat → Int32) : CqC := fun As σ w τ => match As with
  | [.inr (.inr (some p0)), .inl p1] => fRC τ p0 360 = fRC σ p0 360 ∧ (fIC τ p0 369).toInt = (fIC σ p0 369).toInt + 4 ∧ ∀ c, fRC τ p0 360 = some c → ∀ i, eIC τ c i &&& 255 = apk f (fIC σ p0 369).toInt.toNat p1 4 i
  | _ => True
theorem p_append (f : Nat → Int32) : PbC KX11_append [] [] (fun As σ => P_X11_append As σ ∧ Pp_append f As σ) (Qp_append f) := by sorry
abbrev U_append : CqC := fun As σ w τ => ∀ f, Pp_append f As σ → Qp_append f As σ w τ
theorem n_append (l : Launch) : CMetC l 1 202 P_X11_append (fun As σ w τ => Q_X11_append As σ w τ ∧ U_append As σ w τ) := by sorry
abbrev fdk (f : Nat → Int32) (L : Nat) (a b c d e : Int32) : Nat → Int32 := apk (apk (apk (apk (apk f L a 4) (L + 4) b 4) (L + 8) c 4) (L + 12) d 4) (L + 16) e 4
theorem fdk_eq {f g : Nat → Int32} {L : Nat} {a b c d e : Int32} (h : ∀ i, i < L → f i = g i) : ∀ i, i < L + 20 → fdk f L a b c d e i = fdk g L a b c d e i := by sorry
abbrev Pp_feed (f : Nat → Int32) : CpC := fun As σ => match As with
  | [.inr (.inr (some p0)), .inl p1, .inl p2, .inl p3, .inl p4, .inl p5] => (0 ≤ (fIC σ p0 369).toInt ∧ (fIC σ p0 369).toInt ≤ 2500) ∧ ∀ c, fRC σ p0 360 = some c → ∀ i, eIC σ c i &&& 255 = f i
  | _ => False
abbrev Qp_feed (f : Nat → Int32) : CqC := fun As σ w τ => match As with
  | [.inr (.inr (some p0)), .inl p1, .inl p2, .inl p3, .inl p4, .inl p5] => (2500 < (fIC σ p0 369).toInt + 20 ∧ τ = σ) ∨ ((fIC σ p0 369).toInt + 20 ≤ 2500 ∧ ∀ c, fRC τ p0 360 = some c → ∀ i, eIC τ c i &&& 255 = fdk f (fIC σ p0 369).toInt.toNat p1 p2 p3 p4 p5 i)
  | _ => True
theorem p_feed (f : Nat → Int32) : PbC KX11_feed [(202, P_X11_append, Q_X11_append)] [(202, U_append)] (fun As σ => P_X11_feed As σ ∧ Pp_feed f As σ) (Qp_feed f) := by sorry
abbrev U_feed : CqC := fun As σ w τ => ∀ f, Pp_feed f As σ → Qp_feed f As σ w τ
theorem n_feed (l : Launch) : CMetC l 2 201 P_X11_feed (fun As σ w τ => Q_X11_feed As σ w τ ∧ U_feed As σ w τ) := by sorry
/-! reading as a function: at goes on, behind a fault nothing is read; fuel -/
def GpY (s t : SpC) : Prop := (¬ zFt s = 0 → t.1 = s.1) ∧ (zAt s ≤ 500 → zAt s ≤ zAt t ∧ zAt t ≤ 500)
theorem GpY.rf {s : SpC} : GpY s s := ⟨fun _ => rfl, fun h => ⟨Int.le_refl _, h⟩⟩
theorem GpY.tr {s t u : SpC} (h : GpY s t) (g : GpY t u) : GpY s u := by sorry
theorem GpY.one {s t : SpC} (h : t.1 = s.1) : GpY s t := by sorry
theorem GpY.ft {s t : SpC} (h : GpY s t) (z : ¬ zFt s = 0) : ¬ zFt t = 0 := by sorry
abbrev GdY (f : SpC → SpC) : Prop := ∀ s, GpY s (f s)
theorem gd_rai {n : Int} : GdY (raiY n) := by sorry
theorem gd_acc : GdY accY := by sorry
theorem gd_xp {c : Int} : GdY (xpY c) := by sorry
theorem gd_typ : GdY typY := by sorry
theorem gd_met {ty : Int} : GdY (metY ty) := fun _ => GpY.one rfl
theorem gd_vad {ty f : Int} : GdY (vadY ty f) := fun _ => GpY.one rfl
theorem gd_pad {ty : Int} : GdY (padY ty) := fun _ => GpY.one rfl
theorem gd_dc1 {h : Int} : GdY (dc1Y h) := by sorry
theorem gd_dc2 {ty f : Int} : GdY (dc2Y ty f) := by sorry
theorem gd_dcl {ty f h : Int} : GdY (dclY ty f h) := fun s => (gd_dc1 s).tr (gd_dc2 _)
theorem gd_clp {E : SpC → SpC} (hE : GdY E) : ∀ n, GdY (clpY E n) := by sorry
theorem gd_chl {E : SpC → SpC} (hE : GdY E) : ∀ n, GdY (chlY E n) := by sorry
theorem gd_opr {m : Nat} {E I : SpC → SpC} (hE : GdY E) (hI : GdY I) : GdY (oprY m E I) := by sorry
theorem gd_chc {O E C : SpC → SpC} (hO : GdY O) (hE : GdY E) (hC : GdY C) : GdY (chcY O E C) := by sorry
theorem gd_xps {O E C : SpC → SpC} (hO : GdY O) (hE : GdY E) (hC : GdY C) : GdY (xpsY O E C) := by sorry
theorem gd_lv : ∀ n, GdY (lvY n).1 ∧ GdY (lvY n).2.1 ∧ GdY (lvY n).2.2 := by sorry
theorem gd_e {n : Nat} : GdY (eY n) := (gd_lv n).1
theorem gd_c {n : Nat} : GdY (cY n) := (gd_lv n).2.1
theorem gd_o {n : Nat} : GdY (oY n) := (gd_lv n).2.2
theorem gd_op {n : Nat} : GdY (opY n) := gd_opr gd_e gd_o
/-- a token is taken, or there is a fault -/
theorem acc_pg {s : SpC} (h : zFt (accY s) = 0) : zFt s = 0 ∧ zAt (accY s) = zAt s + 1 ∧ zAt s < 500 ∧ accY s = ((zAt s + 1, zFt s, zPl s), s.2) := by sorry
theorem accY_s {s : SpC} (z : zFt s = 0) (h : zAt s < 500) : accY s = ((zAt s + 1, zFt s, zPl s), s.2) := by sorry
theorem accY_l {s : SpC} (h : 500 ≤ zAt s) : accY s = raiY 3 s := by sorry
theorem clpY_f {E : SpC → SpC} {n : Nat} {s : SpC} (z : ¬ zFt s = 0) : clpY E n s = s := by sorry
theorem chlY_f {E : SpC → SpC} {n : Nat} {s : SpC} (z : ¬ zFt s = 0) : chlY E n s = s := by sorry
theorem clp_fu {E : SpC → SpC} (hE : GdY E) : ∀ (n : Nat) (s : SpC), zAt s ≤ 500 → 501 - zAt s ≤ n → clpY E n s = clpY E (n + 1) s := by sorry
theorem chl_fu {E : SpC → SpC} (hE : GdY E) : ∀ (n : Nat) (s : SpC), zAt s ≤ 500 → 501 - zAt s ≤ n → chlY E n s = chlY E (n + 1) s := by sorry
/-- one more , and exp; one more operator and operand -/
theorem clp_one {E : SpC → SpC} (hE : GdY E) {s : SpC} (h0 : 0 ≤ zAt s) (h : zAt s ≤ 500) (hc : codY s = 5) : clpY E 501 s = clpY E 501 (E (accY s)) := by sorry
theorem chl_one {E : SpC → SpC} (hE : GdY E) {s : SpC} (h0 : 0 ≤ zAt s) (h : zAt s ≤ 500) (hc : 20 ≤ codY s ∧ codY s ≤ 38) : chlY E 501 s = chlY E 501 (E (accY s)) := by sorry
theorem clp_no {E : SpC → SpC} {s : SpC} {n : Nat} (hc : ¬ codY s = 5) : clpY E n s = s := by sorry
theorem chl_no {E : SpC → SpC} {s : SpC} {n : Nat} (hc : ¬ (20 ≤ codY s ∧ codY s ≤ 38)) : chlY E n s = s := by sorry
/-! what is still to be done in an exp, by what stands open: 0 prefix, 1 cast, 2 operator, 3 group, 4 call, 5 assignment, 6 ?, 7 : -/
/-- a chain's rest and a choice's -/
def tlY (n : Nat) (s : SpC) : SpC := ch2Y (eY (n - 1)) (cY (n - 1)) (chlY (opY n) 501 s)
/-- behind an operand, a choice, an exp -/
def kY : List Int → (Nat → SpC → SpC) × (Nat → SpC → SpC) × (Nat → SpC → SpC)
  | [] => (tlY, fun _ s => s, fun _ s => s)
  | k :: O =>
    let e : Nat → SpC → SpC := if k = 5 then (fun n s => (kY O).2.2 (n + 1) s) else if k = 6 then (fun n s => (kY O).2.1 (n + 1) (cY n (xpY 6 s))) else if k = 3 then (fun n s => (kY O).1 (n + 1) (xpY 1 s)) else (fun n s => (kY O).1 (n + 1) (xpY 1 (clpY (eY n) 501 s)))
    let c : Nat → SpC → SpC := if k = 7 then (fun n s => (kY O).2.1 (n + 1) s) else e
    ((if k = 0 ∨ k = 1 then (fun n s => (kY O).1 (n + 1) s) else if k = 2 then (kY O).1 else (fun n s => c n (tlY n s))), c, e)
def foY (O : List Int) (n : Nat) (s : SpC) : SpC := (kY O).1 n s
def cfY (O : List Int) (n : Nat) (s : SpC) : SpC := (kY O).2.1 n s
def efY (O : List Int) (n : Nat) (s : SpC) : SpC := (kY O).2.2 n s
def wtY (b : Int) (O : List Int) (n : Nat) (s : SpC) : SpC := if b = 1 then efY O n (eY n s) else foY O n (opY n s)
/-- the top -/
def tpY (O : List Int) : Int := match O with
  | [] => -2
  | k :: _ => k
/-- what stands below what -/
def wfY : List Int → Prop
  | [] => True
  | k :: O => (0 ≤ k ∧ k ≤ 7) ∧ (k = 2 → ¬ tpY O = 0 ∧ ¬ tpY O = 1) ∧ (5 ≤ k → ¬ tpY O = 0 ∧ ¬ tpY O = 1 ∧ ¬ tpY O = 2) ∧ (k = 5 → ¬ tpY O = 7) ∧ wfY O
theorem fo_pre {O : List Int} {n : Nat} {s : SpC} {k : Int} (h : k = 0 ∨ k = 1) : foY (k :: O) n s = foY O (n + 1) s := by sorry
theorem fo_bin {O : List Int} {n : Nat} {s : SpC} : foY (2 :: O) n s = foY O n s := by sorry
theorem fo_cf {O : List Int} {n : Nat} {s : SpC} (h : ¬ tpY O = 0 ∧ ¬ tpY O = 1 ∧ ¬ tpY O = 2) : foY O n s = cfY O n (tlY n s) := by sorry
theorem cf_col {O : List Int} {n : Nat} {s : SpC} : cfY (7 :: O) n s = cfY O (n + 1) s := by sorry
theorem cf_ef {O : List Int} {n : Nat} {s : SpC} (h : ¬ tpY O = 7) : cfY O n s = efY O n s := by sorry
theorem ef_set {O : List Int} {n : Nat} {s : SpC} : efY (5 :: O) n s = efY O (n + 1) s := by sorry
theorem ef_que {O : List Int} {n : Nat} {s : SpC} : efY (6 :: O) n s = cfY O (n + 1) (cY n (xpY 6 s)) := by sorry
theorem ef_grp {O : List Int} {n : Nat} {s : SpC} : efY (3 :: O) n s = foY O (n + 1) (xpY 1 s) := by sorry
theorem ef_cal {O : List Int} {n : Nat} {s : SpC} : efY (4 :: O) n s = foY O (n + 1) (xpY 1 (clpY (eY n) 501 s)) := by sorry
theorem gd_tl {n : Nat} : GdY (tlY n) := by sorry
theorem gd_k : ∀ O : List Int, (∀ n, GdY ((kY O).1 n)) ∧ (∀ n, GdY ((kY O).2.1 n)) ∧ (∀ n, GdY ((kY O).2.2 n)) := by sorry
theorem gd_fo {O : List Int} {n : Nat} : GdY (foY O n) := (gd_k O).1 n
theorem gd_cf {O : List Int} {n : Nat} : GdY (cfY O n) := (gd_k O).2.1 n
theorem gd_ef {O : List Int} {n : Nat} : GdY (efY O n) := (gd_k O).2.2 n
theorem gd_wt {b : Int} {O : List Int} {n : Nat} : GdY (wtY b O n) := by sorry
/-! the steps of an exp's reading: what is still to be done stays the same -/
theorem zFt_acc {s : SpC} (z : zFt s = 0) (h : zAt s < 500) : zFt (accY s) = 0 := by sorry
theorem xp_y {c : Int} {s : SpC} (h : codY s = c) : xpY c s = accY s := by sorry
theorem xp_n {c : Int} {s : SpC} (h : ¬ codY s = c) : xpY c s = raiY 2 s := by sorry
theorem typ_y {s : SpC} (h : 50 ≤ codY s ∧ codY s ≤ 54) : typY s = accY s := by sorry
theorem typ_n {s : SpC} (h : ¬ (50 ≤ codY s ∧ codY s ≤ 54)) : typY s = raiY 2 s := by sorry
/-- an exp begins that is no assignment -/
abbrev nasY (s : SpC) : Prop := ¬ (codY s = 80 ∧ 8 ≤ cobY s ∧ cobY s ≤ 19)
theorem ex_no {n : Nat} {s : SpC} (h : nasY s) : exY n s = chY n s := by sorry
theorem ch_tl {n : Nat} {s : SpC} : chY n s = tlY n (opY n s) := rfl
theorem wt_beg {O : List Int} {n : Nat} {s : SpC} (hn : 1 ≤ n) (ht : ¬ tpY O = 0 ∧ ¬ tpY O = 1 ∧ ¬ tpY O = 2 ∧ ¬ tpY O = 7) (h : nasY s) : wtY 1 O n s = foY O n (opY n s) := by sorry
theorem wt_op {O : List Int} {n : Nat} {s : SpC} : wtY 0 O n s = foY O n (opY n s) := by sorry
theorem wt_asg {O : List Int} {n : Nat} {s : SpC} (hc : codY s = 80) (hb : 8 ≤ cobY s ∧ cobY s ≤ 19) : wtY 1 O (n + 1) s = wtY 1 (5 :: O) n (accY (accY s)) := by sorry
/-- operands -/
theorem op_lit {n : Nat} {s : SpC} (h : codY s = 81 ∨ codY s = 82 ∨ codY s = 83 ∨ codY s = 72 ∨ codY s = 73) : opY n s = accY s := by sorry
theorem op_pre {O : List Int} {n : Nat} {s : SpC} (h : codY s = 34 ∨ codY s = 35 ∨ codY s = 39 ∨ codY s = 40) : foY O (n + 1) (opY (n + 1) s) = foY (0 :: O) n (oY n (accY s)) := by sorry
theorem op_cnt {n : Nat} {s : SpC} (h : codY s = 41 ∨ codY s = 42) : opY n s = xpY 80 (accY s) := by sorry
theorem op_cast {O : List Int} {n : Nat} {s : SpC} (h : codY s = 0) (ht : 50 ≤ codY (accY s) ∧ codY (accY s) ≤ 54) : foY O (n + 1) (opY (n + 1) s) = foY (1 :: O) n (oY n (xpY 1 (accY (accY s)))) := by sorry
theorem op_grp {O : List Int} {n : Nat} {s : SpC} (h : codY s = 0) (ht : ¬ (50 ≤ codY (accY s) ∧ codY (accY s) ≤ 54)) : foY O (n + 1) (opY (n + 1) s) = wtY 1 (3 :: O) n (accY s) := by sorry
theorem op_nam {n : Nat} {s : SpC} (h : codY s = 80) : opY n s = nmeY (n - 1) (eY (n - 1)) s := by sorry
theorem op_bad {n : Nat} {s : SpC} (h : ¬ codY s = 34 ∧ ¬ codY s = 35 ∧ ¬ codY s = 39 ∧ ¬ codY s = 40 ∧ ¬ codY s = 41 ∧ ¬ codY s = 42 ∧ ¬ codY s = 0 ∧ ¬ codY s = 80 ∧ ¬ codY s = 81 ∧ ¬ codY s = 82 ∧ ¬ codY s = 83 ∧ ¬ codY s = 72 ∧ ¬ codY s = 73) : opY n s = raiY 2 s := by sorry
theorem nm_var {m : Nat} {E : SpC → SpC} {s : SpC} (h : ¬ cobY s = 0 ∧ ¬ cobY s = 41 ∧ ¬ cobY s = 42) : nmeY m E s = accY s := by sorry
theorem nm_cnt {m : Nat} {E : SpC → SpC} {s : SpC} (h : cobY s = 41 ∨ cobY s = 42) : nmeY m E s = accY (accY s) := by sorry
theorem nm_cal0 {E : SpC → SpC} {s : SpC} (h : cobY s = 0) : nmeY 0 E s = xpY 1 (raiY 3 (accY (accY s))) := by sorry
theorem nm_cale {m : Nat} {E : SpC → SpC} {s : SpC} (h : cobY s = 0) (hm : 1 ≤ m) (hc : codY (accY (accY s)) = 1) : nmeY m E s = accY (accY (accY s)) := by sorry
theorem nm_cal {O : List Int} {m : Nat} {s : SpC} (h : cobY s = 0) (hm : 1 ≤ m) (hc : ¬ codY (accY (accY s)) = 1) : foY O (m + 1) (nmeY m (eY m) s) = wtY 1 (4 :: O) m (accY (accY s)) := by sorry
/-- behind an operand -/
theorem fo_chain {O : List Int} : ∀ {n : Nat} {s : SpC}, wfY O → ¬ tpY O = 0 ∧ ¬ tpY O = 1 → 0 ≤ zAt s → zAt s ≤ 500 → 20 ≤ codY s ∧ codY s ≤ 38 → foY O n s = foY (2 :: O) n (opY n (accY s)) := by sorry
theorem tl_no {n : Nat} {s : SpC} (h1 : ¬ (20 ≤ codY s ∧ codY s ≤ 38)) (h2 : ¬ codY s = 7) : tlY n s = s := by sorry
theorem fo_end {O : List Int} {n : Nat} {s : SpC} (ht : ¬ tpY O = 0 ∧ ¬ tpY O = 1 ∧ ¬ tpY O = 2) (h1 : ¬ (20 ≤ codY s ∧ codY s ≤ 38)) (h2 : ¬ codY s = 7) : foY O n s = cfY O n s := by sorry
theorem fo_que {O : List Int} {n : Nat} {s : SpC} (ht : ¬ tpY O = 0 ∧ ¬ tpY O = 1 ∧ ¬ tpY O = 2) (h : codY s = 7) : foY O (n + 1) s = wtY 1 (6 :: O) n (accY s) := by sorry
theorem cf_col2 {O : List Int} {n : Nat} {s : SpC} (hn : 1 ≤ n) (h : codY s = 6) : cfY (6 :: O) n s = wtY 0 (7 :: O) n (accY s) := by sorry
theorem cf_com {O : List Int} {n : Nat} {s : SpC} (h0 : 0 ≤ zAt s) (h5 : zAt s ≤ 500) (h : codY s = 5) : cfY (4 :: O) n s = wtY 1 (4 :: O) n (accY s) := by sorry
theorem cf_clo {O : List Int} {n : Nat} {s : SpC} (h : codY s = 1) : cfY (4 :: O) n s = foY O (n + 1) (accY s) := by sorry
theorem cf_grp {O : List Int} {n : Nat} {s : SpC} (h : codY s = 1) : cfY (3 :: O) n s = foY O (n + 1) (accY s) := by sorry
/-- faults -/
theorem gp_eq {s t : SpC} (h : GpY s t) (z : ¬ zFt s = 0) : zFt t = zFt s ∧ zPl t = zPl s := by sorry
theorem cf_bad {O : List Int} {n : Nat} {s : SpC} (ht : tpY O = 3 ∨ tpY O = 4 ∨ tpY O = 6) (h3 : tpY O = 3 → ¬ codY s = 1) (h4 : tpY O = 4 → ¬ codY s = 1 ∧ ¬ codY s = 5) (h6 : tpY O = 6 → ¬ codY s = 6) : zFt (cfY O n s) = zFt (raiY 2 s) ∧ zPl (cfY O n s) = zPl (raiY 2 s) := by sorry
/-! S's: at goes on; fuel of rows -/
def PgY (s t : SpC) : Prop := GpY s t ∧ (zAt s ≤ 500 → zFt t = 0 → zAt s < zAt t)
theorem GpY.z {s t : SpC} (h : GpY s t) (z : zFt t = 0) : zFt s = 0 := by sorry
theorem PgY.l {s t u : SpC} (h : PgY s t) (g : GpY t u) : PgY s u := by sorry
theorem PgY.r {s t u : SpC} (g : GpY s t) (h : PgY t u) : PgY s u := by sorry
theorem PgY.no {s t : SpC} (h : GpY s t) (z : ¬ zFt t = 0) : PgY s t := ⟨h, fun _ q => absurd q z⟩
theorem pg_acc {s : SpC} : PgY s (accY s) := ⟨gd_acc s, fun _ z => by have := acc_pg z; omega⟩
theorem pg_rai {n : Int} {s : SpC} (hn : ¬ n = 0) : PgY s (raiY n s) := PgY.no (gd_rai s) (raiY_z hn)
theorem pg_xp {c : Int} {s : SpC} : PgY s (xpY c s) := by sorry
theorem pg_typ {s : SpC} : PgY s (typY s) := by sorry
theorem gd_cnd {n : Nat} : GdY (cndY n) := fun s => ((gd_xp s).tr (gd_e _)).tr (gd_xp _)
theorem gd_va2 {n : Nat} {f : Int} : GdY (va2Y n f) := by sorry
theorem pg_var {n : Nat} {s : SpC} : PgY s (varY n s) := by sorry
theorem gd_fex {n : Nat} : GdY (fexY n) := fun s => (gd_e s).tr (gd_clp gd_e _ _)
theorem pg_cas {n : Nat} {s : SpC} : PgY s (casY n s) := by sorry
theorem gd_blk {Rw : Int → SpC → SpC} (h : ∀ sw, GdY (Rw sw)) : GdY (blkY Rw) := fun s => ((gd_xp s).tr (h _ _)).tr (gd_xp _)
theorem gd_si3 {k : Int} : GdY (si3Y k) := by sorry
theorem gd_si2 {n : Nat} {k : Int} : GdY (si2Y n k) := by sorry
theorem gd_if2 {St : SpC → SpC} (h : GdY St) : GdY (if2Y St) := by sorry
theorem gd_tr1 : GdY tr1Y := by sorry
theorem gd_tr2 {Rw : Int → SpC → SpC} (h : ∀ sw, GdY (Rw sw)) : GdY (tr2Y Rw) := by sorry
theorem gd_tr3 {Rw : Int → SpC → SpC} (h : ∀ sw, GdY (Rw sw)) : GdY (tr3Y Rw) := by sorry
theorem gd_fo1 {n : Nat} : GdY (fo1Y n) := by sorry
theorem gd_fo2 {n : Nat} : GdY (fo2Y n) := by sorry
theorem gd_fo3 {n : Nat} : GdY (fo3Y n) := by sorry
theorem pg_sm {n : Nat} {St : SpC → SpC} {Rw : Int → SpC → SpC} (hS : GdY St) (hR : ∀ sw, GdY (Rw sw)) {s : SpC} : PgY s (smY n St Rw s) := by sorry
theorem gd_rp2 {n : Nat} {S : SpC → SpC} (hS : GdY S) : GdY (rp2Y n S) := by sorry
theorem gd_rpa {n : Nat} {S : SpC → SpC} (hS : GdY S) {sw b : Int} : GdY (rpaY n S sw b) := by sorry
theorem gd_rwl {n : Nat} {S : SpC → SpC} (hS : GdY S) {sw : Int} : ∀ (f : Nat) (b : Int), GdY (rwlY n S sw f b) := by sorry
theorem gd_ls : ∀ n, GdY (lsY n).1 ∧ ∀ sw, GdY ((lsY n).2 sw) := by sorry
theorem gd_st {n : Nat} : GdY (stY n) := (gd_ls n).1
theorem gd_rw {n : Nat} {sw : Int} : GdY (rwY n sw) := (gd_ls n).2 sw
theorem pg_st {n : Nat} {s : SpC} : PgY s (stY n s) := by sorry
theorem pg_rp2 {n : Nat} {s : SpC} : PgY s (rp2Y n (stY n) s) := by sorry
theorem pg_rpa {n : Nat} {sw b : Int} {s : SpC} : PgY s (rpaY n (stY n) sw b s) := by sorry
theorem rwl_fu {n : Nat} {sw : Int} : ∀ (f : Nat) (b : Int) (s : SpC), zAt s ≤ 500 → 501 - zAt s ≤ f → rwlY n (stY n) sw f b s = rwlY n (stY n) sw (f + 1) b s := by sorry
/-- one more part of a row -/
theorem rwl_one {n : Nat} {sw b : Int} {s : SpC} (h0 : 0 ≤ zAt s) (h5 : zAt s ≤ 500) (z : zFt s = 0) (hc : ¬ codY s = 3) : rwlY n (stY n) sw 501 b s = rwlY n (stY n) sw 501 0 (rpaY n (stY n) sw b s) := by sorry
theorem rwl_no {n : Nat} {sw b : Int} {S : SpC → SpC} {f : Nat} {s : SpC} (hc : codY s = 3) : rwlY n S sw f b s = s := by sorry
theorem rwl_b {n : Nat} {S : SpC → SpC} {f : Nat} {b b' : Int} {s : SpC} : rwlY n S 0 f b s = rwlY n S 0 f b' s := by sorry
/-! what is still to be done, by the frames: 0 method 1 block 2 if 3 else 4 while 5 do 6 for 7 label 8 switch 9 try 10 catch 11 finally -/
def swY (k : Int) : Int := if k = 8 then 1 else 0
def isRY (k : Int) : Prop := k = 0 ∨ k = 1 ∨ k = 9 ∨ k = 10 ∨ k = 11
/-- a row from its part on -/
def rlY (k b : Int) (n : Nat) (s : SpC) : SpC := rwlY n (stY n) (swY k) 501 b s
def sfY : List Int → Nat → SpC → SpC
  | [], _, s => s
  | k :: F, n, s =>
    if k = 2 then sfY F (n + 1) (if2Y (stY n) s)
    else if k = 5 then sfY F (n + 1) (xpY 4 (cndY (n + 1) (xpY 58 s)))
    else if k = 9 then sfY F (n + 1) (tr3Y (rwY n) (tr2Y (rwY n) (tr1Y (xpY 3 (rlY k 0 n s)))))
    else if k = 10 then sfY F (n + 1) (tr3Y (rwY n) (xpY 3 (rlY k 0 n s)))
    else if k = 0 ∨ k = 1 ∨ k = 8 ∨ k = 11 then sfY F (n + 1) (xpY 3 (rlY k 0 n s))
    else sfY F (n + 1) s
/-- behind a row -/
def clY (k : Int) (F : List Int) (n : Nat) (s : SpC) : SpC :=
  if k = 9 then sfY F (n + 1) (tr3Y (rwY n) (tr2Y (rwY n) (tr1Y (xpY 3 s))))
  else if k = 10 then sfY F (n + 1) (tr3Y (rwY n) (xpY 3 s))
  else sfY F (n + 1) (xpY 3 s)
/-- ahead of a piece -/
def pcY (b : Int) (F : List Int) (n : Nat) (s : SpC) : SpC := match F with
  | [] => s
  | k :: G => if k = 2 ∨ k = 3 ∨ k = 4 ∨ k = 5 ∨ k = 6 ∨ k = 7 then sfY (k :: G) n (stY n s) else clY k G n (rlY k b n s)
abbrev rwkY (k : Int) : Prop := k = 0 ∨ k = 1 ∨ k = 8 ∨ k = 9 ∨ k = 10 ∨ k = 11
theorem sf_row {k : Int} {F : List Int} {n : Nat} {s : SpC} (h : rwkY k) : sfY (k :: F) n s = clY k F n (rlY k 0 n s) := by sorry
theorem pc_row {k b : Int} {F : List Int} {n : Nat} {s : SpC} (h : rwkY k) : pcY b (k :: F) n s = clY k F n (rlY k b n s) := by sorry
theorem sf_pc {k : Int} {F : List Int} {n : Nat} {s : SpC} (h : rwkY k) : sfY (k :: F) n s = pcY 0 (k :: F) n s := by sorry
theorem pc_st {k b : Int} {F : List Int} {n : Nat} {s : SpC} (h : k = 2 ∨ k = 3 ∨ k = 4 ∨ k = 5 ∨ k = 6 ∨ k = 7) : pcY b (k :: F) n s = sfY (k :: F) n (stY n s) := by sorry
theorem pc_b {k b b' : Int} {F : List Int} {n : Nat} {s : SpC} (h : ¬ k = 8) : pcY b (k :: F) n s = pcY b' (k :: F) n s := by sorry
theorem sf_if {F : List Int} {n : Nat} {s : SpC} : sfY (2 :: F) n s = sfY F (n + 1) (if2Y (stY n) s) := rfl
theorem sf_do {F : List Int} {n : Nat} {s : SpC} : sfY (5 :: F) n s = sfY F (n + 1) (xpY 4 (cndY (n + 1) (xpY 58 s))) := rfl
theorem sf_pop {k : Int} {F : List Int} {n : Nat} {s : SpC} (h : k = 3 ∨ k = 4 ∨ k = 6 ∨ k = 7) : sfY (k :: F) n s = sfY F (n + 1) s := by sorry
theorem gd_rl {k b : Int} {n : Nat} : GdY (rlY k b n) := fun s => gd_rwl gd_st _ _ s
theorem gd_sf : ∀ (F : List Int) (n : Nat), GdY (sfY F n) := by sorry
theorem gd_cl {k : Int} {F : List Int} {n : Nat} : GdY (clY k F n) := by sorry
theorem gd_pc {b : Int} {F : List Int} {n : Nat} : GdY (pcY b F n) := by sorry
/-! the steps of S's -/
/-- pieces of rows -/
theorem pc_close {k b : Int} {F : List Int} {n : Nat} {s : SpC} (h : rwkY k) (hc : codY s = 3) : pcY b (k :: F) n s = clY k F n s := by sorry
theorem cl_xp {k : Int} {F : List Int} {n : Nat} {s : SpC} (h : ¬ k = 9 ∧ ¬ k = 10) (hc : codY s = 3) : clY k F n s = sfY F (n + 1) (accY s) := by sorry
theorem cl_9 {F : List Int} {n : Nat} {s : SpC} (hc : codY s = 3) : clY 9 F n s = sfY F (n + 1) (tr3Y (rwY n) (tr2Y (rwY n) (tr1Y (accY s)))) := by sorry
theorem cl_10 {F : List Int} {n : Nat} {s : SpC} (hc : codY s = 3) : clY 10 F n s = sfY F (n + 1) (tr3Y (rwY n) (accY s)) := by sorry
theorem rp_tol {n : Nat} {s : SpC} (h : codY s = 71 ∨ (50 ≤ codY s ∧ codY s ≤ 54)) : rp2Y n (stY n) s = xpY 4 (varY n s) := by sorry
theorem rp_st {n : Nat} {s : SpC} (h : ¬ (codY s = 71 ∨ (50 ≤ codY s ∧ codY s ≤ 54))) : rp2Y n (stY n) s = stY n s := by sorry
theorem rl_part {k b : Int} {n : Nat} {s : SpC} (h0 : 0 ≤ zAt s) (h5 : zAt s ≤ 500) (z : zFt s = 0) (hc : ¬ codY s = 3) (hk : k = 8 → b = 0 ∧ ¬ codY s = 62 ∧ ¬ codY s = 63) : rlY k b n s = rlY k 0 n (rp2Y n (stY n) s) := by sorry
theorem pc_tol {k b : Int} {F : List Int} {n : Nat} {s : SpC} (h : rwkY k) (h0 : 0 ≤ zAt s) (h5 : zAt s ≤ 500) (z : zFt s = 0) (hk : k = 8 → b = 0) (hc : codY s = 71 ∨ (50 ≤ codY s ∧ codY s ≤ 54)) : pcY b (k :: F) n s = pcY 0 (k :: F) n (xpY 4 (varY n s)) := by sorry
theorem pc_sta {k b : Int} {F : List Int} {n : Nat} {s : SpC} (h : rwkY k) (h0 : 0 ≤ zAt s) (h5 : zAt s ≤ 500) (z : zFt s = 0) (hk : k = 8 → b = 0 ∧ ¬ codY s = 62 ∧ ¬ codY s = 63) (h3 : ¬ codY s = 3) (hc : ¬ (codY s = 71 ∨ (50 ≤ codY s ∧ codY s ≤ 54))) : pcY b (k :: F) n s = sfY (k :: F) n (stY n s) := by sorry
theorem pc_cas {b : Int} {F : List Int} {n : Nat} {s : SpC} (h0 : 0 ≤ zAt s) (h5 : zAt s ≤ 500) (z : zFt s = 0) (hc : codY s = 62 ∨ codY s = 63) : pcY b (8 :: F) n s = pcY 0 (8 :: F) n (casY n s) := by sorry
theorem pc_sw0 {F : List Int} {n : Nat} {s : SpC} (h0 : 0 ≤ zAt s) (h5 : zAt s ≤ 500) (z : zFt s = 0) (h3 : ¬ codY s = 3) (hc : ¬ codY s = 62 ∧ ¬ codY s = 63) : GpY (raiY 2 s) (pcY 1 (8 :: F) n s) := by sorry
/-- an S begins -/
theorem st_blk {F : List Int} {n : Nat} {s : SpC} (hc : codY s = 2) : sfY F (n + 1) (stY (n + 1) s) = sfY F (n + 1) (xpY 3 (rwY n 0 (accY s))) := by sorry
theorem cl_rw {k : Int} {F : List Int} {n : Nat} {s : SpC} (hn : 1 ≤ n) (hk : k = 0 ∨ k = 1 ∨ k = 8 ∨ k = 11) : sfY F (n + 1) (xpY 3 (rwY n (swY k) s)) = pcY 1 (k :: F) n s := by sorry
theorem cl_rw9 {F : List Int} {n : Nat} {s : SpC} (hn : 1 ≤ n) : sfY F (n + 1) (tr3Y (rwY n) (tr2Y (rwY n) (tr1Y (xpY 3 (rwY n 0 s))))) = pcY 1 (9 :: F) n s := by sorry
theorem cl_rw10 {F : List Int} {n : Nat} {s : SpC} (hn : 1 ≤ n) : sfY F (n + 1) (tr3Y (rwY n) (xpY 3 (rwY n 0 s))) = pcY 1 (10 :: F) n s := by sorry
theorem st_lab {F : List Int} {n : Nat} {s : SpC} (hc : codY s = 80) (hb : cobY s = 6) : sfY F (n + 1) (stY (n + 1) s) = sfY (7 :: F) n (stY n (xpY 6 (accY s))) := by sorry
theorem st_if {F : List Int} {n : Nat} {s : SpC} (hc : codY s = 56) : sfY F (n + 1) (stY (n + 1) s) = sfY (2 :: F) n (stY n (cndY (n + 1) (accY s))) := by sorry
theorem st_whi {F : List Int} {n : Nat} {s : SpC} (hc : codY s = 58) : sfY F (n + 1) (stY (n + 1) s) = sfY (4 :: F) n (stY n (cndY (n + 1) (accY s))) := by sorry
theorem st_do {F : List Int} {n : Nat} {s : SpC} (hc : codY s = 59) : sfY F (n + 1) (stY (n + 1) s) = sfY (5 :: F) n (stY n (accY s)) := by sorry
theorem st_for {F : List Int} {n : Nat} {s : SpC} (hc : codY s = 60) : sfY F (n + 1) (stY (n + 1) s) = sfY (6 :: F) n (stY n (xpY 1 (fo3Y (n + 1) (xpY 4 (fo2Y (n + 1) (xpY 4 (fo1Y (n + 1) (xpY 0 (accY s))))))))) := by sorry
theorem st_swi {F : List Int} {n : Nat} {s : SpC} (hc : codY s = 61) : sfY F (n + 1) (stY (n + 1) s) = sfY F (n + 1) (xpY 3 (rwY n 1 (xpY 2 (cndY (n + 1) (accY s))))) := by sorry
theorem st_try {F : List Int} {n : Nat} {s : SpC} (hc : codY s = 68) : sfY F (n + 1) (stY (n + 1) s) = sfY F (n + 1) (tr3Y (rwY n) (tr2Y (rwY n) (tr1Y (xpY 3 (rwY n 0 (xpY 2 (accY s))))))) := by sorry
theorem st_sim {n : Nat} {s : SpC} (hc : codY s = 64 ∨ codY s = 65 ∨ codY s = 66 ∨ codY s = 67) : stY (n + 1) s = xpY 4 (si3Y (codY s) (si2Y (n + 1) (codY s) (accY s))) := by sorry
theorem si_jmp {n : Nat} {k : Int} {s : SpC} (h : k = 64 ∨ k = 65) : si3Y k (si2Y n k s) = if codY s = 80 then accY s else s := by sorry
theorem si_ret {n : Nat} {s : SpC} : si3Y 66 (si2Y n 66 s) = if codY s = 4 then s else eY n s := by sorry
theorem si_thr {n : Nat} {s : SpC} : si3Y 67 (si2Y n 67 s) = eY n s := by sorry
theorem st_emp {n : Nat} {s : SpC} (hc : codY s = 4) : stY (n + 1) s = accY s := by sorry
theorem st_exp {n : Nat} {s : SpC} (h : ¬ codY s = 56 ∧ ¬ codY s = 58 ∧ ¬ codY s = 59 ∧ ¬ codY s = 60 ∧ ¬ codY s = 61 ∧ ¬ codY s = 68 ∧ ¬ codY s = 2 ∧ ¬ codY s = 4 ∧ ¬ codY s = 64 ∧ ¬ codY s = 65 ∧ ¬ codY s = 66 ∧ ¬ codY s = 67) (hb : ¬ (codY s = 80 ∧ cobY s = 6)) : stY (n + 1) s = xpY 4 (eY (n + 1) s) := by sorry
/-- an S ends -/
theorem sf_else {F : List Int} {n : Nat} {s : SpC} (hc : codY s = 57) : sfY (2 :: F) n s = sfY (3 :: F) n (stY n (accY s)) := by sorry
theorem sf_if0 {F : List Int} {n : Nat} {s : SpC} (hc : ¬ codY s = 57) : sfY (2 :: F) n s = sfY F (n + 1) s := by sorry
theorem tr1_y {s : SpC} (h : codY s = 69 ∨ codY s = 70) : tr1Y s = s := by sorry
theorem tr1_n {s : SpC} (h : ¬ (codY s = 69 ∨ codY s = 70)) : tr1Y s = raiY 2 s := by sorry
theorem tr2_n {Rw : Int → SpC → SpC} {s : SpC} (h : ¬ codY s = 69) : tr2Y Rw s = s := by sorry
theorem tr3_n {Rw : Int → SpC → SpC} {s : SpC} (h : ¬ codY s = 70) : tr3Y Rw s = s := by sorry
theorem tr2_y {Rw : Int → SpC → SpC} {s : SpC} (h : codY s = 69) : tr2Y Rw s = xpY 3 (Rw 0 (xpY 2 (xpY 1 (dclY 3 0 1 (xpY 0 (accY s)))))) := by sorry
theorem tr3_y {Rw : Int → SpC → SpC} {s : SpC} (h : codY s = 70) : tr3Y Rw s = xpY 3 (Rw 0 (xpY 2 (accY s))) := by sorry
/-- a variable is told -/
theorem dcl_y {ty f : Int} {s : SpC} (z : zFt s = 0) (hc : codY s = 80) (hv : ¬ 60 ≤ (zVs s).length) : dclY ty f 1 s = accY (vadY ty f s) := by sorry
theorem dc2_f {ty f n : Int} {s : SpC} (hn : ¬ n = 0) : dc2Y ty f (raiY n s) = raiY n s := by sorry
theorem dcl_3 {ty f : Int} {s : SpC} (hc : codY s = 80) (hv : 60 ≤ (zVs s).length) : dclY ty f 1 s = raiY 3 s := by sorry
theorem dcl_p {ty f : Int} {s : SpC} (hc : codY s = 80) : dclY ty f 0 s = raiY 3 s := by sorry
theorem dcl_n {ty f h : Int} {s : SpC} (hc : ¬ codY s = 80) : dclY ty f h s = raiY 2 s := by sorry
/-! the number of methods stays -/
def LpY (s t : SpC) : Prop := (zMs t).length = (zMs s).length ∧ True
theorem LpY.rf {s : SpC} : LpY s s := ⟨rfl, trivial⟩
theorem LpY.tr {s t u : SpC} (h : LpY s t) (g : LpY t u) : LpY s u := ⟨g.1.trans h.1, trivial⟩
abbrev GlY (f : SpC → SpC) : Prop := ∀ s, LpY s (f s)
theorem LpY.s2 {s t : SpC} (h : t.2.1.1 = s.2.1.1) : LpY s t := ⟨by unfold zMs; rw [h], trivial⟩
theorem gl_rai {n : Int} : GlY (raiY n) := by sorry
theorem gl_acc : GlY accY := by sorry
theorem gl_vad {ty f : Int} : GlY (vadY ty f) := fun _ => LpY.s2 rfl
theorem gl_pad {ty : Int} : GlY (padY ty) := by sorry
def PlY (s t : SpC) : Prop := LpY s t ∧ True
theorem PlY.l {s t u : SpC} (h : PlY s t) (g : LpY t u) : PlY s u := ⟨h.1.tr g, trivial⟩
theorem PlY.r {s t u : SpC} (g : LpY s t) (h : PlY t u) : PlY s u := ⟨g.tr h.1, trivial⟩
theorem pl_acc {s : SpC} : PlY s (accY s) := ⟨gl_acc s, trivial⟩
theorem pl_rai {n : Int} {s : SpC} (hn : ¬ n = 0) : PlY s (raiY n s) := ⟨gl_rai s, trivial⟩
theorem gl_xp {c : Int} : GlY (xpY c) := by sorry
theorem gl_typ : GlY typY := by sorry
theorem gl_dc1 {h : Int} : GlY (dc1Y h) := by sorry
theorem gl_dc2 {ty f : Int} : GlY (dc2Y ty f) := by sorry
theorem gl_dcl {ty f h : Int} : GlY (dclY ty f h) := fun s => (gl_dc1 s).tr (gl_dc2 _)
theorem gl_clp {E : SpC → SpC} (hE : GlY E) : ∀ n, GlY (clpY E n) := by sorry
theorem gl_chl {E : SpC → SpC} (hE : GlY E) : ∀ n, GlY (chlY E n) := by sorry
theorem gl_opr {m : Nat} {E I : SpC → SpC} (hE : GlY E) (hI : GlY I) : GlY (oprY m E I) := by sorry
theorem gl_chc {O E C : SpC → SpC} (hO : GlY O) (hE : GlY E) (hC : GlY C) : GlY (chcY O E C) := by sorry
theorem gl_xps {O E C : SpC → SpC} (hO : GlY O) (hE : GlY E) (hC : GlY C) : GlY (xpsY O E C) := by sorry
theorem gl_lv : ∀ n, GlY (lvY n).1 ∧ GlY (lvY n).2.1 ∧ GlY (lvY n).2.2 := by sorry
theorem gl_e {n : Nat} : GlY (eY n) := (gl_lv n).1
theorem gl_c {n : Nat} : GlY (cY n) := (gl_lv n).2.1
theorem gl_o {n : Nat} : GlY (oY n) := (gl_lv n).2.2
theorem gl_op {n : Nat} : GlY (opY n) := gl_opr gl_e gl_o
theorem pl_xp {c : Int} {s : SpC} : PlY s (xpY c s) := by sorry
theorem pl_typ {s : SpC} : PlY s (typY s) := by sorry
theorem gl_cnd {n : Nat} : GlY (cndY n) := fun s => ((gl_xp s).tr (gl_e _)).tr (gl_xp _)
theorem gl_va2 {n : Nat} {f : Int} : GlY (va2Y n f) := by sorry
theorem pl_var {n : Nat} {s : SpC} : PlY s (varY n s) := by sorry
theorem gl_fex {n : Nat} : GlY (fexY n) := fun s => (gl_e s).tr (gl_clp gl_e _ _)
theorem pl_cas {n : Nat} {s : SpC} : PlY s (casY n s) := by sorry
theorem gl_blk {Rw : Int → SpC → SpC} (h : ∀ sw, GlY (Rw sw)) : GlY (blkY Rw) := fun s => ((gl_xp s).tr (h _ _)).tr (gl_xp _)
theorem gl_si3 {k : Int} : GlY (si3Y k) := by sorry
theorem gl_si2 {n : Nat} {k : Int} : GlY (si2Y n k) := by sorry
theorem gl_if2 {St : SpC → SpC} (h : GlY St) : GlY (if2Y St) := by sorry
theorem gl_tr1 : GlY tr1Y := by sorry
theorem gl_tr2 {Rw : Int → SpC → SpC} (h : ∀ sw, GlY (Rw sw)) : GlY (tr2Y Rw) := by sorry
theorem gl_tr3 {Rw : Int → SpC → SpC} (h : ∀ sw, GlY (Rw sw)) : GlY (tr3Y Rw) := by sorry
theorem gl_fo1 {n : Nat} : GlY (fo1Y n) := by sorry
theorem gl_fo2 {n : Nat} : GlY (fo2Y n) := by sorry
theorem gl_fo3 {n : Nat} : GlY (fo3Y n) := by sorry
theorem pl_sm {n : Nat} {St : SpC → SpC} {Rw : Int → SpC → SpC} (hS : GlY St) (hR : ∀ sw, GlY (Rw sw)) {s : SpC} : PlY s (smY n St Rw s) := by sorry
theorem gl_rp2 {n : Nat} {S : SpC → SpC} (hS : GlY S) : GlY (rp2Y n S) := by sorry
theorem gl_rpa {n : Nat} {S : SpC → SpC} (hS : GlY S) {sw b : Int} : GlY (rpaY n S sw b) := by sorry
theorem gl_rwl {n : Nat} {S : SpC → SpC} (hS : GlY S) {sw : Int} : ∀ (f : Nat) (b : Int), GlY (rwlY n S sw f b) := by sorry
theorem gl_ls : ∀ n, GlY (lsY n).1 ∧ ∀ sw, GlY ((lsY n).2 sw) := by sorry
theorem gl_st {n : Nat} : GlY (stY n) := (gl_ls n).1
theorem gl_rw {n : Nat} {sw : Int} : GlY (rwY n sw) := (gl_ls n).2 sw
theorem pl_st {n : Nat} {s : SpC} : PlY s (stY n s) := by sorry
theorem pl_rp2 {n : Nat} {s : SpC} : PlY s (rp2Y n (stY n) s) := by sorry
theorem gl_pa2 {i : Nat} {ty f : Int} : GlY (pa2Y i ty f) := by sorry
theorem gl_pa1 {i : Nat} : GlY (pa1Y i) := by sorry
theorem gl_pal : ∀ f i, GlY (palY f i) := by sorry
theorem gl_par : GlY parY := by sorry
theorem ml_me3 {ty : Int} {s : SpC} (z : zFt s = 0) : (zMs (me3Y ty s)).length = (zMs s).length + 1 := by sorry
theorem ml_mth {s : SpC} (z : zFt (mthY s) = 0) : (zMs (mthY s)).length = (zMs s).length + 1 := by sorry
/-! codes and places of tokens stay -/
def NpY (s t : SpC) : Prop := t.2.2 = s.2.2 ∧ True
theorem NpY.rf {s : SpC} : NpY s s := ⟨rfl, trivial⟩
theorem NpY.tr {s t u : SpC} (h : NpY s t) (g : NpY t u) : NpY s u := ⟨g.1.trans h.1, trivial⟩
abbrev GnY (f : SpC → SpC) : Prop := ∀ s, NpY s (f s)
theorem NpY.s2 {s t : SpC} (h : t.2.2 = s.2.2) : NpY s t := ⟨h, trivial⟩
theorem gn_rai {n : Int} : GnY (raiY n) := by sorry
theorem gn_acc : GnY accY := by sorry
theorem gn_vad {ty f : Int} : GnY (vadY ty f) := fun _ => NpY.s2 rfl
theorem gn_met {ty : Int} : GnY (metY ty) := fun _ => NpY.s2 rfl
theorem gn_pad {ty : Int} : GnY (padY ty) := fun _ => NpY.s2 rfl
def PnY (s t : SpC) : Prop := NpY s t ∧ True
theorem PnY.l {s t u : SpC} (h : PnY s t) (g : NpY t u) : PnY s u := ⟨h.1.tr g, trivial⟩
theorem PnY.r {s t u : SpC} (g : NpY s t) (h : PnY t u) : PnY s u := ⟨g.tr h.1, trivial⟩
theorem pn_acc {s : SpC} : PnY s (accY s) := ⟨gn_acc s, trivial⟩
theorem pn_rai {n : Int} {s : SpC} (hn : ¬ n = 0) : PnY s (raiY n s) := ⟨gn_rai s, trivial⟩
theorem gn_xp {c : Int} : GnY (xpY c) := by sorry
theorem gn_typ : GnY typY := by sorry
theorem gn_dc1 {h : Int} : GnY (dc1Y h) := by sorry
theorem gn_dc2 {ty f : Int} : GnY (dc2Y ty f) := by sorry
theorem gn_dcl {ty f h : Int} : GnY (dclY ty f h) := fun s => (gn_dc1 s).tr (gn_dc2 _)
theorem gn_clp {E : SpC → SpC} (hE : GnY E) : ∀ n, GnY (clpY E n) := by sorry
theorem gn_chl {E : SpC → SpC} (hE : GnY E) : ∀ n, GnY (chlY E n) := by sorry
theorem gn_opr {m : Nat} {E I : SpC → SpC} (hE : GnY E) (hI : GnY I) : GnY (oprY m E I) := by sorry
theorem gn_chc {O E C : SpC → SpC} (hO : GnY O) (hE : GnY E) (hC : GnY C) : GnY (chcY O E C) := by sorry
theorem gn_xps {O E C : SpC → SpC} (hO : GnY O) (hE : GnY E) (hC : GnY C) : GnY (xpsY O E C) := by sorry
theorem gn_lv : ∀ n, GnY (lvY n).1 ∧ GnY (lvY n).2.1 ∧ GnY (lvY n).2.2 := by sorry
theorem gn_e {n : Nat} : GnY (eY n) := (gn_lv n).1
theorem gn_c {n : Nat} : GnY (cY n) := (gn_lv n).2.1
theorem gn_o {n : Nat} : GnY (oY n) := (gn_lv n).2.2
theorem gn_op {n : Nat} : GnY (opY n) := gn_opr gn_e gn_o
theorem pn_xp {c : Int} {s : SpC} : PnY s (xpY c s) := by sorry
theorem pn_typ {s : SpC} : PnY s (typY s) := by sorry
theorem gn_cnd {n : Nat} : GnY (cndY n) := fun s => ((gn_xp s).tr (gn_e _)).tr (gn_xp _)
theorem gn_va2 {n : Nat} {f : Int} : GnY (va2Y n f) := by sorry
theorem pn_var {n : Nat} {s : SpC} : PnY s (varY n s) := by sorry
theorem gn_fex {n : Nat} : GnY (fexY n) := fun s => (gn_e s).tr (gn_clp gn_e _ _)
theorem pn_cas {n : Nat} {s : SpC} : PnY s (casY n s) := by sorry
theorem gn_blk {Rw : Int → SpC → SpC} (h : ∀ sw, GnY (Rw sw)) : GnY (blkY Rw) := fun s => ((gn_xp s).tr (h _ _)).tr (gn_xp _)
theorem gn_si3 {k : Int} : GnY (si3Y k) := by sorry
theorem gn_si2 {n : Nat} {k : Int} : GnY (si2Y n k) := by sorry
theorem gn_if2 {St : SpC → SpC} (h : GnY St) : GnY (if2Y St) := by sorry
theorem gn_tr1 : GnY tr1Y := by sorry
theorem gn_tr2 {Rw : Int → SpC → SpC} (h : ∀ sw, GnY (Rw sw)) : GnY (tr2Y Rw) := by sorry
theorem gn_tr3 {Rw : Int → SpC → SpC} (h : ∀ sw, GnY (Rw sw)) : GnY (tr3Y Rw) := by sorry
theorem gn_fo1 {n : Nat} : GnY (fo1Y n) := by sorry
theorem gn_fo2 {n : Nat} : GnY (fo2Y n) := by sorry
theorem gn_fo3 {n : Nat} : GnY (fo3Y n) := by sorry
theorem pn_sm {n : Nat} {St : SpC → SpC} {Rw : Int → SpC → SpC} (hS : GnY St) (hR : ∀ sw, GnY (Rw sw)) {s : SpC} : PnY s (smY n St Rw s) := by sorry
theorem gn_rp2 {n : Nat} {S : SpC → SpC} (hS : GnY S) : GnY (rp2Y n S) := by sorry
theorem gn_rpa {n : Nat} {S : SpC → SpC} (hS : GnY S) {sw b : Int} : GnY (rpaY n S sw b) := by sorry
theorem gn_rwl {n : Nat} {S : SpC → SpC} (hS : GnY S) {sw : Int} : ∀ (f : Nat) (b : Int), GnY (rwlY n S sw f b) := by sorry
theorem gn_ls : ∀ n, GnY (lsY n).1 ∧ ∀ sw, GnY ((lsY n).2 sw) := by sorry
theorem gn_st {n : Nat} : GnY (stY n) := (gn_ls n).1
theorem gn_rw {n : Nat} {sw : Int} : GnY (rwY n sw) := (gn_ls n).2 sw
theorem pn_st {n : Nat} {s : SpC} : PnY s (stY n s) := by sorry
theorem pn_rp2 {n : Nat} {s : SpC} : PnY s (rp2Y n (stY n) s) := by sorry
theorem gn_pa2 {i : Nat} {ty f : Int} : GnY (pa2Y i ty f) := by sorry
theorem gn_pa1 {i : Nat} : GnY (pa1Y i) := by sorry
theorem gn_pal : ∀ f i, GnY (palY f i) := by sorry
theorem gn_par : GnY parY := by sorry
theorem gn_me3 {ty : Int} : GnY (me3Y ty) := by sorry
theorem gn_mth : GnY mthY := by sorry
theorem gn_prl : ∀ n, GnY (prlY n) := by sorry
/-! where methods stand -/
theorem TpY.g {o : Nat} {s t : SpC} (h : TpY o s) (np : NpY s t) (lp : LpY s t) : TpY o t := by sorry
theorem ReC.ml {σ : CsC} {r : Nat} {s : SpC} {ty : Int} (_e : ReC σ r (metY ty s)) : (zMs (metY ty s)).length = (zMs s).length + 1 := List.length_cons ..
theorem ReC.ga {σ : CsC} {r : Nat} {s : SpC} (_e : ReC σ r (accY s)) : (zMs (accY s)).length = (zMs s).length := (gl_acc s).1
theorem zf_par {s : SpC} : zF (parY s) = zF s := by sorry
theorem ite_w {p p' : Prop} {a a' b b' : SpC} [Decidable p] [Decidable p'] {F : List (Nat × Nat)} (e : p = p') (ha : a = wxY F a') (hb : b = wxY F b') : (if p then a else b) = wxY F (if p' then a' else b') := by sorry
theorem wx_rai {F : List (Nat × Nat)} {n : Int} {s : SpC} : raiY n (wxY F s) = wxY F (raiY n s) := by sorry
theorem wx_acc {F : List (Nat × Nat)} {s : SpC} : accY (wxY F s) = wxY F (accY s) := by sorry
theorem wx_xp {F : List (Nat × Nat)} {c : Int} {s : SpC} : xpY c (wxY F s) = wxY F (xpY c s) := by sorry
theorem wx_typ {F : List (Nat × Nat)} {s : SpC} : typY (wxY F s) = wxY F (typY s) := by sorry
theorem wx_dc1 {F : List (Nat × Nat)} {h : Int} {s : SpC} : dc1Y h (wxY F s) = wxY F (dc1Y h s) := by sorry
theorem wx_dc2 {F : List (Nat × Nat)} {ty f : Int} {s : SpC} : dc2Y ty f (wxY F s) = wxY F (dc2Y ty f s) := by sorry
theorem wx_dcl {F : List (Nat × Nat)} {ty f h : Int} {s : SpC} : dclY ty f h (wxY F s) = wxY F (dclY ty f h s) := by sorry
theorem wx_pad {F : List (Nat × Nat)} {ty : Int} {s : SpC} : padY ty (wxY F s) = wxY F (padY ty s) := rfl
theorem wx_pa2 {F : List (Nat × Nat)} {i : Nat} {ty f : Int} {s : SpC} : pa2Y i ty f (wxY F s) = wxY F (pa2Y i ty f s) := by sorry
theorem wx_pa1 {F : List (Nat × Nat)} {i : Nat} {s : SpC} : pa1Y i (wxY F s) = wxY F (pa1Y i s) := by sorry
theorem wx_pal {F : List (Nat × Nat)} : ∀ (f i : Nat) (s : SpC), palY f i (wxY F s) = wxY F (palY f i s) := by sorry
theorem wx_pa3 {F : List (Nat × Nat)} {s : SpC} : pa3Y (wxY F s) = wxY F (pa3Y s) := by sorry
theorem wx_par {F : List (Nat × Nat)} {s : SpC} : parY (wxY F s) = wxY F (parY s) := by sorry
theorem ReC.n_xp {σ : CsC} {r : Nat} {s0 s : SpC} {c : Int} (_e : ReC σ r (xpY c s)) (h : NpY s0 s) : NpY s0 (xpY c s) := h.tr (gn_xp s)
theorem ReC.l_xp {σ : CsC} {r : Nat} {s0 s : SpC} {c : Int} (_e : ReC σ r (xpY c s)) (h : LpY s0 s) : LpY s0 (xpY c s) := h.tr (gl_xp s)
theorem ReC.n_typ {σ : CsC} {r : Nat} {s0 s : SpC}  (_e : ReC σ r (typY s)) (h : NpY s0 s) : NpY s0 (typY s) := h.tr (gn_typ s)
theorem ReC.l_typ {σ : CsC} {r : Nat} {s0 s : SpC}  (_e : ReC σ r (typY s)) (h : LpY s0 s) : LpY s0 (typY s) := h.tr (gl_typ s)
theorem ReC.n_dcl {σ : CsC} {r : Nat} {s0 s : SpC} {ty f hr : Int} (_e : ReC σ r (dclY ty f hr s)) (h : NpY s0 s) : NpY s0 (dclY ty f hr s) := h.tr (gn_dcl s)
theorem ReC.l_dcl {σ : CsC} {r : Nat} {s0 s : SpC} {ty f hr : Int} (_e : ReC σ r (dclY ty f hr s)) (h : LpY s0 s) : LpY s0 (dclY ty f hr s) := h.tr (gl_dcl s)
theorem ReC.n_acc {σ : CsC} {r : Nat} {s0 s : SpC}  (_e : ReC σ r (accY s)) (h : NpY s0 s) : NpY s0 (accY s) := h.tr (gn_acc s)
theorem ReC.l_acc {σ : CsC} {r : Nat} {s0 s : SpC}  (_e : ReC σ r (accY s)) (h : LpY s0 s) : LpY s0 (accY s) := h.tr (gl_acc s)
theorem ReC.n_rai {σ : CsC} {r : Nat} {s0 s : SpC} {m : Int} (_e : ReC σ r (raiY m s)) (h : NpY s0 s) : NpY s0 (raiY m s) := h.tr (gn_rai s)
theorem ReC.l_rai {σ : CsC} {r : Nat} {s0 s : SpC} {m : Int} (_e : ReC σ r (raiY m s)) (h : LpY s0 s) : LpY s0 (raiY m s) := h.tr (gl_rai s)
theorem ReC.n_pad {σ : CsC} {r : Nat} {s0 s : SpC} {ty : Int} (_e : ReC σ r (padY ty s)) (h : NpY s0 s) : NpY s0 (padY ty s) := h.tr (gn_pad s)
theorem ReC.l_pad {σ : CsC} {r : Nat} {s0 s : SpC} {ty : Int} (_e : ReC σ r (padY ty s)) (h : LpY s0 s) : LpY s0 (padY ty s) := h.tr (gl_pad s)
theorem ReC.no {σ : CsC} {r : Nat} {m : Int} {s : SpC} {y : Int32} (e : ReC σ r (accY (raiY m s))) (hn : ¬ m = 0) (c : fIC σ r 243 = y) (h0 : y.toInt = 0) : False := by sorry
abbrev P_X7_code : CpC := fun As σ => ∃ (p0 : Nat), As = [.inr (.inr (some p0))] ∧ HIC σ ∧ TyC σ p0 8 ∧ CdC σ p0
abbrev Q_X7_code : CqC := fun As σ w τ => match As with
  | [.inr (.inr (some p0))] => ∃ r : Int32, w = some (.inl r) ∧ σ = τ ∧ (¬ (fIC σ p0 243).toInt = 0 → r.toInt = -1) ∧ ((fIC σ p0 243).toInt = 0 → (fIC σ p0 242).toInt = CtC σ p0 → r.toInt = 84 ∨ r.toInt = 85) ∧ (r.toInt = CkC2 σ p0) ∧ (∀ s, ReC σ p0 s → (r.toInt = codY s))
  | _ => False
set_option maxRecDepth 100000 in
set_option maxHeartbeats 4000000 in
theorem b_X7_code : TbC KX7_code [] P_X7_code Q_X7_code := by sorry
theorem lg_X7_code : ∀ (As : List AvC) (σ : CsC), P_X7_code As σ → lgC As ≤ rX7_code.2.2.1 := by sorry
theorem m_X7_code (l : Launch) : CMetC l 1 125 P_X7_code Q_X7_code := by sorry
abbrev P_X7_codeBehind : CpC := fun As σ => ∃ (p0 : Nat), As = [.inr (.inr (some p0))] ∧ HIC σ ∧ TyC σ p0 8 ∧ CdC σ p0
abbrev Q_X7_codeBehind : CqC := fun As σ w τ => match As with
  | [.inr (.inr (some p0))] => ∃ r : Int32, w = some (.inl r) ∧ σ = τ ∧ (¬ (fIC σ p0 243).toInt = 0 → r.toInt = -1) ∧ ((fIC σ p0 243).toInt = 0 → (fIC σ p0 242).toInt + 1 = CtC σ p0 → r.toInt = 84 ∨ r.toInt = 85 ∨ r.toInt = -1) ∧ (∀ s, ReC σ p0 s → (r.toInt = cobY s))
  | _ => False
set_option maxRecDepth 100000 in
set_option maxHeartbeats 4000000 in
theorem b_X7_codeBehind : TbC KX7_codeBehind [] P_X7_codeBehind Q_X7_codeBehind := by sorry
theorem lg_X7_codeBehind : ∀ (As : List AvC) (σ : CsC), P_X7_codeBehind As σ → lgC As ≤ rX7_codeBehind.2.2.1 := by sorry
theorem m_X7_codeBehind (l : Launch) : CMetC l 1 126 P_X7_codeBehind Q_X7_codeBehind := by sorry
abbrev P_X7_raise : CpC := fun As σ => ∃ (p0 : Nat) (p1 : Int32), As = [.inr (.inr (some p0)), .inl p1] ∧ HIC σ ∧ TyC σ p0 8 ∧ 1 ≤ p1.toInt ∧ p1.toInt ≤ 3 ∧ CdC σ p0 ∧ (fIC σ p0 242).toInt ≤ CtC σ p0 ∧ BgC σ p0 (0) (0)
abbrev Q_X7_raise : CqC := fun As σ w τ => match As with
  | [.inr (.inr (some p0)), .inl p1] => w = none ∧ HIC τ ∧ ExC [243, 244] σ τ ∧ RdC p0 none (0) (0) (0) σ τ ∧ (¬ (fIC τ p0 243).toInt = 0) ∧ (∀ s, ReC σ p0 s → ReC τ p0 (raiY p1.toInt s))
  | _ => False
set_option maxRecDepth 100000 in
set_option maxHeartbeats 4000000 in
theorem b_X7_raise : TbC KX7_raise [] P_X7_raise Q_X7_raise := by sorry
theorem lg_X7_raise : ∀ (As : List AvC) (σ : CsC), P_X7_raise As σ → lgC As ≤ rX7_raise.2.2.1 := by sorry
theorem m_X7_raise (l : Launch) : CMetC l 1 127 P_X7_raise Q_X7_raise := by sorry
abbrev P_X7_accept : CpC := fun As σ => ∃ (p0 : Nat), As = [.inr (.inr (some p0))] ∧ HIC σ ∧ TyC σ p0 8 ∧ CdC σ p0 ∧ (fIC σ p0 242).toInt ≤ CtC σ p0 ∧ BgC σ p0 (0) (0) ∧ ((fIC σ p0 243).toInt = 0 → (fIC σ p0 242).toInt + 1 ≤ CtC σ p0)
abbrev Q_X7_accept : CqC := fun As σ w τ => match As with
  | [.inr (.inr (some p0))] => w = none ∧ HIC τ ∧ ExC [242, 243, 244] σ τ ∧ RdC p0 none (-8) (0) (0) σ τ ∧ ((fIC τ p0 243).toInt = 0 → (fIC τ p0 242).toInt = (fIC σ p0 242).toInt + 1) ∧ (∀ s, ReC σ p0 s → ReC τ p0 (accY s))
  | _ => False
set_option maxRecDepth 100000 in
set_option maxHeartbeats 4000000 in
theorem b_X7_accept : TbC KX7_accept [(127, P_X7_raise, Q_X7_raise)] P_X7_accept Q_X7_accept := by sorry
theorem lg_X7_accept : ∀ (As : List AvC) (σ : CsC), P_X7_accept As σ → lgC As ≤ rX7_accept.2.2.1 := by sorry
theorem m_X7_accept (l : Launch) : CMetC l 2 128 P_X7_accept Q_X7_accept := by sorry
abbrev P_X7_expect : CpC := fun As σ => ∃ (p0 : Nat) (p1 : Int32), As = [.inr (.inr (some p0)), .inl p1] ∧ HIC σ ∧ TyC σ p0 8 ∧ 0 ≤ p1.toInt ∧ p1.toInt ≤ 83 ∧ CdC σ p0 ∧ (fIC σ p0 242).toInt ≤ CtC σ p0 ∧ BgC σ p0 (0) (0)
abbrev Q_X7_expect : CqC := fun As σ w τ => match As with
  | [.inr (.inr (some p0)), .inl p1] => w = none ∧ HIC τ ∧ ExC [242, 243, 244] σ τ ∧ RdC p0 none (-8) (0) (0) σ τ ∧ ((fIC τ p0 243).toInt = 0 → (fIC τ p0 242).toInt = (fIC σ p0 242).toInt + 1) ∧ (∀ s, ReC σ p0 s → ReC τ p0 (xpY p1.toInt s))
  | _ => False
set_option maxRecDepth 100000 in
set_option maxHeartbeats 4000000 in
theorem b_X7_expect : TbC KX7_expect [(125, P_X7_code, Q_X7_code), (127, P_X7_raise, Q_X7_raise), (128, P_X7_accept, Q_X7_accept)] P_X7_expect Q_X7_expect := by sorry
theorem lg_X7_expect : ∀ (As : List AvC) (σ : CsC), P_X7_expect As σ → lgC As ≤ rX7_expect.2.2.1 := by sorry
theorem m_X7_expect (l : Launch) : CMetC l 3 129 P_X7_expect Q_X7_expect := by sorry
abbrev P_X7_takes : CpC := fun As σ => ∃ (p0 : Nat) (p1 : Int32), As = [.inr (.inr (some p0)), .inl p1] ∧ HIC σ ∧ TyC σ p0 8 ∧ 0 ≤ p1.toInt ∧ p1.toInt ≤ 83 ∧ CdC σ p0 ∧ (fIC σ p0 242).toInt ≤ CtC σ p0 ∧ BgC σ p0 (0) (0)
abbrev Q_X7_takes : CqC := fun As σ w τ => match As with
  | [.inr (.inr (some p0)), .inl p1] => ∃ r : Int32, w = some (.inl r) ∧ HIC τ ∧ ExC [242, 243, 244] σ τ ∧ 0 ≤ r.toInt ∧ r.toInt ≤ 1 ∧ RdC p0 none (0) (0) (0) σ τ ∧ (r.toInt = 1 → (fIC σ p0 243).toInt = 0 ∧ RdC p0 none (-8) 0 0 σ τ) ∧ (∀ s, ReC σ p0 s → ReC τ p0 (tkY p1.toInt s) ∧ ((r.toInt = 1 → codY s = p1.toInt) ∧ (r.toInt = 0 → ¬ codY s = p1.toInt)))
  | _ => False
set_option maxRecDepth 100000 in
set_option maxHeartbeats 4000000 in
theorem b_X7_takes : TbC KX7_takes [(125, P_X7_code, Q_X7_code), (128, P_X7_accept, Q_X7_accept)] P_X7_takes Q_X7_takes := by sorry
theorem lg_X7_takes : ∀ (As : List AvC) (σ : CsC), P_X7_takes As σ → lgC As ≤ rX7_takes.2.2.1 := by sorry
theorem m_X7_takes (l : Launch) : CMetC l 3 130 P_X7_takes Q_X7_takes := by sorry
abbrev P_X7_isTooDeep : CpC := fun As σ => ∃ (p0 : Nat) (p1 : Int32), As = [.inr (.inr (some p0)), .inl p1] ∧ HIC σ ∧ TyC σ p0 8 ∧ CdC σ p0 ∧ (fIC σ p0 242).toInt ≤ CtC σ p0 ∧ BgC σ p0 (0) (0)
abbrev Q_X7_isTooDeep : CqC := fun As σ w τ => match As with
  | [.inr (.inr (some p0)), .inl p1] => ∃ r : Int32, w = some (.inl r) ∧ HIC τ ∧ ExC [243, 244] σ τ ∧ 0 ≤ r.toInt ∧ r.toInt ≤ 1 ∧ RdC p0 none (0) (0) (0) σ τ ∧ (r.toInt = 1 → 20 < p1.toInt ∧ ¬ (fIC τ p0 243).toInt = 0) ∧ (r.toInt = 0 → p1.toInt ≤ 20) ∧ (∀ s, ReC σ p0 s → ReC τ p0 (dpY p1.toInt s))
  | _ => False
set_option maxRecDepth 100000 in
set_option maxHeartbeats 4000000 in
theorem b_X7_isTooDeep : TbC KX7_isTooDeep [(127, P_X7_raise, Q_X7_raise)] P_X7_isTooDeep Q_X7_isTooDeep := by sorry
theorem lg_X7_isTooDeep : ∀ (As : List AvC) (σ : CsC), P_X7_isTooDeep As σ → lgC As ≤ rX7_isTooDeep.2.2.1 := by sorry
theorem m_X7_isTooDeep (l : Launch) : CMetC l 2 131 P_X7_isTooDeep Q_X7_isTooDeep := by sorry
abbrev P_X7_isType : CpC := fun As σ => ∃ (p0 : Int32), As = [.inl p0] ∧ HIC σ
abbrev Q_X7_isType : CqC := fun As σ w τ => match As with
  | [.inl p0] => ∃ r : Int32, w = some (.inl r) ∧ σ = τ ∧ 0 ≤ r.toInt ∧ r.toInt ≤ 1 ∧ (r.toInt = 1 → 50 ≤ p0.toInt ∧ p0.toInt ≤ 54) ∧ (r.toInt = 0 → ¬ (50 ≤ p0.toInt ∧ p0.toInt ≤ 54))
  | _ => False
set_option maxRecDepth 100000 in
set_option maxHeartbeats 4000000 in
theorem b_X7_isType : TbC KX7_isType [] P_X7_isType Q_X7_isType := by sorry
theorem lg_X7_isType : ∀ (As : List AvC) (σ : CsC), P_X7_isType As σ → lgC As ≤ rX7_isType.2.2.1 := by sorry
theorem m_X7_isType (l : Launch) : CMetC l 1 132 P_X7_isType Q_X7_isType := by sorry
abbrev P_X7_isAssign : CpC := fun As σ => ∃ (p0 : Int32), As = [.inl p0] ∧ HIC σ
abbrev Q_X7_isAssign : CqC := fun As σ w τ => match As with
  | [.inl p0] => ∃ r : Int32, w = some (.inl r) ∧ σ = τ ∧ 0 ≤ r.toInt ∧ r.toInt ≤ 1 ∧ (r.toInt = 1 → 8 ≤ p0.toInt ∧ p0.toInt ≤ 19) ∧ (r.toInt = 0 → ¬ (8 ≤ p0.toInt ∧ p0.toInt ≤ 19))
  | _ => False
set_option maxRecDepth 100000 in
set_option maxHeartbeats 4000000 in
theorem b_X7_isAssign : TbC KX7_isAssign [] P_X7_isAssign Q_X7_isAssign := by sorry
theorem lg_X7_isAssign : ∀ (As : List AvC) (σ : CsC), P_X7_isAssign As σ → lgC As ≤ rX7_isAssign.2.2.1 := by sorry
theorem m_X7_isAssign (l : Launch) : CMetC l 1 133 P_X7_isAssign Q_X7_isAssign := by sorry
abbrev P_X7_faultPlace : CpC := fun As σ => ∃ (p0 : Nat), As = [.inr (.inr (some p0))] ∧ HIC σ ∧ TyC σ p0 8
abbrev Q_X7_faultPlace : CqC := fun As σ w τ => match As with
  | [.inr (.inr (some p0))] => ∃ r : Int32, w = some (.inl r) ∧ σ = τ
  | _ => False
set_option maxRecDepth 100000 in
set_option maxHeartbeats 4000000 in
theorem b_X7_faultPlace : TbC KX7_faultPlace [] P_X7_faultPlace Q_X7_faultPlace := by sorry
theorem lg_X7_faultPlace : ∀ (As : List AvC) (σ : CsC), P_X7_faultPlace As σ → lgC As ≤ rX7_faultPlace.2.2.1 := by sorry
theorem m_X7_faultPlace (l : Launch) : CMetC l 1 124 P_X7_faultPlace Q_X7_faultPlace := by sorry
abbrev P_X7_readType : CpC := fun As σ => ∃ (p0 : Nat), As = [.inr (.inr (some p0))] ∧ HIC σ ∧ TyC σ p0 8 ∧ CdC σ p0 ∧ (fIC σ p0 242).toInt ≤ CtC σ p0 ∧ BgC σ p0 (0) (0)
abbrev Q_X7_readType : CqC := fun As σ w τ => match As with
  | [.inr (.inr (some p0))] => ∃ r : Int32, w = some (.inl r) ∧ HIC τ ∧ ExC [242, 243, 244] σ τ ∧ RdC p0 none (-8) (0) (0) σ τ ∧ (∀ s, ReC σ p0 s → ReC τ p0 (typY s) ∧ (r.toInt = tyvY s))
  | _ => False
set_option maxRecDepth 100000 in
set_option maxHeartbeats 4000000 in
theorem b_X7_readType : TbC KX7_readType [(125, P_X7_code, Q_X7_code), (132, P_X7_isType, Q_X7_isType), (127, P_X7_raise, Q_X7_raise), (128, P_X7_accept, Q_X7_accept)] P_X7_readType Q_X7_readType := by sorry
theorem lg_X7_readType : ∀ (As : List AvC) (σ : CsC), P_X7_readType As σ → lgC As ≤ rX7_readType.2.2.1 := by sorry
theorem m_X7_readType (l : Launch) : CMetC l 3 136 P_X7_readType Q_X7_readType := by sorry
abbrev P_X7_know : CpC := fun As σ => ∃ (p0 : Nat) (p1 : Int32), As = [.inr (.inr (some p0)), .inl p1] ∧ HIC σ ∧ TyC σ p0 8
abbrev Q_X7_know : CqC := fun As σ w τ => match As with
  | [.inr (.inr (some p0)), .inl p1] => w = none ∧ HIC τ ∧ ExC [] σ τ
  | _ => False
set_option maxRecDepth 100000 in
set_option maxHeartbeats 4000000 in
theorem b_X7_know : TbC KX7_know [(222, P_X11_bit, Q_X11_bit)] P_X7_know Q_X7_know := by sorry
theorem lg_X7_know : ∀ (As : List AvC) (σ : CsC), P_X7_know As σ → lgC As ≤ rX7_know.2.2.1 := by sorry
theorem m_X7_know (l : Launch) : CMetC l 2 138 P_X7_know Q_X7_know := by sorry
abbrev P_X7_lookUp : CpC := fun As σ => ∃ (p0 : Nat) (p1 : Int64), As = [.inr (.inr (some p0)), .inr (.inl p1)] ∧ HIC σ ∧ TyC σ p0 8
abbrev Q_X7_lookUp : CqC := fun As σ w τ => match As with
  | [.inr (.inr (some p0)), .inr (.inl p1)] => ∃ r : Int32, w = some (.inl r) ∧ σ = τ ∧ (-1) ≤ r.toInt
  | _ => False
set_option maxRecDepth 100000 in
set_option maxHeartbeats 4000000 in
theorem b_X7_lookUp : TbC KX7_lookUp [(234, P_Jx4a65c_size_8abf5, Q_Jx4a65c_size_8abf5), (221, P_X11_has, Q_X11_has), (235, P_Jx4a65c_get_915e3, Q_Jx4a65c_get_915e3)] P_X7_lookUp Q_X7_lookUp := by sorry
theorem lg_X7_lookUp : ∀ (As : List AvC) (σ : CsC), P_X7_lookUp As σ → lgC As ≤ rX7_lookUp.2.2.1 := by sorry
theorem m_X7_lookUp (l : Launch) : CMetC l 11 139 P_X7_lookUp Q_X7_lookUp := by sorry
abbrev P_X7_meant : CpC := fun As σ => ∃ (p0 : Nat) (p1 : Int32), As = [.inr (.inr (some p0)), .inl p1] ∧ HIC σ ∧ TyC σ p0 8 ∧ 0 ≤ p1.toInt ∧ p1.toInt ≤ 502
abbrev Q_X7_meant : CqC := fun As σ w τ => match As with
  | [.inr (.inr (some p0)), .inl p1] => ∃ r : Int32, w = some (.inl r) ∧ HIC τ ∧ ExC [] σ τ ∧ (-1) ≤ r.toInt
  | _ => False
set_option maxRecDepth 100000 in
set_option maxHeartbeats 4000000 in
theorem b_X7_meant : TbC KX7_meant [(139, P_X7_lookUp, Q_X7_lookUp)] P_X7_meant Q_X7_meant := by sorry
theorem lg_X7_meant : ∀ (As : List AvC) (σ : CsC), P_X7_meant As σ → lgC As ≤ rX7_meant.2.2.1 := by sorry
theorem m_X7_meant (l : Launch) : CMetC l 12 140 P_X7_meant Q_X7_meant := by sorry
abbrev P_X7_declare : CpC := fun As σ => ∃ (p0 : Nat) (p1 : Int32) (p2 : Int32) (p3 : Int32), As = [.inr (.inr (some p0)), .inl p1, .inl p2, .inl p3] ∧ HIC σ ∧ TyC σ p0 8 ∧ 0 ≤ p2.toInt ∧ p2.toInt ≤ 1 ∧ 0 ≤ p3.toInt ∧ p3.toInt ≤ 1 ∧ CdC σ p0 ∧ (fIC σ p0 242).toInt ≤ CtC σ p0 ∧ BgC σ p0 (2) (0)
abbrev Q_X7_declare : CqC := fun As σ w τ => match As with
  | [.inr (.inr (some p0)), .inl p1, .inl p2, .inl p3] => ∃ r : Int32, w = some (.inl r) ∧ HIC τ ∧ ExC [0, 1, 2, 242, 243, 244, 330, 331, 332, 333, 334, 999] σ τ ∧ (-1) ≤ r.toInt ∧ r.toInt ≤ 59 ∧ RdC p0 none (-6) (2) (0) σ τ ∧ (∀ s, ReC σ p0 s → ReC τ p0 (dclY p1.toInt p2.toInt p3.toInt s))
  | _ => False
set_option maxRecDepth 100000 in
set_option maxHeartbeats 4000000 in
theorem b_X7_declare : TbC KX7_declare [(234, P_Jx4a65c_size_8abf5, Q_Jx4a65c_size_8abf5), (125, P_X7_code, Q_X7_code), (127, P_X7_raise, Q_X7_raise), (199, P_X10_init, Q_X10_init), (139, P_X7_lookUp, Q_X7_lookUp), (236, P_Jx4a65c_add_9ea2d, Q_Jx4a65c_add_9ea2d), (128, P_X7_accept, Q_X7_accept)] P_X7_declare Q_X7_declare := by sorry
theorem lg_X7_declare : ∀ (As : List AvC) (σ : CsC), P_X7_declare As σ → lgC As ≤ rX7_declare.2.2.1 := by sorry
theorem m_X7_declare (l : Launch) : CMetC l 12 137 P_X7_declare Q_X7_declare := by sorry
abbrev P_X7_begin : CpC := fun As σ => ∃ (p0 : Nat) (p1 : Int32) (p2 : Int32), As = [.inr (.inr (some p0)), .inl p1, .inl p2] ∧ HIC σ ∧ TyC σ p0 8 ∧ 0 ≤ p2.toInt ∧ p2.toInt ≤ 22 ∧ CdC σ p0 ∧ (fIC σ p0 242).toInt ≤ CtC σ p0 ∧ BgC σ p0 (2) (2) ∧ ¬ p1.toInt = 6
abbrev Q_X7_begin : CqC := fun As σ w τ => match As with
  | [.inr (.inr (some p0)), .inl p1, .inl p2] => ∃ r : Nat, w = some (.inr (.inr (some r))) ∧ HIC τ ∧ ExC [0, 1, 2, 270, 271, 272, 273, 280, 999] σ τ ∧ TyC τ r 9 ∧ RdC p0 none (2) (2) (2) σ τ ∧ (cnC σ ≤ r) ∧ (fIC τ r 270 = p1) ∧ (fIC τ r 272 = p2) ∧ (∀ s, ReC σ p0 s → ReC τ p0 ( s))
  | _ => False
set_option maxRecDepth 100000 in
set_option maxHeartbeats 4000000 in
theorem b_X7_begin : TbC KX7_begin [(178, P_X8_init, Q_X8_init), (236, P_Jx4a65c_add_9ea2d, Q_Jx4a65c_add_9ea2d)] P_X7_begin Q_X7_begin := by sorry
theorem lg_X7_begin : ∀ (As : List AvC) (σ : CsC), P_X7_begin As σ → lgC As ≤ rX7_begin.2.2.1 := by sorry
theorem m_X7_begin (l : Launch) : CMetC l 11 142 P_X7_begin Q_X7_begin := by sorry
abbrev P_X7_put : CpC := fun As σ => ∃ (p0 : Nat) (p1 : Nat), As = [.inr (.inr (some p0)), .inr (.inr (some p1))] ∧ HIC σ ∧ TyC σ p0 8 ∧ TyC σ p1 2 ∧ CdC σ p0 ∧ (fIC σ p0 242).toInt ≤ CtC σ p0 ∧ BgC σ p0 (1) (1)
abbrev Q_X7_put : CqC := fun As σ w τ => match As with
  | [.inr (.inr (some p0)), .inr (.inr (some p1))] => ∃ r : Nat, w = some (.inr (.inr (some r))) ∧ HIC τ ∧ ExC [0, 1, 2, 64, 65, 999] σ τ ∧ TyC τ r 2 ∧ RdC p0 none (1) (1) (1) σ τ ∧ (r = p1) ∧ (∀ s, ReC σ p0 s → ReC τ p0 ( s))
  | _ => False
set_option maxRecDepth 100000 in
set_option maxHeartbeats 4000000 in
theorem b_X7_put : TbC KX7_put [(234, P_Jx4a65c_size_8abf5, Q_Jx4a65c_size_8abf5), (236, P_Jx4a65c_add_9ea2d, Q_Jx4a65c_add_9ea2d)] P_X7_put Q_X7_put := by sorry
theorem lg_X7_put : ∀ (As : List AvC) (σ : CsC), P_X7_put As σ → lgC As ≤ rX7_put.2.2.1 := by sorry
theorem m_X7_put (l : Launch) : CMetC l 11 161 P_X7_put Q_X7_put := by sorry
abbrev P_X7_opened : CpC := fun As σ => ∃ (p0 : Nat) (p1 : Int32) (p2 : Int32), As = [.inr (.inr (some p0)), .inl p1, .inl p2] ∧ HIC σ ∧ TyC σ p0 8 ∧ CdC σ p0 ∧ (fIC σ p0 242).toInt ≤ CtC σ p0 ∧ BgC σ p0 (1) (1) ∧ ¬ p1.toInt = 7
abbrev Q_X7_opened : CqC := fun As σ w τ => match As with
  | [.inr (.inr (some p0)), .inl p1, .inl p2] => ∃ r : Nat, w = some (.inr (.inr (some r))) ∧ HIC τ ∧ ExC [60, 61, 62, 63, 66, 67, 68, 999] σ τ ∧ TyC τ r 2 ∧ RdC p0 none (1) (1) (1) σ τ ∧ (cnC σ ≤ r) ∧ (∀ s, ReC σ p0 s → ReC τ p0 ( s))
  | _ => False
set_option maxRecDepth 100000 in
set_option maxHeartbeats 4000000 in
theorem b_X7_opened : TbC KX7_opened [(234, P_Jx4a65c_size_8abf5, Q_Jx4a65c_size_8abf5), (17, P_X1_init, Q_X1_init)] P_X7_opened Q_X7_opened := by sorry
theorem lg_X7_opened : ∀ (As : List AvC) (σ : CsC), P_X7_opened As σ → lgC As ≤ rX7_opened.2.2.1 := by sorry
theorem m_X7_opened (l : Launch) : CMetC l 11 162 P_X7_opened Q_X7_opened := by sorry
abbrev P_X7_putMark : CpC := fun As σ => ∃ (p0 : Nat) (p1 : Int32) (p2 : Int32), As = [.inr (.inr (some p0)), .inl p1, .inl p2] ∧ HIC σ ∧ TyC σ p0 8 ∧ CdC σ p0 ∧ (fIC σ p0 242).toInt ≤ CtC σ p0 ∧ BgC σ p0 (2) (2) ∧ ¬ p1.toInt = 7
abbrev Q_X7_putMark : CqC := fun As σ w τ => match As with
  | [.inr (.inr (some p0)), .inl p1, .inl p2] => ∃ r : Nat, w = some (.inr (.inr (some r))) ∧ HIC τ ∧ ExC [0, 1, 2, 60, 61, 62, 63, 64, 65, 66, 67, 68, 999] σ τ ∧ TyC τ r 2 ∧ RdC p0 none (2) (2) (2) σ τ ∧ (cnC σ ≤ r) ∧ (∀ s, ReC σ p0 s → ReC τ p0 ( s))
  | _ => False
set_option maxRecDepth 100000 in
set_option maxHeartbeats 4000000 in
theorem b_X7_putMark : TbC KX7_putMark [(162, P_X7_opened, Q_X7_opened), (161, P_X7_put, Q_X7_put)] P_X7_putMark Q_X7_putMark := by sorry
theorem lg_X7_putMark : ∀ (As : List AvC) (σ : CsC), P_X7_putMark As σ → lgC As ≤ rX7_putMark.2.2.1 := by sorry
theorem m_X7_putMark (l : Launch) : CMetC l 12 163 P_X7_putMark Q_X7_putMark := by sorry
abbrev P_X7_readLiteral : CpC := fun As σ => ∃ (p0 : Nat), As = [.inr (.inr (some p0))] ∧ HIC σ ∧ TyC σ p0 8 ∧ CdC σ p0 ∧ (fIC σ p0 242).toInt ≤ CtC σ p0 ∧ RmC σ p0 (8 * (501 - (fIC σ p0 242).toInt) + (2)) ∧ (fIC σ p0 243).toInt = 0 ∧ ((fIC σ p0 243).toInt = 0 → (fIC σ p0 242).toInt + 1 ≤ CtC σ p0)
abbrev Q_X7_readLiteral : CqC := fun As σ w τ => match As with
  | [.inr (.inr (some p0))] => ∃ r : Nat, w = some (.inr (.inr (some r))) ∧ HIC τ ∧ ExC [0, 1, 2, 60, 61, 62, 63, 64, 65, 66, 67, 68, 70, 242, 243, 244, 999] σ τ ∧ TyC τ r 2 ∧ RdC p0 none (0) (2) (0) σ τ ∧ (cnC σ ≤ r) ∧ (∀ s, ReC σ p0 s → ReC τ p0 (accY s))
  | _ => False
abbrev P_X7_readCountAhead : CpC := fun As σ => ∃ (p0 : Nat), As = [.inr (.inr (some p0))] ∧ HIC σ ∧ TyC σ p0 8 ∧ CdC σ p0 ∧ (fIC σ p0 242).toInt ≤ CtC σ p0 ∧ RmC σ p0 (8 * (501 - (fIC σ p0 242).toInt) + (2)) ∧ (fIC σ p0 243).toInt = 0 ∧ ((fIC σ p0 243).toInt = 0 → (fIC σ p0 242).toInt + 1 ≤ CtC σ p0)
abbrev Q_X7_readCountAhead : CqC := fun As σ w τ => match As with
  | [.inr (.inr (some p0))] => ∃ r : Nat, w = some (.inr (.inr (some r))) ∧ HIC τ ∧ ExC [0, 1, 2, 60, 61, 62, 63, 64, 65, 66, 67, 68, 242, 243, 244, 999] σ τ ∧ TyC τ r 2 ∧ RdC p0 none (0) (2) (0) σ τ ∧ (cnC σ ≤ r) ∧ (∀ s, ReC σ p0 s → ReC τ p0 (cntY s))
  | _ => False
abbrev P_X7_readCall (n : Nat) : CpC := fun As σ => ∃ (p0 : Nat) (p1 : Int32), As = [.inr (.inr (some p0)), .inl p1] ∧ HIC σ ∧ TyC σ p0 8 ∧ 0 ≤ p1.toInt ∧ p1.toInt ≤ 20 ∧ CdC σ p0 ∧ (fIC σ p0 242).toInt ≤ CtC σ p0 ∧ RmC σ p0 (8 * (501 - (fIC σ p0 242).toInt) + (14 + 8 * (n : Int))) ∧ (fIC σ p0 243).toInt = 0 ∧ ((fIC σ p0 243).toInt = 0 → (fIC σ p0 242).toInt + 2 ≤ CtC σ p0) ∧ p1.toInt + (n : Int) = 21
abbrev Q_X7_readCall (n : Nat) : CqC := fun As σ w τ => match As with
  | [.inr (.inr (some p0)), .inl p1] => ∃ r : Nat, w = some (.inr (.inr (some r))) ∧ HIC τ ∧ ExC [0, 1, 2, 60, 61, 62, 63, 64, 65, 66, 67, 68, 69, 70, 72, 73, 74, 75, 76, 242, 243, 244, 999] σ τ ∧ TyC τ r 2 ∧ RdC p0 none (0) (14 + 8 * (n : Int)) (0) σ τ ∧ (cnC σ ≤ r) ∧ (∀ s, ReC σ p0 s → ReC τ p0 (calY (n - 1) (eY (n - 1)) s))
  | _ => False
abbrev P_X7_readAlone (n : Nat) : CpC := fun As σ => ∃ (p0 : Nat) (p1 : Int32), As = [.inr (.inr (some p0)), .inl p1] ∧ HIC σ ∧ TyC σ p0 8 ∧ 0 ≤ p1.toInt ∧ p1.toInt ≤ 20 ∧ CdC σ p0 ∧ (fIC σ p0 242).toInt ≤ CtC σ p0 ∧ RmC σ p0 (8 * (501 - (fIC σ p0 242).toInt) + (14 + 8 * (n : Int))) ∧ (fIC σ p0 243).toInt = 0 ∧ ((fIC σ p0 243).toInt = 0 → (fIC σ p0 242).toInt + 1 ≤ CtC σ p0) ∧ p1.toInt + (n : Int) = 21
abbrev Q_X7_readAlone (n : Nat) : CqC := fun As σ w τ => match As with
  | [.inr (.inr (some p0)), .inl p1] => ∃ r : Nat, w = some (.inr (.inr (some r))) ∧ HIC τ ∧ ExC [0, 1, 2, 60, 61, 62, 63, 64, 65, 66, 67, 68, 69, 70, 72, 73, 74, 75, 76, 242, 243, 244, 999] σ τ ∧ TyC τ r 2 ∧ RdC p0 none (0) (14 + 8 * (n : Int)) (0) σ τ ∧ (cnC σ ≤ r) ∧ (∀ s, ReC σ p0 s → ReC τ p0 (alnY (oY (n - 1)) s))
  | _ => False
abbrev P_X7_readBehindOpen (n : Nat) : CpC := fun As σ => ∃ (p0 : Nat) (p1 : Int32), As = [.inr (.inr (some p0)), .inl p1] ∧ HIC σ ∧ TyC σ p0 8 ∧ 0 ≤ p1.toInt ∧ p1.toInt ≤ 20 ∧ CdC σ p0 ∧ (fIC σ p0 242).toInt ≤ CtC σ p0 ∧ RmC σ p0 (8 * (501 - (fIC σ p0 242).toInt) + (14 + 8 * (n : Int))) ∧ (fIC σ p0 243).toInt = 0 ∧ ((fIC σ p0 243).toInt = 0 → (fIC σ p0 242).toInt + 1 ≤ CtC σ p0) ∧ p1.toInt + (n : Int) = 21
abbrev Q_X7_readBehindOpen (n : Nat) : CqC := fun As σ w τ => match As with
  | [.inr (.inr (some p0)), .inl p1] => ∃ r : Nat, w = some (.inr (.inr (some r))) ∧ HIC τ ∧ ExC [0, 1, 2, 60, 61, 62, 63, 64, 65, 66, 67, 68, 69, 70, 72, 73, 74, 75, 76, 242, 243, 244, 999] σ τ ∧ TyC τ r 2 ∧ RdC p0 none (0) (14 + 8 * (n : Int)) (0) σ τ ∧ (cnC σ ≤ r) ∧ (∀ s, ReC σ p0 s → ReC τ p0 (opnY (oY (n - 1)) (eY (n - 1)) s))
  | _ => False
abbrev P_X7_readName (n : Nat) : CpC := fun As σ => ∃ (p0 : Nat) (p1 : Int32), As = [.inr (.inr (some p0)), .inl p1] ∧ HIC σ ∧ TyC σ p0 8 ∧ 0 ≤ p1.toInt ∧ p1.toInt ≤ 20 ∧ CdC σ p0 ∧ (fIC σ p0 242).toInt ≤ CtC σ p0 ∧ RmC σ p0 (8 * (501 - (fIC σ p0 242).toInt) + (14 + 8 * (n : Int))) ∧ (fIC σ p0 243).toInt = 0 ∧ ((fIC σ p0 243).toInt = 0 → (fIC σ p0 242).toInt + 1 ≤ CtC σ p0) ∧ p1.toInt + (n : Int) = 21
abbrev Q_X7_readName (n : Nat) : CqC := fun As σ w τ => match As with
  | [.inr (.inr (some p0)), .inl p1] => ∃ r : Nat, w = some (.inr (.inr (some r))) ∧ HIC τ ∧ ExC [0, 1, 2, 60, 61, 62, 63, 64, 65, 66, 67, 68, 69, 70, 72, 73, 74, 75, 76, 242, 243, 244, 999] σ τ ∧ TyC τ r 2 ∧ RdC p0 none (0) (14 + 8 * (n : Int)) (0) σ τ ∧ (cnC σ ≤ r) ∧ (∀ s, ReC σ p0 s → ReC τ p0 (nmeY (n - 1) (eY (n - 1)) s))
  | _ => False
abbrev P_X7_readOperand (n : Nat) : CpC := fun As σ => ∃ (p0 : Nat) (p1 : Int32), As = [.inr (.inr (some p0)), .inl p1] ∧ HIC σ ∧ TyC σ p0 8 ∧ 0 ≤ p1.toInt ∧ p1.toInt ≤ 20 ∧ CdC σ p0 ∧ (fIC σ p0 242).toInt ≤ CtC σ p0 ∧ BgC σ p0 (14 + 8 * (n : Int)) (1) ∧ p1.toInt + (n : Int) = 21
abbrev Q_X7_readOperand (n : Nat) : CqC := fun As σ w τ => match As with
  | [.inr (.inr (some p0)), .inl p1] => ∃ r : Nat, w = some (.inr (.inr (some r))) ∧ HIC τ ∧ ExC [0, 1, 2, 60, 61, 62, 63, 64, 65, 66, 67, 68, 69, 70, 72, 73, 74, 75, 76, 242, 243, 244, 999] σ τ ∧ TyC τ r 2 ∧ RdC p0 none (0) (14 + 8 * (n : Int)) (1) σ τ ∧ (cnC σ ≤ r) ∧ (∀ s, ReC σ p0 s → ReC τ p0 (opY n s))
  | _ => False
abbrev P_X7_readInnerOperand (n : Nat) : CpC := fun As σ => ∃ (p0 : Nat) (p1 : Int32), As = [.inr (.inr (some p0)), .inl p1] ∧ HIC σ ∧ TyC σ p0 8 ∧ 0 ≤ p1.toInt ∧ p1.toInt ≤ 21 ∧ CdC σ p0 ∧ (fIC σ p0 242).toInt ≤ CtC σ p0 ∧ BgC σ p0 (14 + 8 * (n : Int)) (1) ∧ p1.toInt + (n : Int) = 21
abbrev Q_X7_readInnerOperand (n : Nat) : CqC := fun As σ w τ => match As with
  | [.inr (.inr (some p0)), .inl p1] => ∃ r : Nat, w = some (.inr (.inr (some r))) ∧ HIC τ ∧ ExC [0, 1, 2, 60, 61, 62, 63, 64, 65, 66, 67, 68, 69, 70, 72, 73, 74, 75, 76, 242, 243, 244, 999] σ τ ∧ TyC τ r 2 ∧ RdC p0 none (0) (14 + 8 * (n : Int)) (1) σ τ ∧ (cnC σ ≤ r) ∧ (∀ s, ReC σ p0 s → ReC τ p0 (oY n s))
  | _ => False
abbrev P_X7_waitingFor : CpC := fun As σ => ∃ (p0 : Nat) (p1 : Int32) (p2 : Nat) (p3 : Option Nat), As = [.inr (.inr (some p0)), .inl p1, .inr (.inr (some p2)), .inr (.inr p3)] ∧ HIC σ ∧ TyC σ p0 8 ∧ TyC σ p2 2 ∧ (∀ c, p3 = some c → c < cnC σ ∧ tgC σ c = 2) ∧ CdC σ p0 ∧ (fIC σ p0 242).toInt ≤ CtC σ p0 ∧ BgC σ p0 (3) (3)
abbrev Q_X7_waitingFor : CqC := fun As σ w τ => match As with
  | [.inr (.inr (some p0)), .inl p1, .inr (.inr (some p2)), .inr (.inr p3)] => ∃ r : Nat, w = some (.inr (.inr (some r))) ∧ HIC τ ∧ ExC [0, 1, 2, 60, 61, 62, 63, 64, 65, 66, 67, 68, 72, 75, 76, 999] σ τ ∧ r < cnC τ ∧ tgC τ r = 2 ∧ RdC p0 none (3) (3) (3) σ τ ∧ (WtC τ r) ∧ (fRC τ r 75 = p3) ∧ (cnC σ ≤ r) ∧ (∀ s, ReC σ p0 s → ReC τ p0 ( s))
  | _ => False
abbrev P_X7_closed : CpC := fun As σ => ∃ (p0 : Nat) (p1 : Nat) (p2 : Nat), As = [.inr (.inr (some p0)), .inr (.inr (some p1)), .inr (.inr (some p2))] ∧ HIC σ ∧ TyC σ p0 8 ∧ p1 < cnC σ ∧ tgC σ p1 = 2 ∧ TyC σ p2 2 ∧ CdC σ p0 ∧ (fIC σ p0 242).toInt ≤ CtC σ p0 ∧ BgC σ p0 (1) (1)
abbrev Q_X7_closed : CqC := fun As σ w τ => match As with
  | [.inr (.inr (some p0)), .inr (.inr (some p1)), .inr (.inr (some p2))] => ∃ r : Nat, w = some (.inr (.inr (some r))) ∧ HIC τ ∧ ExC [0, 1, 2, 64, 65, 73, 75, 999] σ τ ∧ TyC τ r 2 ∧ RdC p0 (some p1) (1) (1) (1) σ τ ∧ (r = p1) ∧ (∀ s, ReC σ p0 s → ReC τ p0 ( s))
  | _ => False
abbrev P_X7_readChain (n : Nat) : CpC := fun As σ => ∃ (p0 : Nat) (p1 : Int32), As = [.inr (.inr (some p0)), .inl p1] ∧ HIC σ ∧ TyC σ p0 8 ∧ 0 ≤ p1.toInt ∧ p1.toInt ≤ 20 ∧ CdC σ p0 ∧ (fIC σ p0 242).toInt ≤ CtC σ p0 ∧ BgC σ p0 (19 + 8 * (n : Int)) (1) ∧ p1.toInt + (n : Int) = 21
abbrev Q_X7_readChain (n : Nat) : CqC := fun As σ w τ => match As with
  | [.inr (.inr (some p0)), .inl p1] => ∃ r : Nat, w = some (.inr (.inr (some r))) ∧ HIC τ ∧ ExC [0, 1, 2, 60, 61, 62, 63, 64, 65, 66, 67, 68, 69, 70, 72, 73, 74, 75, 76, 242, 243, 244, 999] σ τ ∧ TyC τ r 2 ∧ RdC p0 none (0) (19 + 8 * (n : Int)) (1) σ τ ∧ (cnC σ ≤ r) ∧ (∀ s, ReC σ p0 s → ReC τ p0 (chnY (opY n) s))
  | _ => False
abbrev P_X7_readChoice (n : Nat) : CpC := fun As σ => ∃ (p0 : Nat) (p1 : Int32), As = [.inr (.inr (some p0)), .inl p1] ∧ HIC σ ∧ TyC σ p0 8 ∧ 0 ≤ p1.toInt ∧ p1.toInt ≤ 20 ∧ CdC σ p0 ∧ (fIC σ p0 242).toInt ≤ CtC σ p0 ∧ BgC σ p0 (19 + 8 * (n : Int)) (1) ∧ p1.toInt + (n : Int) = 21
abbrev Q_X7_readChoice (n : Nat) : CqC := fun As σ w τ => match As with
  | [.inr (.inr (some p0)), .inl p1] => ∃ r : Nat, w = some (.inr (.inr (some r))) ∧ HIC τ ∧ ExC [0, 1, 2, 60, 61, 62, 63, 64, 65, 66, 67, 68, 69, 70, 72, 73, 74, 75, 76, 242, 243, 244, 999] σ τ ∧ TyC τ r 2 ∧ RdC p0 none (0) (19 + 8 * (n : Int)) (1) σ τ ∧ (cnC σ ≤ r) ∧ (∀ s, ReC σ p0 s → ReC τ p0 (chY n s))
  | _ => False
abbrev P_X7_readAssignment (n : Nat) : CpC := fun As σ => ∃ (p0 : Nat) (p1 : Int32), As = [.inr (.inr (some p0)), .inl p1] ∧ HIC σ ∧ TyC σ p0 8 ∧ 0 ≤ p1.toInt ∧ p1.toInt ≤ 20 ∧ CdC σ p0 ∧ (fIC σ p0 242).toInt ≤ CtC σ p0 ∧ RmC σ p0 (8 * (501 - (fIC σ p0 242).toInt) + (19 + 8 * (n : Int))) ∧ (fIC σ p0 243).toInt = 0 ∧ ((fIC σ p0 243).toInt = 0 → (fIC σ p0 242).toInt + 2 ≤ CtC σ p0) ∧ p1.toInt + (n : Int) = 21
abbrev Q_X7_readAssignment (n : Nat) : CqC := fun As σ w τ => match As with
  | [.inr (.inr (some p0)), .inl p1] => ∃ r : Nat, w = some (.inr (.inr (some r))) ∧ HIC τ ∧ ExC [0, 1, 2, 60, 61, 62, 63, 64, 65, 66, 67, 68, 69, 70, 72, 73, 74, 75, 76, 242, 243, 244, 999] σ τ ∧ TyC τ r 2 ∧ RdC p0 none (0) (19 + 8 * (n : Int)) (0) σ τ ∧ (cnC σ ≤ r) ∧ (∀ s, ReC σ p0 s → ReC τ p0 (asgY (eY (n - 1)) s))
  | _ => False
abbrev P_X7_readExp (n : Nat) : CpC := fun As σ => ∃ (p0 : Nat) (p1 : Int32), As = [.inr (.inr (some p0)), .inl p1] ∧ HIC σ ∧ TyC σ p0 8 ∧ 0 ≤ p1.toInt ∧ p1.toInt ≤ 21 ∧ CdC σ p0 ∧ (fIC σ p0 242).toInt ≤ CtC σ p0 ∧ BgC σ p0 (20 + 8 * (n : Int)) (1) ∧ p1.toInt + (n : Int) = 21
abbrev Q_X7_readExp (n : Nat) : CqC := fun As σ w τ => match As with
  | [.inr (.inr (some p0)), .inl p1] => ∃ r : Nat, w = some (.inr (.inr (some r))) ∧ HIC τ ∧ ExC [0, 1, 2, 60, 61, 62, 63, 64, 65, 66, 67, 68, 69, 70, 72, 73, 74, 75, 76, 242, 243, 244, 999] σ τ ∧ TyC τ r 2 ∧ RdC p0 none (0) (20 + 8 * (n : Int)) (1) σ τ ∧ (cnC σ ≤ r) ∧ (∀ s, ReC σ p0 s → ReC τ p0 (eY n s))
  | _ => False
set_option maxRecDepth 100000 in
set_option maxHeartbeats 4000000 in
theorem b_X7_readLiteral : TbC KX7_readLiteral [(125, P_X7_code, Q_X7_code), (162, P_X7_opened, Q_X7_opened), (128, P_X7_accept, Q_X7_accept), (161, P_X7_put, Q_X7_put)] P_X7_readLiteral Q_X7_readLiteral := by sorry
theorem lg_X7_readLiteral : ∀ (As : List AvC) (σ : CsC), P_X7_readLiteral As σ → lgC As ≤ rX7_readLiteral.2.2.1 := by sorry
theorem m_X7_readLiteral (l : Launch) : CMetC l 12 177 P_X7_readLiteral Q_X7_readLiteral := by sorry
set_option maxRecDepth 100000 in
set_option maxHeartbeats 4000000 in
theorem b_X7_readCountAhead : TbC KX7_readCountAhead [(125, P_X7_code, Q_X7_code), (162, P_X7_opened, Q_X7_opened), (128, P_X7_accept, Q_X7_accept), (129, P_X7_expect, Q_X7_expect), (161, P_X7_put, Q_X7_put), (140, P_X7_meant, Q_X7_meant)] P_X7_readCountAhead Q_X7_readCountAhead := by sorry
theorem lg_X7_readCountAhead : ∀ (As : List AvC) (σ : CsC), P_X7_readCountAhead As σ → lgC As ≤ rX7_readCountAhead.2.2.1 := by sorry
theorem m_X7_readCountAhead (l : Launch) : CMetC l 13 173 P_X7_readCountAhead Q_X7_readCountAhead := by sorry
set_option maxRecDepth 100000 in
set_option maxHeartbeats 4000000 in
theorem b_X7_waitingFor : TbC KX7_waitingFor [(17, P_X1_init, Q_X1_init), (163, P_X7_putMark, Q_X7_putMark)] P_X7_waitingFor Q_X7_waitingFor := by sorry
theorem lg_X7_waitingFor : ∀ (As : List AvC) (σ : CsC), P_X7_waitingFor As σ → lgC As ≤ rX7_waitingFor.2.2.1 := by sorry
theorem m_X7_waitingFor (l : Launch) : CMetC l 13 168 P_X7_waitingFor Q_X7_waitingFor := by sorry
set_option maxRecDepth 100000 in
set_option maxHeartbeats 4000000 in
theorem b_X7_closed : TbC KX7_closed [(161, P_X7_put, Q_X7_put)] P_X7_closed Q_X7_closed := by sorry
theorem lg_X7_closed : ∀ (As : List AvC) (σ : CsC), P_X7_closed As σ → lgC As ≤ rX7_closed.2.2.1 := by sorry
theorem m_X7_closed (l : Launch) : CMetC l 12 169 P_X7_closed Q_X7_closed := by sorry
set_option maxRecDepth 100000 in
set_option maxHeartbeats 4000000 in
theorem b_X7_readCall (d : Nat) : TbC KX7_readCall [(162, P_X7_opened, Q_X7_opened), (128, P_X7_accept, Q_X7_accept), (131, P_X7_isTooDeep, Q_X7_isTooDeep), (125, P_X7_code, Q_X7_code), (129, P_X7_expect, Q_X7_expect), (161, P_X7_put, Q_X7_put), (164, (P_X7_readExp d), (Q_X7_readExp d)), (130, P_X7_takes, Q_X7_takes)] (P_X7_readCall (d + 1)) (Q_X7_readCall (d + 1)) := by sorry
theorem lg_X7_readCall (d : Nat) : ∀ (As : List AvC) (σ : CsC), (P_X7_readCall (d + 1)) As σ → lgC As ≤ rX7_readCall.2.2.1 := by sorry
theorem s_X7_readCall (l : Launch) (d : Nat) (h_X7_readExp : CMetC l (13 * d + 36) 164 (P_X7_readExp d) (Q_X7_readExp d)) : CMetC l (13 * (d + 1) + 31) 176 (P_X7_readCall (d + 1)) (Q_X7_readCall (d + 1)) := by sorry
set_option maxRecDepth 100000 in
set_option maxHeartbeats 4000000 in
theorem b_X7_readAlone (d : Nat) : TbC KX7_readAlone [(125, P_X7_code, Q_X7_code), (162, P_X7_opened, Q_X7_opened), (128, P_X7_accept, Q_X7_accept), (171, (P_X7_readInnerOperand d), (Q_X7_readInnerOperand d)), (161, P_X7_put, Q_X7_put)] (P_X7_readAlone (d + 1)) (Q_X7_readAlone (d + 1)) := by sorry
theorem lg_X7_readAlone (d : Nat) : ∀ (As : List AvC) (σ : CsC), (P_X7_readAlone (d + 1)) As σ → lgC As ≤ rX7_readAlone.2.2.1 := by sorry
theorem s_X7_readAlone (l : Launch) (d : Nat) (h_X7_readInnerOperand : CMetC l (13 * d + 34) 171 (P_X7_readInnerOperand d) (Q_X7_readInnerOperand d)) : CMetC l (13 * (d + 1) + 31) 172 (P_X7_readAlone (d + 1)) (Q_X7_readAlone (d + 1)) := by sorry
set_option maxRecDepth 100000 in
set_option maxHeartbeats 4000000 in
theorem b_X7_readBehindOpen (d : Nat) : TbC KX7_readBehindOpen [(234, P_Jx4a65c_size_8abf5, Q_Jx4a65c_size_8abf5), (128, P_X7_accept, Q_X7_accept), (125, P_X7_code, Q_X7_code), (132, P_X7_isType, Q_X7_isType), (17, P_X1_init, Q_X1_init), (164, (P_X7_readExp d), (Q_X7_readExp d)), (129, P_X7_expect, Q_X7_expect), (161, P_X7_put, Q_X7_put), (136, P_X7_readType, Q_X7_readType), (171, (P_X7_readInnerOperand d), (Q_X7_readInnerOperand d))] (P_X7_readBehindOpen (d + 1)) (Q_X7_readBehindOpen (d + 1)) := by sorry
theorem lg_X7_readBehindOpen (d : Nat) : ∀ (As : List AvC) (σ : CsC), (P_X7_readBehindOpen (d + 1)) As σ → lgC As ≤ rX7_readBehindOpen.2.2.1 := by sorry
theorem s_X7_readBehindOpen (l : Launch) (d : Nat) (h_X7_readExp : CMetC l (13 * d + 36) 164 (P_X7_readExp d) (Q_X7_readExp d)) (h_X7_readInnerOperand : CMetC l (13 * d + 34) 171 (P_X7_readInnerOperand d) (Q_X7_readInnerOperand d)) : CMetC l (13 * (d + 1) + 31) 174 (P_X7_readBehindOpen (d + 1)) (Q_X7_readBehindOpen (d + 1)) := by sorry
set_option maxRecDepth 100000 in
set_option maxHeartbeats 4000000 in
theorem b_X7_readName (d : Nat) : TbC KX7_readName [(126, P_X7_codeBehind, Q_X7_codeBehind), (162, P_X7_opened, Q_X7_opened), (140, P_X7_meant, Q_X7_meant), (128, P_X7_accept, Q_X7_accept), (161, P_X7_put, Q_X7_put), (176, (P_X7_readCall d), (Q_X7_readCall d))] (P_X7_readName d) (Q_X7_readName d) := by sorry
theorem lg_X7_readName (d : Nat) : ∀ (As : List AvC) (σ : CsC), (P_X7_readName d) As σ → lgC As ≤ rX7_readName.2.2.1 := by sorry
theorem s_X7_readName (l : Launch) (d : Nat) (h_X7_readCall : CMetC l (13 * d + 31) 176 (P_X7_readCall d) (Q_X7_readCall d)) : CMetC l (13 * d + 32) 175 (P_X7_readName d) (Q_X7_readName d) := by sorry
set_option maxRecDepth 100000 in
set_option maxHeartbeats 4000000 in
theorem b_X7_readInnerOperand (d : Nat) : TbC KX7_readInnerOperand [(131, P_X7_isTooDeep, Q_X7_isTooDeep), (170, (P_X7_readOperand d), (Q_X7_readOperand d)), (162, P_X7_opened, Q_X7_opened)] (P_X7_readInnerOperand d) (Q_X7_readInnerOperand d) := by sorry
theorem lg_X7_readInnerOperand (d : Nat) : ∀ (As : List AvC) (σ : CsC), (P_X7_readInnerOperand d) As σ → lgC As ≤ rX7_readInnerOperand.2.2.1 := by sorry
theorem s_X7_readInnerOperand (l : Launch) (d : Nat) (h_X7_readOperand : CMetC l (13 * d + 33) 170 (P_X7_readOperand d) (Q_X7_readOperand d)) : CMetC l (13 * d + 34) 171 (P_X7_readInnerOperand d) (Q_X7_readInnerOperand d) := by sorry
set_option maxRecDepth 100000 in
set_option maxHeartbeats 4000000 in
theorem b_X7_readOperand (d : Nat) : TbC KX7_readOperand [(125, P_X7_code, Q_X7_code), (174, (P_X7_readBehindOpen d), (Q_X7_readBehindOpen d)), (172, (P_X7_readAlone d), (Q_X7_readAlone d)), (173, P_X7_readCountAhead, Q_X7_readCountAhead), (177, P_X7_readLiteral, Q_X7_readLiteral), (175, (P_X7_readName d), (Q_X7_readName d)), (127, P_X7_raise, Q_X7_raise), (162, P_X7_opened, Q_X7_opened)] (P_X7_readOperand d) (Q_X7_readOperand d) := by sorry
theorem lg_X7_readOperand (d : Nat) : ∀ (As : List AvC) (σ : CsC), (P_X7_readOperand d) As σ → lgC As ≤ rX7_readOperand.2.2.1 := by sorry
theorem s_X7_readOperand (l : Launch) (d : Nat) (h_X7_readBehindOpen : CMetC l (13 * d + 31) 174 (P_X7_readBehindOpen d) (Q_X7_readBehindOpen d)) (h_X7_readAlone : CMetC l (13 * d + 31) 172 (P_X7_readAlone d) (Q_X7_readAlone d)) (h_X7_readName : CMetC l (13 * d + 32) 175 (P_X7_readName d) (Q_X7_readName d)) : CMetC l (13 * d + 33) 170 (P_X7_readOperand d) (Q_X7_readOperand d) := by sorry
set_option maxRecDepth 100000 in
set_option maxHeartbeats 4000000 in
theorem b_X7_readChoice (d : Nat) : TbC KX7_readChoice [(234, P_Jx4a65c_size_8abf5, Q_Jx4a65c_size_8abf5), (167, (P_X7_readChain (d + 1)), (Q_X7_readChain (d + 1))), (125, P_X7_code, Q_X7_code), (17, P_X1_init, Q_X1_init), (163, P_X7_putMark, Q_X7_putMark), (128, P_X7_accept, Q_X7_accept), (164, (P_X7_readExp d), (Q_X7_readExp d)), (129, P_X7_expect, Q_X7_expect), (131, P_X7_isTooDeep, Q_X7_isTooDeep), (166, (P_X7_readChoice d), (Q_X7_readChoice d)), (161, P_X7_put, Q_X7_put), (162, P_X7_opened, Q_X7_opened)] (P_X7_readChoice (d + 1)) (Q_X7_readChoice (d + 1)) := by sorry
theorem lg_X7_readChoice (d : Nat) : ∀ (As : List AvC) (σ : CsC), (P_X7_readChoice (d + 1)) As σ → lgC As ≤ rX7_readChoice.2.2.1 := by sorry
theorem s_X7_readChoice (l : Launch) (d : Nat) (h_X7_readChain : CMetC l (13 * (d + 1) + 34) 167 (P_X7_readChain (d + 1)) (Q_X7_readChain (d + 1))) (h_X7_readExp : CMetC l (13 * d + 36) 164 (P_X7_readExp d) (Q_X7_readExp d)) (h_X7_readChoice : CMetC l (13 * d + 35) 166 (P_X7_readChoice d) (Q_X7_readChoice d)) : CMetC l (13 * (d + 1) + 35) 166 (P_X7_readChoice (d + 1)) (Q_X7_readChoice (d + 1)) := by sorry
set_option maxRecDepth 100000 in
set_option maxHeartbeats 4000000 in
theorem b_X7_readAssignment (d : Nat) : TbC KX7_readAssignment [(126, P_X7_codeBehind, Q_X7_codeBehind), (226, P_X11_operatorOf, Q_X11_operatorOf), (162, P_X7_opened, Q_X7_opened), (140, P_X7_meant, Q_X7_meant), (128, P_X7_accept, Q_X7_accept), (164, (P_X7_readExp d), (Q_X7_readExp d)), (161, P_X7_put, Q_X7_put), (163, P_X7_putMark, Q_X7_putMark)] (P_X7_readAssignment (d + 1)) (Q_X7_readAssignment (d + 1)) := by sorry
theorem lg_X7_readAssignment (d : Nat) : ∀ (As : List AvC) (σ : CsC), (P_X7_readAssignment (d + 1)) As σ → lgC As ≤ rX7_readAssignment.2.2.1 := by sorry
theorem s_X7_readAssignment (l : Launch) (d : Nat) (h_X7_readExp : CMetC l (13 * d + 36) 164 (P_X7_readExp d) (Q_X7_readExp d)) : CMetC l (13 * (d + 1) + 35) 165 (P_X7_readAssignment (d + 1)) (Q_X7_readAssignment (d + 1)) := by sorry
set_option maxRecDepth 100000 in
set_option maxHeartbeats 4000000 in
theorem b_X7_readExp (d : Nat) : TbC KX7_readExp [(131, P_X7_isTooDeep, Q_X7_isTooDeep), (125, P_X7_code, Q_X7_code), (166, (P_X7_readChoice d), (Q_X7_readChoice d)), (126, P_X7_codeBehind, Q_X7_codeBehind), (133, P_X7_isAssign, Q_X7_isAssign), (165, (P_X7_readAssignment d), (Q_X7_readAssignment d)), (162, P_X7_opened, Q_X7_opened)] (P_X7_readExp d) (Q_X7_readExp d) := by sorry
theorem lg_X7_readExp (d : Nat) : ∀ (As : List AvC) (σ : CsC), (P_X7_readExp d) As σ → lgC As ≤ rX7_readExp.2.2.1 := by sorry
theorem s_X7_readExp (l : Launch) (d : Nat) (h_X7_readChoice : CMetC l (13 * d + 35) 166 (P_X7_readChoice d) (Q_X7_readChoice d)) (h_X7_readAssignment : CMetC l (13 * d + 35) 165 (P_X7_readAssignment d) (Q_X7_readAssignment d)) : CMetC l (13 * d + 36) 164 (P_X7_readExp d) (Q_X7_readExp d) := by sorry
set_option maxRecDepth 100000 in
set_option maxHeartbeats 4000000 in
theorem b_X7_readChain (d : Nat) : TbC KX7_readChain [(170, (P_X7_readOperand d), (Q_X7_readOperand d)), (125, P_X7_code, Q_X7_code), (225, P_X11_strength, Q_X11_strength), (168, P_X7_waitingFor, Q_X7_waitingFor), (128, P_X7_accept, Q_X7_accept), (169, P_X7_closed, Q_X7_closed)] (P_X7_readChain d) (Q_X7_readChain d) := by sorry
theorem lg_X7_readChain (d : Nat) : ∀ (As : List AvC) (σ : CsC), (P_X7_readChain d) As σ → lgC As ≤ rX7_readChain.2.2.1 := by sorry
theorem s_X7_readChain (l : Launch) (d : Nat) (h_X7_readOperand : CMetC l (13 * d + 33) 170 (P_X7_readOperand d) (Q_X7_readOperand d)) : CMetC l (13 * d + 34) 167 (P_X7_readChain d) (Q_X7_readChain d) := by sorry
abbrev P_X8_init6 : CpC := fun As σ => ∃ (p0 : Nat) (p1 : Int32) (p2 : Int32) (p3 : Int32) (p4 : Option Nat) (p5 : Int64), As = [.inr (.inr (some p0)), .inl p1, .inl p2, .inl p3, .inr (.inr p4), .inr (.inl p5)] ∧ HIC σ ∧ RawC σ p0 9 ∧ ZrC σ p0 ∧ 0 ≤ p2.toInt ∧ p2.toInt ≤ 502 ∧ 0 ≤ p3.toInt ∧ p3.toInt ≤ 22 ∧ OtC σ p4 9 ∧ cnC σ + 0 ≤ cpC σ ∧ slC σ + 0 ≤ spC σ ∧ p1.toInt = 6 ∧ (∀ b, p4 = some b → b < p0)
abbrev Q_X8_init6 : CqC := fun As σ w τ => match As with
  | [.inr (.inr (some p0)), .inl p1, .inl p2, .inl p3, .inr (.inr p4), .inr (.inl p5)] => w = none ∧ (HI0 τ ∧ LbC τ (some p0)) ∧ ExT p0 [] σ τ ∧ TyC τ p0 9 ∧ ghC τ p0 = ghC σ p0 ∧ cnC τ = cnC σ + 0 ∧ slC τ = slC σ + 0 ∧ GwC none σ τ ∧ (fIC τ p0 270 = p1) ∧ (fIC τ p0 272 = p3)
  | _ => False
set_option maxRecDepth 100000 in
set_option maxHeartbeats 4000000 in
theorem b_X8_init6 : TbC KX8_init [] P_X8_init6 Q_X8_init6 := by sorry
theorem lg_X8_init6 : ∀ (As : List AvC) (σ : CsC), P_X8_init6 As σ → lgC As ≤ rX8_init.2.2.1 := by sorry
theorem m_X8_init6 (l : Launch) : CMetC l 1 178 P_X8_init6 Q_X8_init6 := by sorry
abbrev P_X7_begin6 : CpC := fun As σ => ∃ (p0 : Nat) (p1 : Int32) (p2 : Int32), As = [.inr (.inr (some p0)), .inl p1, .inl p2] ∧ HIC σ ∧ TyC σ p0 8 ∧ 0 ≤ p2.toInt ∧ p2.toInt ≤ 22 ∧ CdC σ p0 ∧ (fIC σ p0 242).toInt ≤ CtC σ p0 ∧ BgC σ p0 (2) (2) ∧ p1.toInt = 6
abbrev Q_X7_begin6 : CqC := fun As σ w τ => match As with
  | [.inr (.inr (some p0)), .inl p1, .inl p2] => ∃ r : Nat, w = some (.inr (.inr (some r))) ∧ (HI0 τ ∧ LbC τ (some r)) ∧ ExC [0, 1, 2, 270, 271, 272, 273, 280, 999] σ τ ∧ TyC τ r 9 ∧ RdC p0 none (2) (2) (2) σ τ ∧ (cnC σ ≤ r) ∧ (fIC τ r 270 = p1) ∧ (fIC τ r 272 = p2) ∧ (∀ s, ReC σ p0 s → ReC τ p0 ( s))
  | _ => False
set_option maxRecDepth 100000 in
set_option maxHeartbeats 4000000 in
theorem b_X7_begin6 : TbC KX7_begin [(178, P_X8_init6, Q_X8_init6), (236, P_add6, Q_add6)] P_X7_begin6 Q_X7_begin6 := by sorry
theorem lg_X7_begin6 : ∀ (As : List AvC) (σ : CsC), P_X7_begin6 As σ → lgC As ≤ rX7_begin.2.2.1 := by sorry
theorem m_X7_begin6 (l : Launch) : CMetC l 11 142 P_X7_begin6 Q_X7_begin6 := by sorry
abbrev P_X7_readCondition (n : Nat) : CpC := fun As σ => ∃ (p0 : Nat) (p1 : Nat) (p2 : Int32), As = [.inr (.inr (some p0)), .inr (.inr (some p1)), .inl p2] ∧ HIC σ ∧ TyC σ p0 8 ∧ TyC σ p1 9 ∧ 0 ≤ p2.toInt ∧ p2.toInt ≤ 20 ∧ CdC σ p0 ∧ (fIC σ p0 242).toInt ≤ CtC σ p0 ∧ BgC σ p0 (20 + 8 * (n : Int)) (1) ∧ p2.toInt + (n : Int) = 21
abbrev Q_X7_readCondition (n : Nat) : CqC := fun As σ w τ => match As with
  | [.inr (.inr (some p0)), .inr (.inr (some p1)), .inl p2] => w = none ∧ HIC τ ∧ ExC [0, 1, 2, 60, 61, 62, 63, 64, 65, 66, 67, 68, 69, 70, 72, 73, 74, 75, 76, 242, 243, 244, 279, 999] σ τ ∧ RdC p0 none (0) (20 + 8 * (n : Int)) (1) σ τ ∧ (∀ s, ReC σ p0 s → ReC τ p0 (cndY n s))
  | _ => False
abbrev P_X7_readExpStatement (n : Nat) : CpC := fun As σ => ∃ (p0 : Nat) (p1 : Int32), As = [.inr (.inr (some p0)), .inl p1] ∧ HIC σ ∧ TyC σ p0 8 ∧ 0 ≤ p1.toInt ∧ p1.toInt ≤ 21 ∧ CdC σ p0 ∧ (fIC σ p0 242).toInt ≤ CtC σ p0 ∧ BgC σ p0 (22 + 8 * (n : Int)) (3) ∧ p1.toInt + (n : Int) = 21
abbrev Q_X7_readExpStatement (n : Nat) : CqC := fun As σ w τ => match As with
  | [.inr (.inr (some p0)), .inl p1] => ∃ r : Nat, w = some (.inr (.inr (some r))) ∧ HIC τ ∧ ExC [0, 1, 2, 60, 61, 62, 63, 64, 65, 66, 67, 68, 69, 70, 72, 73, 74, 75, 76, 242, 243, 244, 270, 271, 272, 273, 279, 280, 999] σ τ ∧ TyC τ r 9 ∧ RdC p0 none (0) (22 + 8 * (n : Int)) (3) σ τ ∧ (cnC σ ≤ r) ∧ ((fIC τ r 272).toInt = p1.toInt) ∧ ((fIC τ r 270).toInt ≤ 92) ∧ (∀ s, ReC σ p0 s → ReC τ p0 (xstY n s))
  | _ => False
abbrev P_X7_readVariable (n : Nat) : CpC := fun As σ => ∃ (p0 : Nat) (p1 : Int32) (p2 : Int32), As = [.inr (.inr (some p0)), .inl p1, .inl p2] ∧ HIC σ ∧ TyC σ p0 8 ∧ 91 ≤ p1.toInt ∧ p1.toInt ≤ 93 ∧ 0 ≤ p2.toInt ∧ p2.toInt ≤ 20 ∧ CdC σ p0 ∧ (fIC σ p0 242).toInt ≤ CtC σ p0 ∧ RmC σ p0 (8 * (501 - (fIC σ p0 242).toInt) + (23 + 8 * (n : Int))) ∧ (fIC σ p0 243).toInt = 0 ∧ p2.toInt + (n : Int) = 21
abbrev Q_X7_readVariable (n : Nat) : CqC := fun As σ w τ => match As with
  | [.inr (.inr (some p0)), .inl p1, .inl p2] => ∃ r : Nat, w = some (.inr (.inr (some r))) ∧ HIC τ ∧ ExC [0, 1, 2, 60, 61, 62, 63, 64, 65, 66, 67, 68, 69, 70, 72, 73, 74, 75, 76, 242, 243, 244, 270, 271, 272, 273, 279, 280, 330, 331, 332, 333, 334, 999] σ τ ∧ TyC τ r 9 ∧ RdC p0 none (0) (23 + 8 * (n : Int)) (0) σ τ ∧ (cnC σ ≤ r) ∧ ((fIC τ r 272).toInt = p2.toInt) ∧ ((fIC τ r 270).toInt = p1.toInt) ∧ (∀ s, ReC σ p0 s → ReC τ p0 (varY n s))
  | _ => False
abbrev P_X7_readForExps (n : Nat) : CpC := fun As σ => ∃ (p0 : Nat) (p1 : Int32), As = [.inr (.inr (some p0)), .inl p1] ∧ HIC σ ∧ TyC σ p0 8 ∧ 0 ≤ p1.toInt ∧ p1.toInt ≤ 20 ∧ CdC σ p0 ∧ (fIC σ p0 242).toInt ≤ CtC σ p0 ∧ BgC σ p0 (22 + 8 * (n : Int)) (3) ∧ p1.toInt + (n : Int) = 21
abbrev Q_X7_readForExps (n : Nat) : CqC := fun As σ w τ => match As with
  | [.inr (.inr (some p0)), .inl p1] => ∃ r : Nat, w = some (.inr (.inr (some r))) ∧ HIC τ ∧ ExC [0, 1, 2, 60, 61, 62, 63, 64, 65, 66, 67, 68, 69, 70, 72, 73, 74, 75, 76, 242, 243, 244, 270, 271, 272, 273, 275, 279, 280, 999] σ τ ∧ TyC τ r 9 ∧ RdC p0 none (2) (22 + 8 * (n : Int)) (3) σ τ ∧ (cnC σ ≤ r) ∧ ((fIC τ r 272).toInt = p1.toInt) ∧ ((fIC τ r 270).toInt = 94) ∧ (∀ s, ReC σ p0 s → ReC τ p0 (fexY n s))
  | _ => False
abbrev P_X7_readCase (n : Nat) : CpC := fun As σ => ∃ (p0 : Nat) (p1 : Int32), As = [.inr (.inr (some p0)), .inl p1] ∧ HIC σ ∧ TyC σ p0 8 ∧ 0 ≤ p1.toInt ∧ p1.toInt ≤ 20 ∧ CdC σ p0 ∧ (fIC σ p0 242).toInt ≤ CtC σ p0 ∧ RmC σ p0 (8 * (501 - (fIC σ p0 242).toInt) + (24 + 8 * (n : Int))) ∧ (fIC σ p0 243).toInt = 0 ∧ ((fIC σ p0 243).toInt = 0 → (fIC σ p0 242).toInt + 1 ≤ CtC σ p0) ∧ p1.toInt + (n : Int) = 21 ∧ (CkC2 σ p0 = 62 ∨ CkC2 σ p0 = 63)
abbrev Q_X7_readCase (n : Nat) : CqC := fun As σ w τ => match As with
  | [.inr (.inr (some p0)), .inl p1] => ∃ r : Nat, w = some (.inr (.inr (some r))) ∧ HIC τ ∧ ExC [0, 1, 2, 60, 61, 62, 63, 64, 65, 66, 67, 68, 69, 70, 72, 73, 74, 75, 76, 242, 243, 244, 270, 271, 272, 273, 279, 280, 999] σ τ ∧ TyC τ r 9 ∧ RdC p0 none (0) (24 + 8 * (n : Int)) (0) σ τ ∧ (cnC σ ≤ r) ∧ ((fIC τ r 272).toInt = p1.toInt) ∧ ((fIC τ r 270).toInt ≤ 92) ∧ (∀ s, ReC σ p0 s → ReC τ p0 (casY n s))
  | _ => False
abbrev P_X7_readInner (n : Nat) : CpC := fun As σ => ∃ (p0 : Nat) (p1 : Nat) (p2 : Int32), As = [.inr (.inr (some p0)), .inr (.inr (some p1)), .inl p2] ∧ HIC σ ∧ TyC σ p0 8 ∧ TyC σ p1 9 ∧ 0 ≤ p2.toInt ∧ p2.toInt ≤ 20 ∧ CdC σ p0 ∧ (fIC σ p0 242).toInt ≤ CtC σ p0 ∧ BgC σ p0 (16 + 8 * (n : Int)) (3) ∧ p2.toInt + (n : Int) = 21
abbrev Q_X7_readInner (n : Nat) : CqC := fun As σ w τ => match As with
  | [.inr (.inr (some p0)), .inr (.inr (some p1)), .inl p2] => ∃ r : Nat, w = some (.inr (.inr (some r))) ∧ HIC τ ∧ ExC [0, 1, 2, 60, 61, 62, 63, 64, 65, 66, 67, 68, 69, 70, 72, 73, 74, 75, 76, 242, 243, 244, 246, 270, 271, 272, 273, 275, 276, 277, 278, 279, 280, 330, 331, 332, 333, 334, 999] σ τ ∧ TyC τ r 9 ∧ RdC p0 none (0) (16 + 8 * (n : Int)) (3) σ τ ∧ (cnC σ ≤ r) ∧ ((fIC τ r 272).toInt = p2.toInt + 1) ∧ ((fIC τ r 270).toInt ≤ 92) ∧ (∀ s, ReC σ p0 s → ReC τ p0 (stY (n - 1) s))
  | _ => False
abbrev P_X7_readBlock (n : Nat) : CpC := fun As σ => ∃ (p0 : Nat) (p1 : Nat) (p2 : Int32), As = [.inr (.inr (some p0)), .inr (.inr (some p1)), .inl p2] ∧ HIC σ ∧ TyC σ p0 8 ∧ TyC σ p1 9 ∧ 0 ≤ p2.toInt ∧ p2.toInt ≤ 20 ∧ CdC σ p0 ∧ (fIC σ p0 242).toInt ≤ CtC σ p0 ∧ BgC σ p0 (16 + 8 * (n : Int)) (0) ∧ p2.toInt + (n : Int) = 21 ∧ ¬ (fIC σ p1 270).toInt = 68 ∧ (fIC σ p1 272).toInt = p2.toInt
abbrev Q_X7_readBlock (n : Nat) : CqC := fun As σ w τ => match As with
  | [.inr (.inr (some p0)), .inr (.inr (some p1)), .inl p2] => w = none ∧ HIC τ ∧ ExC [0, 1, 2, 60, 61, 62, 63, 64, 65, 66, 67, 68, 69, 70, 72, 73, 74, 75, 76, 242, 243, 244, 246, 270, 271, 272, 273, 275, 276, 277, 278, 279, 280, 330, 331, 332, 333, 334, 999] σ τ ∧ RdC p0 none (-8) (16 + 8 * (n : Int)) (0) σ τ ∧ (∀ s, ReC σ p0 s → ReC τ p0 (blkY (rwY (n - 1)) s))
  | _ => False
abbrev P_X7_readBody (n : Nat) : CpC := fun As σ => ∃ (p0 : Nat) (p1 : Int32), As = [.inr (.inr (some p0)), .inl p1] ∧ HIC σ ∧ TyC σ p0 8 ∧ 0 ≤ p1.toInt ∧ p1.toInt ≤ 20 ∧ CdC σ p0 ∧ (fIC σ p0 242).toInt ≤ CtC σ p0 ∧ BgC σ p0 (18 + 8 * (n : Int)) (2) ∧ p1.toInt + (n : Int) = 21
abbrev Q_X7_readBody (n : Nat) : CqC := fun As σ w τ => match As with
  | [.inr (.inr (some p0)), .inl p1] => ∃ r : Nat, w = some (.inr (.inr (some r))) ∧ HIC τ ∧ ExC [0, 1, 2, 60, 61, 62, 63, 64, 65, 66, 67, 68, 69, 70, 72, 73, 74, 75, 76, 242, 243, 244, 246, 270, 271, 272, 273, 275, 276, 277, 278, 279, 280, 330, 331, 332, 333, 334, 999] σ τ ∧ TyC τ r 9 ∧ RdC p0 none (-6) (18 + 8 * (n : Int)) (2) σ τ ∧ (cnC σ ≤ r) ∧ ((fIC τ r 272).toInt = p1.toInt) ∧ ((fIC τ r 270).toInt = 92) ∧ (∀ s, ReC σ p0 s → ReC τ p0 (blkY (rwY (n - 1)) s))
  | _ => False
abbrev P_X7_readIf (n : Nat) : CpC := fun As σ => ∃ (p0 : Nat) (p1 : Int32), As = [.inr (.inr (some p0)), .inl p1] ∧ HIC σ ∧ TyC σ p0 8 ∧ 0 ≤ p1.toInt ∧ p1.toInt ≤ 20 ∧ CdC σ p0 ∧ (fIC σ p0 242).toInt ≤ CtC σ p0 ∧ RmC σ p0 (8 * (501 - (fIC σ p0 242).toInt) + (24 + 8 * (n : Int))) ∧ (fIC σ p0 243).toInt = 0 ∧ ((fIC σ p0 243).toInt = 0 → (fIC σ p0 242).toInt + 1 ≤ CtC σ p0) ∧ p1.toInt + (n : Int) = 21
abbrev Q_X7_readIf (n : Nat) : CqC := fun As σ w τ => match As with
  | [.inr (.inr (some p0)), .inl p1] => ∃ r : Nat, w = some (.inr (.inr (some r))) ∧ HIC τ ∧ ExC [0, 1, 2, 60, 61, 62, 63, 64, 65, 66, 67, 68, 69, 70, 72, 73, 74, 75, 76, 242, 243, 244, 246, 270, 271, 272, 273, 275, 276, 277, 278, 279, 280, 330, 331, 332, 333, 334, 999] σ τ ∧ TyC τ r 9 ∧ RdC p0 none (0) (24 + 8 * (n : Int)) (0) σ τ ∧ (cnC σ ≤ r) ∧ ((fIC τ r 272).toInt = p1.toInt) ∧ ((fIC τ r 270).toInt ≤ 92) ∧ (∀ s, ReC σ p0 s → ReC τ p0 (ifY n (stY (n - 1)) s))
  | _ => False
abbrev P_X7_readWhile (n : Nat) : CpC := fun As σ => ∃ (p0 : Nat) (p1 : Int32), As = [.inr (.inr (some p0)), .inl p1] ∧ HIC σ ∧ TyC σ p0 8 ∧ 0 ≤ p1.toInt ∧ p1.toInt ≤ 20 ∧ CdC σ p0 ∧ (fIC σ p0 242).toInt ≤ CtC σ p0 ∧ RmC σ p0 (8 * (501 - (fIC σ p0 242).toInt) + (24 + 8 * (n : Int))) ∧ (fIC σ p0 243).toInt = 0 ∧ ((fIC σ p0 243).toInt = 0 → (fIC σ p0 242).toInt + 1 ≤ CtC σ p0) ∧ p1.toInt + (n : Int) = 21
abbrev Q_X7_readWhile (n : Nat) : CqC := fun As σ w τ => match As with
  | [.inr (.inr (some p0)), .inl p1] => ∃ r : Nat, w = some (.inr (.inr (some r))) ∧ HIC τ ∧ ExC [0, 1, 2, 60, 61, 62, 63, 64, 65, 66, 67, 68, 69, 70, 72, 73, 74, 75, 76, 242, 243, 244, 246, 270, 271, 272, 273, 275, 276, 277, 278, 279, 280, 330, 331, 332, 333, 334, 999] σ τ ∧ TyC τ r 9 ∧ RdC p0 none (0) (24 + 8 * (n : Int)) (0) σ τ ∧ (cnC σ ≤ r) ∧ ((fIC τ r 272).toInt = p1.toInt) ∧ ((fIC τ r 270).toInt ≤ 92) ∧ (∀ s, ReC σ p0 s → ReC τ p0 (whiY n (stY (n - 1)) s))
  | _ => False
abbrev P_X7_readDo (n : Nat) : CpC := fun As σ => ∃ (p0 : Nat) (p1 : Int32), As = [.inr (.inr (some p0)), .inl p1] ∧ HIC σ ∧ TyC σ p0 8 ∧ 0 ≤ p1.toInt ∧ p1.toInt ≤ 20 ∧ CdC σ p0 ∧ (fIC σ p0 242).toInt ≤ CtC σ p0 ∧ RmC σ p0 (8 * (501 - (fIC σ p0 242).toInt) + (24 + 8 * (n : Int))) ∧ (fIC σ p0 243).toInt = 0 ∧ ((fIC σ p0 243).toInt = 0 → (fIC σ p0 242).toInt + 1 ≤ CtC σ p0) ∧ p1.toInt + (n : Int) = 21
abbrev Q_X7_readDo (n : Nat) : CqC := fun As σ w τ => match As with
  | [.inr (.inr (some p0)), .inl p1] => ∃ r : Nat, w = some (.inr (.inr (some r))) ∧ HIC τ ∧ ExC [0, 1, 2, 60, 61, 62, 63, 64, 65, 66, 67, 68, 69, 70, 72, 73, 74, 75, 76, 242, 243, 244, 246, 270, 271, 272, 273, 275, 276, 277, 278, 279, 280, 330, 331, 332, 333, 334, 999] σ τ ∧ TyC τ r 9 ∧ RdC p0 none (0) (24 + 8 * (n : Int)) (0) σ τ ∧ (cnC σ ≤ r) ∧ ((fIC τ r 272).toInt = p1.toInt) ∧ ((fIC τ r 270).toInt ≤ 92) ∧ (∀ s, ReC σ p0 s → ReC τ p0 (doY n (stY (n - 1)) s))
  | _ => False
abbrev P_X7_readFor (n : Nat) : CpC := fun As σ => ∃ (p0 : Nat) (p1 : Int32), As = [.inr (.inr (some p0)), .inl p1] ∧ HIC σ ∧ TyC σ p0 8 ∧ 0 ≤ p1.toInt ∧ p1.toInt ≤ 20 ∧ CdC σ p0 ∧ (fIC σ p0 242).toInt ≤ CtC σ p0 ∧ RmC σ p0 (8 * (501 - (fIC σ p0 242).toInt) + (24 + 8 * (n : Int))) ∧ (fIC σ p0 243).toInt = 0 ∧ ((fIC σ p0 243).toInt = 0 → (fIC σ p0 242).toInt + 1 ≤ CtC σ p0) ∧ p1.toInt + (n : Int) = 21
abbrev Q_X7_readFor (n : Nat) : CqC := fun As σ w τ => match As with
  | [.inr (.inr (some p0)), .inl p1] => ∃ r : Nat, w = some (.inr (.inr (some r))) ∧ HIC τ ∧ ExC [0, 1, 2, 60, 61, 62, 63, 64, 65, 66, 67, 68, 69, 70, 72, 73, 74, 75, 76, 242, 243, 244, 246, 270, 271, 272, 273, 275, 276, 277, 278, 279, 280, 330, 331, 332, 333, 334, 999] σ τ ∧ TyC τ r 9 ∧ RdC p0 none (0) (24 + 8 * (n : Int)) (0) σ τ ∧ (cnC σ ≤ r) ∧ ((fIC τ r 272).toInt = p1.toInt) ∧ ((fIC τ r 270).toInt ≤ 92) ∧ (∀ s, ReC σ p0 s → ReC τ p0 (forY n (stY (n - 1)) s))
  | _ => False
abbrev P_X7_readSwitch (n : Nat) : CpC := fun As σ => ∃ (p0 : Nat) (p1 : Int32), As = [.inr (.inr (some p0)), .inl p1] ∧ HIC σ ∧ TyC σ p0 8 ∧ 0 ≤ p1.toInt ∧ p1.toInt ≤ 20 ∧ CdC σ p0 ∧ (fIC σ p0 242).toInt ≤ CtC σ p0 ∧ RmC σ p0 (8 * (501 - (fIC σ p0 242).toInt) + (24 + 8 * (n : Int))) ∧ (fIC σ p0 243).toInt = 0 ∧ ((fIC σ p0 243).toInt = 0 → (fIC σ p0 242).toInt + 1 ≤ CtC σ p0) ∧ p1.toInt + (n : Int) = 21
abbrev Q_X7_readSwitch (n : Nat) : CqC := fun As σ w τ => match As with
  | [.inr (.inr (some p0)), .inl p1] => ∃ r : Nat, w = some (.inr (.inr (some r))) ∧ HIC τ ∧ ExC [0, 1, 2, 60, 61, 62, 63, 64, 65, 66, 67, 68, 69, 70, 72, 73, 74, 75, 76, 242, 243, 244, 246, 270, 271, 272, 273, 275, 276, 277, 278, 279, 280, 330, 331, 332, 333, 334, 999] σ τ ∧ TyC τ r 9 ∧ RdC p0 none (0) (24 + 8 * (n : Int)) (0) σ τ ∧ (cnC σ ≤ r) ∧ ((fIC τ r 272).toInt = p1.toInt) ∧ ((fIC τ r 270).toInt ≤ 92) ∧ (∀ s, ReC σ p0 s → ReC τ p0 (swiY n (rwY (n - 1)) s))
  | _ => False
abbrev P_X7_readSimple (n : Nat) : CpC := fun As σ => ∃ (p0 : Nat) (p1 : Int32), As = [.inr (.inr (some p0)), .inl p1] ∧ HIC σ ∧ TyC σ p0 8 ∧ 0 ≤ p1.toInt ∧ p1.toInt ≤ 20 ∧ CdC σ p0 ∧ (fIC σ p0 242).toInt ≤ CtC σ p0 ∧ RmC σ p0 (8 * (501 - (fIC σ p0 242).toInt) + (24 + 8 * (n : Int))) ∧ (fIC σ p0 243).toInt = 0 ∧ ((fIC σ p0 243).toInt = 0 → (fIC σ p0 242).toInt + 1 ≤ CtC σ p0) ∧ p1.toInt + (n : Int) = 21 ∧ (CkC2 σ p0 = 2 ∨ CkC2 σ p0 = 4 ∨ (64 ≤ CkC2 σ p0 ∧ CkC2 σ p0 ≤ 67))
abbrev Q_X7_readSimple (n : Nat) : CqC := fun As σ w τ => match As with
  | [.inr (.inr (some p0)), .inl p1] => ∃ r : Nat, w = some (.inr (.inr (some r))) ∧ HIC τ ∧ ExC [0, 1, 2, 60, 61, 62, 63, 64, 65, 66, 67, 68, 69, 70, 72, 73, 74, 75, 76, 242, 243, 244, 246, 270, 271, 272, 273, 275, 276, 277, 278, 279, 280, 330, 331, 332, 333, 334, 999] σ τ ∧ TyC τ r 9 ∧ RdC p0 none (0) (24 + 8 * (n : Int)) (0) σ τ ∧ (cnC σ ≤ r) ∧ ((fIC τ r 272).toInt = p1.toInt) ∧ ((fIC τ r 270).toInt ≤ 92) ∧ (∀ s, ReC σ p0 s → ReC τ p0 (simY n (rwY (n - 1)) s))
  | _ => False
abbrev P_X7_readLabel (n : Nat) : CpC := fun As σ => ∃ (p0 : Nat) (p1 : Int32), As = [.inr (.inr (some p0)), .inl p1] ∧ HIC σ ∧ TyC σ p0 8 ∧ 0 ≤ p1.toInt ∧ p1.toInt ≤ 20 ∧ CdC σ p0 ∧ (fIC σ p0 242).toInt ≤ CtC σ p0 ∧ RmC σ p0 (8 * (501 - (fIC σ p0 242).toInt) + (24 + 8 * (n : Int))) ∧ (fIC σ p0 243).toInt = 0 ∧ ((fIC σ p0 243).toInt = 0 → (fIC σ p0 242).toInt + 1 ≤ CtC σ p0) ∧ p1.toInt + (n : Int) = 21
abbrev Q_X7_readLabel (n : Nat) : CqC := fun As σ w τ => match As with
  | [.inr (.inr (some p0)), .inl p1] => ∃ r : Nat, w = some (.inr (.inr (some r))) ∧ HIC τ ∧ ExC [0, 1, 2, 60, 61, 62, 63, 64, 65, 66, 67, 68, 69, 70, 72, 73, 74, 75, 76, 242, 243, 244, 246, 270, 271, 272, 273, 275, 276, 277, 278, 279, 280, 330, 331, 332, 333, 334, 999] σ τ ∧ TyC τ r 9 ∧ RdC p0 none (0) (24 + 8 * (n : Int)) (0) σ τ ∧ (cnC σ ≤ r) ∧ ((fIC τ r 272).toInt = p1.toInt) ∧ ((fIC τ r 270).toInt ≤ 92) ∧ (∀ s, ReC σ p0 s → ReC τ p0 (labY (stY (n - 1)) s))
  | _ => False
abbrev P_X7_readTry (n : Nat) : CpC := fun As σ => ∃ (p0 : Nat) (p1 : Int32), As = [.inr (.inr (some p0)), .inl p1] ∧ HIC σ ∧ TyC σ p0 8 ∧ 0 ≤ p1.toInt ∧ p1.toInt ≤ 20 ∧ CdC σ p0 ∧ (fIC σ p0 242).toInt ≤ CtC σ p0 ∧ RmC σ p0 (8 * (501 - (fIC σ p0 242).toInt) + (24 + 8 * (n : Int))) ∧ (fIC σ p0 243).toInt = 0 ∧ ((fIC σ p0 243).toInt = 0 → (fIC σ p0 242).toInt + 1 ≤ CtC σ p0) ∧ p1.toInt + (n : Int) = 21
abbrev Q_X7_readTry (n : Nat) : CqC := fun As σ w τ => match As with
  | [.inr (.inr (some p0)), .inl p1] => ∃ r : Nat, w = some (.inr (.inr (some r))) ∧ HIC τ ∧ ExC [0, 1, 2, 60, 61, 62, 63, 64, 65, 66, 67, 68, 69, 70, 72, 73, 74, 75, 76, 242, 243, 244, 246, 270, 271, 272, 273, 275, 276, 277, 278, 279, 280, 330, 331, 332, 333, 334, 999] σ τ ∧ TyC τ r 9 ∧ RdC p0 none (0) (24 + 8 * (n : Int)) (0) σ τ ∧ (cnC σ ≤ r) ∧ ((fIC τ r 272).toInt = p1.toInt) ∧ ((fIC τ r 270).toInt ≤ 92) ∧ (∀ s, ReC σ p0 s → ReC τ p0 (tryY (rwY (n - 1)) s))
  | _ => False
abbrev P_X7_readStatement (n : Nat) : CpC := fun As σ => ∃ (p0 : Nat) (p1 : Int32), As = [.inr (.inr (some p0)), .inl p1] ∧ HIC σ ∧ TyC σ p0 8 ∧ 0 ≤ p1.toInt ∧ p1.toInt ≤ 21 ∧ CdC σ p0 ∧ (fIC σ p0 242).toInt ≤ CtC σ p0 ∧ BgC σ p0 (24 + 8 * (n : Int)) (3) ∧ p1.toInt + (n : Int) = 21
abbrev Q_X7_readStatement (n : Nat) : CqC := fun As σ w τ => match As with
  | [.inr (.inr (some p0)), .inl p1] => ∃ r : Nat, w = some (.inr (.inr (some r))) ∧ HIC τ ∧ ExC [0, 1, 2, 60, 61, 62, 63, 64, 65, 66, 67, 68, 69, 70, 72, 73, 74, 75, 76, 242, 243, 244, 246, 270, 271, 272, 273, 275, 276, 277, 278, 279, 280, 330, 331, 332, 333, 334, 999] σ τ ∧ TyC τ r 9 ∧ RdC p0 none (0) (24 + 8 * (n : Int)) (3) σ τ ∧ (cnC σ ≤ r) ∧ ((fIC τ r 272).toInt = p1.toInt) ∧ ((fIC τ r 270).toInt ≤ 92) ∧ (∀ s, ReC σ p0 s → ReC τ p0 (stY n s))
  | _ => False
abbrev P_X7_readRowPart (n : Nat) : CpC := fun As σ => ∃ (p0 : Nat) (p1 : Int32) (p2 : Int32) (p3 : Int32), As = [.inr (.inr (some p0)), .inl p1, .inl p2, .inl p3] ∧ HIC σ ∧ TyC σ p0 8 ∧ 0 ≤ p1.toInt ∧ p1.toInt ≤ 20 ∧ 0 ≤ p2.toInt ∧ p2.toInt ≤ 1 ∧ 0 ≤ p3.toInt ∧ p3.toInt ≤ 1 ∧ CdC σ p0 ∧ (fIC σ p0 242).toInt ≤ CtC σ p0 ∧ RmC σ p0 (8 * (501 - (fIC σ p0 242).toInt) + (24 + 8 * (n : Int))) ∧ (fIC σ p0 243).toInt = 0 ∧ p1.toInt + (n : Int) = 21
abbrev Q_X7_readRowPart (n : Nat) : CqC := fun As σ w τ => match As with
  | [.inr (.inr (some p0)), .inl p1, .inl p2, .inl p3] => ∃ r : Nat, w = some (.inr (.inr (some r))) ∧ HIC τ ∧ ExC [0, 1, 2, 60, 61, 62, 63, 64, 65, 66, 67, 68, 69, 70, 72, 73, 74, 75, 76, 242, 243, 244, 246, 270, 271, 272, 273, 275, 276, 277, 278, 279, 280, 330, 331, 332, 333, 334, 999] σ τ ∧ TyC τ r 9 ∧ RdC p0 none (0) (24 + 8 * (n : Int)) (0) σ τ ∧ (cnC σ ≤ r) ∧ ((fIC τ r 272).toInt = p1.toInt) ∧ ((fIC τ r 270).toInt ≤ 92) ∧ (∀ s, ReC σ p0 s → ReC τ p0 (rpaY n (stY n) p2.toInt p3.toInt s))
  | _ => False
abbrev P_X7_readRow (n : Nat) : CpC := fun As σ => ∃ (p0 : Nat) (p1 : Int32) (p2 : Int32), As = [.inr (.inr (some p0)), .inl p1, .inl p2] ∧ HIC σ ∧ TyC σ p0 8 ∧ 0 ≤ p1.toInt ∧ p1.toInt ≤ 21 ∧ 0 ≤ p2.toInt ∧ p2.toInt ≤ 1 ∧ CdC σ p0 ∧ (fIC σ p0 242).toInt ≤ CtC σ p0 ∧ BgC σ p0 (24 + 8 * (n : Int)) (0) ∧ p1.toInt + (n : Int) = 21
abbrev Q_X7_readRow (n : Nat) : CqC := fun As σ w τ => match As with
  | [.inr (.inr (some p0)), .inl p1, .inl p2] => ∃ r : Option Nat, w = some (.inr (.inr r)) ∧ HIC τ ∧ ExC [0, 1, 2, 60, 61, 62, 63, 64, 65, 66, 67, 68, 69, 70, 72, 73, 74, 75, 76, 242, 243, 244, 246, 270, 271, 272, 273, 275, 276, 277, 278, 279, 280, 330, 331, 332, 333, 334, 999] σ τ ∧ OtC τ r 9 ∧ RdC p0 none (0) (24 + 8 * (n : Int)) (0) σ τ ∧ ((∀ b, r = some b → cnC σ ≤ b ∧ (fIC τ b 272).toInt = p1.toInt)) ∧ (∀ s, ReC σ p0 s → ReC τ p0 (rwY n p2.toInt s))
  | _ => False
set_option maxRecDepth 100000 in
set_option maxHeartbeats 4000000 in
theorem b_X7_readCondition (d : Nat) : TbC KX7_readCondition [(129, P_X7_expect, Q_X7_expect), (164, (P_X7_readExp d), (Q_X7_readExp d))] (P_X7_readCondition d) (Q_X7_readCondition d) := by sorry
theorem lg_X7_readCondition (d : Nat) : ∀ (As : List AvC) (σ : CsC), (P_X7_readCondition d) As σ → lgC As ≤ rX7_readCondition.2.2.1 := by sorry
theorem s_X7_readCondition (l : Launch) (d : Nat) (h_X7_readExp : CMetC l (13 * d + 36) 164 (P_X7_readExp d) (Q_X7_readExp d)) : CMetC l (13 * d + 37) 153 (P_X7_readCondition d) (Q_X7_readCondition d) := by sorry
set_option maxRecDepth 100000 in
set_option maxHeartbeats 4000000 in
theorem b_X7_readExpStatement (d : Nat) : TbC KX7_readExpStatement [(142, P_X7_begin, Q_X7_begin), (164, (P_X7_readExp d), (Q_X7_readExp d)), (129, P_X7_expect, Q_X7_expect)] (P_X7_readExpStatement d) (Q_X7_readExpStatement d) := by sorry
theorem lg_X7_readExpStatement (d : Nat) : ∀ (As : List AvC) (σ : CsC), (P_X7_readExpStatement d) As σ → lgC As ≤ rX7_readExpStatement.2.2.1 := by sorry
theorem s_X7_readExpStatement (l : Launch) (d : Nat) (h_X7_readExp : CMetC l (13 * d + 36) 164 (P_X7_readExp d) (Q_X7_readExp d)) : CMetC l (13 * d + 37) 152 (P_X7_readExpStatement d) (Q_X7_readExpStatement d) := by sorry
set_option maxRecDepth 100000 in
set_option maxHeartbeats 4000000 in
theorem b_X7_readVariable (d : Nat) : TbC KX7_readVariable [(142, P_X7_begin, Q_X7_begin), (130, P_X7_takes, Q_X7_takes), (136, P_X7_readType, Q_X7_readType), (137, P_X7_declare, Q_X7_declare), (138, P_X7_know, Q_X7_know), (125, P_X7_code, Q_X7_code), (129, P_X7_expect, Q_X7_expect), (164, (P_X7_readExp d), (Q_X7_readExp d)), (17, P_X1_init, Q_X1_init), (161, P_X7_put, Q_X7_put)] (P_X7_readVariable d) (Q_X7_readVariable d) := by sorry
theorem lg_X7_readVariable (d : Nat) : ∀ (As : List AvC) (σ : CsC), (P_X7_readVariable d) As σ → lgC As ≤ rX7_readVariable.2.2.1 := by sorry
theorem s_X7_readVariable (l : Launch) (d : Nat) (h_X7_readExp : CMetC l (13 * d + 36) 164 (P_X7_readExp d) (Q_X7_readExp d)) : CMetC l (13 * d + 37) 141 (P_X7_readVariable d) (Q_X7_readVariable d) := by sorry
set_option maxRecDepth 100000 in
set_option maxHeartbeats 4000000 in
theorem b_X7_readForExps (d : Nat) : TbC KX7_readForExps [(142, P_X7_begin, Q_X7_begin), (164, (P_X7_readExp d), (Q_X7_readExp d)), (130, P_X7_takes, Q_X7_takes)] (P_X7_readForExps d) (Q_X7_readForExps d) := by sorry
theorem lg_X7_readForExps (d : Nat) : ∀ (As : List AvC) (σ : CsC), (P_X7_readForExps d) As σ → lgC As ≤ rX7_readForExps.2.2.1 := by sorry
theorem s_X7_readForExps (l : Launch) (d : Nat) (h_X7_readExp : CMetC l (13 * d + 36) 164 (P_X7_readExp d) (Q_X7_readExp d)) : CMetC l (13 * d + 37) 158 (P_X7_readForExps d) (Q_X7_readForExps d) := by sorry
set_option maxRecDepth 100000 in
set_option maxHeartbeats 4000000 in
theorem b_X7_readCase (d : Nat) : TbC KX7_readCase [(125, P_X7_code, Q_X7_code), (142, P_X7_begin, Q_X7_begin), (128, P_X7_accept, Q_X7_accept), (129, P_X7_expect, Q_X7_expect), (164, (P_X7_readExp d), (Q_X7_readExp d))] (P_X7_readCase d) (Q_X7_readCase d) := by sorry
theorem lg_X7_readCase (d : Nat) : ∀ (As : List AvC) (σ : CsC), (P_X7_readCase d) As σ → lgC As ≤ rX7_readCase.2.2.1 := by sorry
theorem s_X7_readCase (l : Launch) (d : Nat) (h_X7_readExp : CMetC l (13 * d + 36) 164 (P_X7_readExp d) (Q_X7_readExp d)) : CMetC l (13 * d + 37) 147 (P_X7_readCase d) (Q_X7_readCase d) := by sorry
set_option maxRecDepth 100000 in
set_option maxHeartbeats 4000000 in
theorem b_X7_readInner (d : Nat) : TbC KX7_readInner [(149, (P_X7_readStatement d), (Q_X7_readStatement d))] (P_X7_readInner (d + 1)) (Q_X7_readInner (d + 1)) := by sorry
theorem lg_X7_readInner (d : Nat) : ∀ (As : List AvC) (σ : CsC), (P_X7_readInner (d + 1)) As σ → lgC As ≤ rX7_readInner.2.2.1 := by sorry
theorem s_X7_readInner (l : Launch) (d : Nat) (h_X7_readStatement : CMetC l (13 * d + 40) 149 (P_X7_readStatement d) (Q_X7_readStatement d)) : CMetC l (13 * (d + 1) + 37) 148 (P_X7_readInner (d + 1)) (Q_X7_readInner (d + 1)) := by sorry
set_option maxRecDepth 100000 in
set_option maxHeartbeats 4000000 in
theorem b_X7_readBlock (d : Nat) : TbC KX7_readBlock [(129, P_X7_expect, Q_X7_expect), (145, (P_X7_readRow d), (Q_X7_readRow d))] (P_X7_readBlock (d + 1)) (Q_X7_readBlock (d + 1)) := by sorry
theorem lg_X7_readBlock (d : Nat) : ∀ (As : List AvC) (σ : CsC), (P_X7_readBlock (d + 1)) As σ → lgC As ≤ rX7_readBlock.2.2.1 := by sorry
theorem s_X7_readBlock (l : Launch) (d : Nat) (h_X7_readRow : CMetC l (13 * d + 42) 145 (P_X7_readRow d) (Q_X7_readRow d)) : CMetC l (13 * (d + 1) + 37) 144 (P_X7_readBlock (d + 1)) (Q_X7_readBlock (d + 1)) := by sorry
set_option maxRecDepth 100000 in
set_option maxHeartbeats 4000000 in
theorem b_X7_readBody (d : Nat) : TbC KX7_readBody [(142, P_X7_begin, Q_X7_begin), (144, (P_X7_readBlock d), (Q_X7_readBlock d))] (P_X7_readBody d) (Q_X7_readBody d) := by sorry
theorem lg_X7_readBody (d : Nat) : ∀ (As : List AvC) (σ : CsC), (P_X7_readBody d) As σ → lgC As ≤ rX7_readBody.2.2.1 := by sorry
theorem s_X7_readBody (l : Launch) (d : Nat) (h_X7_readBlock : CMetC l (13 * d + 37) 144 (P_X7_readBlock d) (Q_X7_readBlock d)) : CMetC l (13 * d + 38) 143 (P_X7_readBody d) (Q_X7_readBody d) := by sorry
set_option maxRecDepth 100000 in
set_option maxHeartbeats 4000000 in
theorem b_X7_readIf (d : Nat) : TbC KX7_readIf [(142, P_X7_begin, Q_X7_begin), (128, P_X7_accept, Q_X7_accept), (153, (P_X7_readCondition d), (Q_X7_readCondition d)), (148, (P_X7_readInner d), (Q_X7_readInner d)), (130, P_X7_takes, Q_X7_takes)] (P_X7_readIf d) (Q_X7_readIf d) := by sorry
theorem lg_X7_readIf (d : Nat) : ∀ (As : List AvC) (σ : CsC), (P_X7_readIf d) As σ → lgC As ≤ rX7_readIf.2.2.1 := by sorry
theorem s_X7_readIf (l : Launch) (d : Nat) (h_X7_readCondition : CMetC l (13 * d + 37) 153 (P_X7_readCondition d) (Q_X7_readCondition d)) (h_X7_readInner : CMetC l (13 * d + 37) 148 (P_X7_readInner d) (Q_X7_readInner d)) : CMetC l (13 * d + 38) 154 (P_X7_readIf d) (Q_X7_readIf d) := by sorry
set_option maxRecDepth 100000 in
set_option maxHeartbeats 4000000 in
theorem b_X7_readWhile (d : Nat) : TbC KX7_readWhile [(142, P_X7_begin, Q_X7_begin), (128, P_X7_accept, Q_X7_accept), (153, (P_X7_readCondition d), (Q_X7_readCondition d)), (148, (P_X7_readInner d), (Q_X7_readInner d))] (P_X7_readWhile d) (Q_X7_readWhile d) := by sorry
theorem lg_X7_readWhile (d : Nat) : ∀ (As : List AvC) (σ : CsC), (P_X7_readWhile d) As σ → lgC As ≤ rX7_readWhile.2.2.1 := by sorry
theorem s_X7_readWhile (l : Launch) (d : Nat) (h_X7_readCondition : CMetC l (13 * d + 37) 153 (P_X7_readCondition d) (Q_X7_readCondition d)) (h_X7_readInner : CMetC l (13 * d + 37) 148 (P_X7_readInner d) (Q_X7_readInner d)) : CMetC l (13 * d + 38) 155 (P_X7_readWhile d) (Q_X7_readWhile d) := by sorry
set_option maxRecDepth 100000 in
set_option maxHeartbeats 4000000 in
theorem b_X7_readDo (d : Nat) : TbC KX7_readDo [(142, P_X7_begin, Q_X7_begin), (128, P_X7_accept, Q_X7_accept), (148, (P_X7_readInner d), (Q_X7_readInner d)), (129, P_X7_expect, Q_X7_expect), (153, (P_X7_readCondition d), (Q_X7_readCondition d))] (P_X7_readDo d) (Q_X7_readDo d) := by sorry
theorem lg_X7_readDo (d : Nat) : ∀ (As : List AvC) (σ : CsC), (P_X7_readDo d) As σ → lgC As ≤ rX7_readDo.2.2.1 := by sorry
theorem s_X7_readDo (l : Launch) (d : Nat) (h_X7_readInner : CMetC l (13 * d + 37) 148 (P_X7_readInner d) (Q_X7_readInner d)) (h_X7_readCondition : CMetC l (13 * d + 37) 153 (P_X7_readCondition d) (Q_X7_readCondition d)) : CMetC l (13 * d + 38) 156 (P_X7_readDo d) (Q_X7_readDo d) := by sorry
set_option maxRecDepth 100000 in
set_option maxHeartbeats 4000000 in
theorem b_X7_readFor (d : Nat) : TbC KX7_readFor [(142, P_X7_begin, Q_X7_begin), (128, P_X7_accept, Q_X7_accept), (129, P_X7_expect, Q_X7_expect), (125, P_X7_code, Q_X7_code), (141, (P_X7_readVariable d), (Q_X7_readVariable d)), (148, (P_X7_readInner d), (Q_X7_readInner d)), (158, (P_X7_readForExps d), (Q_X7_readForExps d)), (164, (P_X7_readExp d), (Q_X7_readExp d)), (132, P_X7_isType, Q_X7_isType)] (P_X7_readFor d) (Q_X7_readFor d) := by sorry
theorem lg_X7_readFor (d : Nat) : ∀ (As : List AvC) (σ : CsC), (P_X7_readFor d) As σ → lgC As ≤ rX7_readFor.2.2.1 := by sorry
theorem s_X7_readFor (l : Launch) (d : Nat) (h_X7_readVariable : CMetC l (13 * d + 37) 141 (P_X7_readVariable d) (Q_X7_readVariable d)) (h_X7_readInner : CMetC l (13 * d + 37) 148 (P_X7_readInner d) (Q_X7_readInner d)) (h_X7_readForExps : CMetC l (13 * d + 37) 158 (P_X7_readForExps d) (Q_X7_readForExps d)) (h_X7_readExp : CMetC l (13 * d + 36) 164 (P_X7_readExp d) (Q_X7_readExp d)) : CMetC l (13 * d + 38) 157 (P_X7_readFor d) (Q_X7_readFor d) := by sorry
set_option maxRecDepth 100000 in
set_option maxHeartbeats 4000000 in
theorem b_X7_readSwitch (d : Nat) : TbC KX7_readSwitch [(142, P_X7_begin, Q_X7_begin), (128, P_X7_accept, Q_X7_accept), (153, (P_X7_readCondition (d + 1)), (Q_X7_readCondition (d + 1))), (129, P_X7_expect, Q_X7_expect), (145, (P_X7_readRow d), (Q_X7_readRow d))] (P_X7_readSwitch (d + 1)) (Q_X7_readSwitch (d + 1)) := by sorry
theorem lg_X7_readSwitch (d : Nat) : ∀ (As : List AvC) (σ : CsC), (P_X7_readSwitch (d + 1)) As σ → lgC As ≤ rX7_readSwitch.2.2.1 := by sorry
theorem s_X7_readSwitch (l : Launch) (d : Nat) (h_X7_readCondition : CMetC l (13 * (d + 1) + 37) 153 (P_X7_readCondition (d + 1)) (Q_X7_readCondition (d + 1))) (h_X7_readRow : CMetC l (13 * d + 42) 145 (P_X7_readRow d) (Q_X7_readRow d)) : CMetC l (13 * (d + 1) + 38) 159 (P_X7_readSwitch (d + 1)) (Q_X7_readSwitch (d + 1)) := by sorry
set_option maxRecDepth 100000 in
set_option maxHeartbeats 4000000 in
theorem b_X7_readSimple (d : Nat) : TbC KX7_readSimple [(125, P_X7_code, Q_X7_code), (142, P_X7_begin, Q_X7_begin), (128, P_X7_accept, Q_X7_accept), (164, (P_X7_readExp d), (Q_X7_readExp d)), (129, P_X7_expect, Q_X7_expect), (234, P_Jx4a65c_size_8abf5, Q_Jx4a65c_size_8abf5), (144, (P_X7_readBlock d), (Q_X7_readBlock d))] (P_X7_readSimple d) (Q_X7_readSimple d) := by sorry
theorem lg_X7_readSimple (d : Nat) : ∀ (As : List AvC) (σ : CsC), (P_X7_readSimple d) As σ → lgC As ≤ rX7_readSimple.2.2.1 := by sorry
theorem s_X7_readSimple (l : Launch) (d : Nat) (h_X7_readExp : CMetC l (13 * d + 36) 164 (P_X7_readExp d) (Q_X7_readExp d)) (h_X7_readBlock : CMetC l (13 * d + 37) 144 (P_X7_readBlock d) (Q_X7_readBlock d)) : CMetC l (13 * d + 38) 150 (P_X7_readSimple d) (Q_X7_readSimple d) := by sorry
set_option maxRecDepth 100000 in
set_option maxHeartbeats 4000000 in
theorem b_X7_readLabel (d : Nat) : TbC KX7_readLabel [(142, P_X7_begin6, Q_X7_begin6), (128, P_X7_accept, Q_X7_accept), (129, P_X7_expect, Q_X7_expect), (148, (P_X7_readInner d), (Q_X7_readInner d))] (P_X7_readLabel d) (Q_X7_readLabel d) := by sorry
theorem lg_X7_readLabel (d : Nat) : ∀ (As : List AvC) (σ : CsC), (P_X7_readLabel d) As σ → lgC As ≤ rX7_readLabel.2.2.1 := by sorry
theorem s_X7_readLabel (l : Launch) (d : Nat) (h_X7_readInner : CMetC l (13 * d + 37) 148 (P_X7_readInner d) (Q_X7_readInner d)) : CMetC l (13 * d + 38) 151 (P_X7_readLabel d) (Q_X7_readLabel d) := by sorry
set_option maxRecDepth 100000 in
set_option maxHeartbeats 4000000 in
theorem b_X7_readTry (d : Nat) : TbC KX7_readTry [(142, P_X7_begin, Q_X7_begin), (128, P_X7_accept, Q_X7_accept), (143, (P_X7_readBody d), (Q_X7_readBody d)), (125, P_X7_code, Q_X7_code), (130, P_X7_takes, Q_X7_takes), (129, P_X7_expect, Q_X7_expect), (137, P_X7_declare, Q_X7_declare), (138, P_X7_know, Q_X7_know), (127, P_X7_raise, Q_X7_raise)] (P_X7_readTry d) (Q_X7_readTry d) := by sorry
theorem lg_X7_readTry (d : Nat) : ∀ (As : List AvC) (σ : CsC), (P_X7_readTry d) As σ → lgC As ≤ rX7_readTry.2.2.1 := by sorry
theorem s_X7_readTry (l : Launch) (d : Nat) (h_X7_readBody : CMetC l (13 * d + 38) 143 (P_X7_readBody d) (Q_X7_readBody d)) : CMetC l (13 * d + 39) 160 (P_X7_readTry d) (Q_X7_readTry d) := by sorry
set_option maxRecDepth 100000 in
set_option maxHeartbeats 4000000 in
theorem b_X7_readStatement (d : Nat) : TbC KX7_readStatement [(131, P_X7_isTooDeep, Q_X7_isTooDeep), (125, P_X7_code, Q_X7_code), (150, (P_X7_readSimple d), (Q_X7_readSimple d)), (154, (P_X7_readIf d), (Q_X7_readIf d)), (155, (P_X7_readWhile d), (Q_X7_readWhile d)), (156, (P_X7_readDo d), (Q_X7_readDo d)), (157, (P_X7_readFor d), (Q_X7_readFor d)), (159, (P_X7_readSwitch d), (Q_X7_readSwitch d)), (160, (P_X7_readTry d), (Q_X7_readTry d)), (152, (P_X7_readExpStatement d), (Q_X7_readExpStatement d)), (126, P_X7_codeBehind, Q_X7_codeBehind), (151, (P_X7_readLabel d), (Q_X7_readLabel d))] (P_X7_readStatement d) (Q_X7_readStatement d) := by sorry
theorem lg_X7_readStatement (d : Nat) : ∀ (As : List AvC) (σ : CsC), (P_X7_readStatement d) As σ → lgC As ≤ rX7_readStatement.2.2.1 := by sorry
theorem s_X7_readStatement (l : Launch) (d : Nat) (h_X7_readSimple : CMetC l (13 * d + 38) 150 (P_X7_readSimple d) (Q_X7_readSimple d)) (h_X7_readIf : CMetC l (13 * d + 38) 154 (P_X7_readIf d) (Q_X7_readIf d)) (h_X7_readWhile : CMetC l (13 * d + 38) 155 (P_X7_readWhile d) (Q_X7_readWhile d)) (h_X7_readDo : CMetC l (13 * d + 38) 156 (P_X7_readDo d) (Q_X7_readDo d)) (h_X7_readFor : CMetC l (13 * d + 38) 157 (P_X7_readFor d) (Q_X7_readFor d)) (h_X7_readSwitch : CMetC l (13 * d + 38) 159 (P_X7_readSwitch d) (Q_X7_readSwitch d)) (h_X7_readTry : CMetC l (13 * d + 39) 160 (P_X7_readTry d) (Q_X7_readTry d)) (h_X7_readExpStatement : CMetC l (13 * d + 37) 152 (P_X7_readExpStatement d) (Q_X7_readExpStatement d)) (h_X7_readLabel : CMetC l (13 * d + 38) 151 (P_X7_readLabel d) (Q_X7_readLabel d)) : CMetC l (13 * d + 40) 149 (P_X7_readStatement d) (Q_X7_readStatement d) := by sorry
set_option maxRecDepth 100000 in
set_option maxHeartbeats 4000000 in
theorem b_X7_readRowPart (d : Nat) : TbC KX7_readRowPart [(125, P_X7_code, Q_X7_code), (141, (P_X7_readVariable d), (Q_X7_readVariable d)), (129, P_X7_expect, Q_X7_expect), (132, P_X7_isType, Q_X7_isType), (149, (P_X7_readStatement d), (Q_X7_readStatement d)), (147, (P_X7_readCase d), (Q_X7_readCase d)), (127, P_X7_raise, Q_X7_raise)] (P_X7_readRowPart d) (Q_X7_readRowPart d) := by sorry
theorem lg_X7_readRowPart (d : Nat) : ∀ (As : List AvC) (σ : CsC), (P_X7_readRowPart d) As σ → lgC As ≤ rX7_readRowPart.2.2.1 := by sorry
theorem s_X7_readRowPart (l : Launch) (d : Nat) (h_X7_readVariable : CMetC l (13 * d + 37) 141 (P_X7_readVariable d) (Q_X7_readVariable d)) (h_X7_readStatement : CMetC l (13 * d + 40) 149 (P_X7_readStatement d) (Q_X7_readStatement d)) (h_X7_readCase : CMetC l (13 * d + 37) 147 (P_X7_readCase d) (Q_X7_readCase d)) : CMetC l (13 * d + 41) 146 (P_X7_readRowPart d) (Q_X7_readRowPart d) := by sorry
set_option maxRecDepth 100000 in
set_option maxHeartbeats 4000000 in
theorem b_X7_readRow (d : Nat) : TbC KX7_readRow [(131, P_X7_isTooDeep, Q_X7_isTooDeep), (125, P_X7_code, Q_X7_code), (146, (P_X7_readRowPart d), (Q_X7_readRowPart d))] (P_X7_readRow d) (Q_X7_readRow d) := by sorry
theorem lg_X7_readRow (d : Nat) : ∀ (As : List AvC) (σ : CsC), (P_X7_readRow d) As σ → lgC As ≤ rX7_readRow.2.2.1 := by sorry
theorem s_X7_readRow (l : Launch) (d : Nat) (h_X7_readRowPart : CMetC l (13 * d + 41) 146 (P_X7_readRowPart d) (Q_X7_readRowPart d)) : CMetC l (13 * d + 42) 145 (P_X7_readRow d) (Q_X7_readRow d) := by sorry
set_option maxRecDepth 100000 in
theorem recR (l : Launch) : ∀ n : Nat, CMetC l (13 * n + 31) 176 (P_X7_readCall n) (Q_X7_readCall n) ∧ CMetC l (13 * n + 31) 172 (P_X7_readAlone n) (Q_X7_readAlone n) ∧ CMetC l (13 * n + 31) 174 (P_X7_readBehindOpen n) (Q_X7_readBehindOpen n) ∧ CMetC l (13 * n + 32) 175 (P_X7_readName n) (Q_X7_readName n) ∧ CMetC l (13 * n + 33) 170 (P_X7_readOperand n) (Q_X7_readOperand n) ∧ CMetC l (13 * n + 34) 171 (P_X7_readInnerOperand n) (Q_X7_readInnerOperand n) ∧ CMetC l (13 * n + 34) 167 (P_X7_readChain n) (Q_X7_readChain n) ∧ CMetC l (13 * n + 35) 166 (P_X7_readChoice n) (Q_X7_readChoice n) ∧ CMetC l (13 * n + 35) 165 (P_X7_readAssignment n) (Q_X7_readAssignment n) ∧ CMetC l (13 * n + 36) 164 (P_X7_readExp n) (Q_X7_readExp n) ∧ CMetC l (13 * n + 37) 153 (P_X7_readCondition n) (Q_X7_readCondition n) ∧ CMetC l (13 * n + 37) 152 (P_X7_readExpStatement n) (Q_X7_readExpStatement n) ∧ CMetC l (13 * n + 37) 141 (P_X7_readVariable n) (Q_X7_readVariable n) ∧ CMetC l (13 * n + 37) 158 (P_X7_readForExps n) (Q_X7_readForExps n) ∧ CMetC l (13 * n + 37) 147 (P_X7_readCase n) (Q_X7_readCase n) ∧ CMetC l (13 * n + 37) 148 (P_X7_readInner n) (Q_X7_readInner n) ∧ CMetC l (13 * n + 37) 144 (P_X7_readBlock n) (Q_X7_readBlock n) ∧ CMetC l (13 * n + 38) 143 (P_X7_readBody n) (Q_X7_readBody n) ∧ CMetC l (13 * n + 38) 154 (P_X7_readIf n) (Q_X7_readIf n) ∧ CMetC l (13 * n + 38) 155 (P_X7_readWhile n) (Q_X7_readWhile n) ∧ CMetC l (13 * n + 38) 156 (P_X7_readDo n) (Q_X7_readDo n) ∧ CMetC l (13 * n + 38) 157 (P_X7_readFor n) (Q_X7_readFor n) ∧ CMetC l (13 * n + 38) 159 (P_X7_readSwitch n) (Q_X7_readSwitch n) ∧ CMetC l (13 * n + 38) 150 (P_X7_readSimple n) (Q_X7_readSimple n) ∧ CMetC l (13 * n + 38) 151 (P_X7_readLabel n) (Q_X7_readLabel n) ∧ CMetC l (13 * n + 39) 160 (P_X7_readTry n) (Q_X7_readTry n) ∧ CMetC l (13 * n + 40) 149 (P_X7_readStatement n) (Q_X7_readStatement n) ∧ CMetC l (13 * n + 41) 146 (P_X7_readRowPart n) (Q_X7_readRowPart n) ∧ CMetC l (13 * n + 42) 145 (P_X7_readRow n) (Q_X7_readRow n) := by sorry
theorem m_X7_readCall (l : Launch) (n : Nat) : CMetC l (13 * n + 31) 176 (P_X7_readCall n) (Q_X7_readCall n) := (recR l n).1
theorem m_X7_readAlone (l : Launch) (n : Nat) : CMetC l (13 * n + 31) 172 (P_X7_readAlone n) (Q_X7_readAlone n) := (recR l n).2.1
theorem m_X7_readBehindOpen (l : Launch) (n : Nat) : CMetC l (13 * n + 31) 174 (P_X7_readBehindOpen n) (Q_X7_readBehindOpen n) := (recR l n).2.2.1
theorem m_X7_readName (l : Launch) (n : Nat) : CMetC l (13 * n + 32) 175 (P_X7_readName n) (Q_X7_readName n) := (recR l n).2.2.2.1
theorem m_X7_readOperand (l : Launch) (n : Nat) : CMetC l (13 * n + 33) 170 (P_X7_readOperand n) (Q_X7_readOperand n) := (recR l n).2.2.2.2.1
theorem m_X7_readInnerOperand (l : Launch) (n : Nat) : CMetC l (13 * n + 34) 171 (P_X7_readInnerOperand n) (Q_X7_readInnerOperand n) := (recR l n).2.2.2.2.2.1
theorem m_X7_readChain (l : Launch) (n : Nat) : CMetC l (13 * n + 34) 167 (P_X7_readChain n) (Q_X7_readChain n) := (recR l n).2.2.2.2.2.2.1
theorem m_X7_readChoice (l : Launch) (n : Nat) : CMetC l (13 * n + 35) 166 (P_X7_readChoice n) (Q_X7_readChoice n) := (recR l n).2.2.2.2.2.2.2.1
theorem m_X7_readAssignment (l : Launch) (n : Nat) : CMetC l (13 * n + 35) 165 (P_X7_readAssignment n) (Q_X7_readAssignment n) := (recR l n).2.2.2.2.2.2.2.2.1
theorem m_X7_readExp (l : Launch) (n : Nat) : CMetC l (13 * n + 36) 164 (P_X7_readExp n) (Q_X7_readExp n) := (recR l n).2.2.2.2.2.2.2.2.2.1
theorem m_X7_readCondition (l : Launch) (n : Nat) : CMetC l (13 * n + 37) 153 (P_X7_readCondition n) (Q_X7_readCondition n) := (recR l n).2.2.2.2.2.2.2.2.2.2.1
theorem m_X7_readExpStatement (l : Launch) (n : Nat) : CMetC l (13 * n + 37) 152 (P_X7_readExpStatement n) (Q_X7_readExpStatement n) := (recR l n).2.2.2.2.2.2.2.2.2.2.2.1
theorem m_X7_readVariable (l : Launch) (n : Nat) : CMetC l (13 * n + 37) 141 (P_X7_readVariable n) (Q_X7_readVariable n) := (recR l n).2.2.2.2.2.2.2.2.2.2.2.2.1
theorem m_X7_readForExps (l : Launch) (n : Nat) : CMetC l (13 * n + 37) 158 (P_X7_readForExps n) (Q_X7_readForExps n) := (recR l n).2.2.2.2.2.2.2.2.2.2.2.2.2.1
theorem m_X7_readCase (l : Launch) (n : Nat) : CMetC l (13 * n + 37) 147 (P_X7_readCase n) (Q_X7_readCase n) := (recR l n).2.2.2.2.2.2.2.2.2.2.2.2.2.2.1
theorem m_X7_readInner (l : Launch) (n : Nat) : CMetC l (13 * n + 37) 148 (P_X7_readInner n) (Q_X7_readInner n) := (recR l n).2.2.2.2.2.2.2.2.2.2.2.2.2.2.2.1
theorem m_X7_readBlock (l : Launch) (n : Nat) : CMetC l (13 * n + 37) 144 (P_X7_readBlock n) (Q_X7_readBlock n) := (recR l n).2.2.2.2.2.2.2.2.2.2.2.2.2.2.2.2.1
theorem m_X7_readBody (l : Launch) (n : Nat) : CMetC l (13 * n + 38) 143 (P_X7_readBody n) (Q_X7_readBody n) := (recR l n).2.2.2.2.2.2.2.2.2.2.2.2.2.2.2.2.2.1
theorem m_X7_readIf (l : Launch) (n : Nat) : CMetC l (13 * n + 38) 154 (P_X7_readIf n) (Q_X7_readIf n) := (recR l n).2.2.2.2.2.2.2.2.2.2.2.2.2.2.2.2.2.2.1
theorem m_X7_readWhile (l : Launch) (n : Nat) : CMetC l (13 * n + 38) 155 (P_X7_readWhile n) (Q_X7_readWhile n) := (recR l n).2.2.2.2.2.2.2.2.2.2.2.2.2.2.2.2.2.2.2.1
theorem m_X7_readDo (l : Launch) (n : Nat) : CMetC l (13 * n + 38) 156 (P_X7_readDo n) (Q_X7_readDo n) := (recR l n).2.2.2.2.2.2.2.2.2.2.2.2.2.2.2.2.2.2.2.2.1
theorem m_X7_readFor (l : Launch) (n : Nat) : CMetC l (13 * n + 38) 157 (P_X7_readFor n) (Q_X7_readFor n) := (recR l n).2.2.2.2.2.2.2.2.2.2.2.2.2.2.2.2.2.2.2.2.2.1
theorem m_X7_readSwitch (l : Launch) (n : Nat) : CMetC l (13 * n + 38) 159 (P_X7_readSwitch n) (Q_X7_readSwitch n) := (recR l n).2.2.2.2.2.2.2.2.2.2.2.2.2.2.2.2.2.2.2.2.2.2.1
theorem m_X7_readSimple (l : Launch) (n : Nat) : CMetC l (13 * n + 38) 150 (P_X7_readSimple n) (Q_X7_readSimple n) := (recR l n).2.2.2.2.2.2.2.2.2.2.2.2.2.2.2.2.2.2.2.2.2.2.2.1
theorem m_X7_readLabel (l : Launch) (n : Nat) : CMetC l (13 * n + 38) 151 (P_X7_readLabel n) (Q_X7_readLabel n) := by sorry
theorem m_X7_readTry (l : Launch) (n : Nat) : CMetC l (13 * n + 39) 160 (P_X7_readTry n) (Q_X7_readTry n) := by sorry
theorem m_X7_readStatement (l : Launch) (n : Nat) : CMetC l (13 * n + 40) 149 (P_X7_readStatement n) (Q_X7_readStatement n) := by sorry
theorem m_X7_readRowPart (l : Launch) (n : Nat) : CMetC l (13 * n + 41) 146 (P_X7_readRowPart n) (Q_X7_readRowPart n) := by sorry
theorem m_X7_readRow (l : Launch) (n : Nat) : CMetC l (13 * n + 42) 145 (P_X7_readRow n) (Q_X7_readRow n) := by sorry
abbrev P_X7_readParams : CpC := fun As σ => ∃ (p0 : Nat) (p1 : Nat), As = [.inr (.inr (some p0)), .inr (.inr (some p1))] ∧ HIC σ ∧ TyC σ p0 8 ∧ TyC σ p1 6 ∧ CdC σ p0 ∧ (fIC σ p0 242).toInt ≤ CtC σ p0 ∧ BgC σ p0 (10) (0) ∧ (fIC σ p1 185).toInt = 0
abbrev Q_X7_readParams : CqC := fun As σ w τ => match As with
  | [.inr (.inr (some p0)), .inr (.inr (some p1))] => w = none ∧ HIC τ ∧ ExC [0, 1, 2, 185, 242, 243, 244, 330, 331, 332, 333, 334, 995, 999] σ τ ∧ RdC p0 none (0) (10) (0) σ τ ∧ (∀ s, ReC σ p0 s → TpY p1 s → ReC τ p0 (parY s))
  | _ => False
set_option maxRecDepth 100000 in
set_option maxHeartbeats 4000000 in
theorem b_X7_readParams : TbC KX7_readParams [(129, P_X7_expect, Q_X7_expect), (125, P_X7_code, Q_X7_code), (130, P_X7_takes, Q_X7_takes), (136, P_X7_readType, Q_X7_readType), (137, P_X7_declare, Q_X7_declare), (138, P_X7_know, Q_X7_know), (112, P_X5_addParam, Q_X5_addParam)] P_X7_readParams Q_X7_readParams := by sorry
theorem lg_X7_readParams : ∀ (As : List AvC) (σ : CsC), P_X7_readParams As σ → lgC As ≤ rX7_readParams.2.2.1 := by sorry
theorem m_X7_readParams (l : Launch) : CMetC l 13 135 P_X7_readParams Q_X7_readParams := by sorry
abbrev P_X7_readMethod : CpC := fun As σ => ∃ (p0 : Nat), As = [.inr (.inr (some p0))] ∧ HIC σ ∧ TyC σ p0 8 ∧ CdC σ p0 ∧ (fIC σ p0 242).toInt ≤ CtC σ p0 ∧ RmC σ p0 (8 * (501 - (fIC σ p0 242).toInt) + (200)) ∧ (fIC σ p0 243).toInt = 0
abbrev Q_X7_readMethod : CqC := fun As σ w τ => match As with
  | [.inr (.inr (some p0))] => w = none ∧ HIC τ ∧ ExC [0, 1, 2, 60, 61, 62, 63, 64, 65, 66, 67, 68, 69, 70, 72, 73, 74, 75, 76, 180, 182, 183, 184, 185, 186, 242, 243, 244, 246, 270, 271, 272, 273, 275, 276, 277, 278, 279, 280, 330, 331, 332, 333, 334, 995, 999] σ τ ∧ RdC p0 none (0) (200) (0) σ τ ∧ (∀ s, ReC σ p0 s → ReC τ p0 (mthY s))
  | _ => False
set_option maxRecDepth 100000 in
set_option maxHeartbeats 4000000 in
theorem b_X7_readMethod : TbC KX7_readMethod [(125, P_X7_code, Q_X7_code), (132, P_X7_isType, Q_X7_isType), (128, P_X7_accept, Q_X7_accept), (234, P_Jx4a65c_size_8abf5, Q_Jx4a65c_size_8abf5), (111, P_X5_init, Q_X5_init), (236, P_Jx4a65c_add_9ea2d, Q_Jx4a65c_add_9ea2d), (135, P_X7_readParams, Q_X7_readParams), (143, (P_X7_readBody 21), (Q_X7_readBody 21)), (127, P_X7_raise, Q_X7_raise)] P_X7_readMethod Q_X7_readMethod := by sorry
theorem lg_X7_readMethod : ∀ (As : List AvC) (σ : CsC), P_X7_readMethod As σ → lgC As ≤ rX7_readMethod.2.2.1 := by sorry
theorem m_X7_readMethod (l : Launch) : CMetC l 312 134 P_X7_readMethod Q_X7_readMethod := by sorry
theorem lstC {σ : CsC} {q k a : Nat} (h : HI0 σ) (t : TyC σ q 7) (hk : [211, 212, 213, 214].elem k = true) (ha : fRC σ q k = some a) : TyC σ a 0 := by sorry
abbrev P_X7_readProgram : CpC := fun As σ => ∃ (p0 : Nat) (p1 : Nat) (p2 : Nat) (p3 : Int32), As = [.inr (.inr (some p0)), .inr (.inr (some p1)), .inr (.inr (some p2)), .inl p3] ∧ HIC σ ∧ TyC σ p0 8 ∧ TyC σ p1 7 ∧ TyC σ p2 101 ∧ alC σ p2 = 2500 ∧ 0 ≤ p3.toInt ∧ p3.toInt ≤ 2500 ∧ cnC σ + 4208 ≤ cpC σ ∧ slC σ + 4 * gsC σ (cnC σ) + 22 * 4208 + 20000 ≤ spC σ
abbrev Q_X7_readProgram : CqC := fun As σ w τ => match As with
  | [.inr (.inr (some p0)), .inr (.inr (some p1)), .inr (.inr (some p2)), .inl p3] => ∃ r : Int32, w = some (.inl r) ∧ HIC τ ∧ ExC [0, 1, 2, 60, 61, 62, 63, 64, 65, 66, 67, 68, 69, 70, 72, 73, 74, 75, 76, 180, 182, 183, 184, 185, 186, 217, 218, 240, 241, 242, 243, 244, 246, 270, 271, 272, 273, 275, 276, 277, 278, 279, 280, 305, 307, 308, 330, 331, 332, 333, 334, 995, 998, 999] σ τ ∧ 0 ≤ r.toInt ∧ r.toInt ≤ 3 ∧ ((cnC τ : Int) ≤ cnC σ + 8 * p3.toInt + 200) ∧ (slC τ + 4 * gsC τ (cnC τ) ≤ slC σ + 4 * gsC σ (cnC σ) + 22 * (cnC τ - cnC σ)) ∧ (fRC τ p0 240 = some p1) ∧ (∃ s, Z0Y s ∧ ReC τ p0 (prlY 11 s) ∧ r.toInt = zFt (prlY 11 s))
  | _ => False
set_option maxRecDepth 100000 in
set_option maxHeartbeats 4000000 in
theorem b_X7_readProgram : TbC KX7_readProgram [(117, P_X6_clear, Q_X6_clear), (188, P_X9_cutText, Q_X9_cutText), (125, P_X7_code, Q_X7_code), (134, P_X7_readMethod, Q_X7_readMethod)] P_X7_readProgram Q_X7_readProgram := by sorry
theorem lg_X7_readProgram : ∀ (As : List AvC) (σ : CsC), P_X7_readProgram As σ → lgC As ≤ rX7_readProgram.2.2.1 := by sorry
theorem m_X7_readProgram (l : Launch) : CMetC l 313 123 P_X7_readProgram Q_X7_readProgram := by sorry
abbrev P_X11_read : CpC := fun As σ => ∃ (p0 : Nat), As = [.inr (.inr (some p0))] ∧ HIC σ ∧ TyC σ p0 12 ∧ cnC σ + 4208 ≤ cpC σ ∧ slC σ + 4 * gsC σ (cnC σ) + 22 * 4208 + 20000 ≤ spC σ
abbrev Q_X11_read : CqC := fun As σ w τ => match As with
  | [.inr (.inr (some p0))] => ∃ r : Int32, w = some (.inl r) ∧ HIC τ ∧ ExC [0, 1, 2, 34, 35, 36, 60, 61, 62, 63, 64, 65, 66, 67, 68, 69, 70, 72, 73, 74, 75, 76, 77, 90, 94, 121, 180, 182, 183, 184, 185, 186, 217, 218, 240, 241, 242, 243, 244, 246, 270, 271, 272, 273, 275, 276, 277, 278, 279, 280, 281, 282, 283, 284, 289, 290, 305, 307, 308, 330, 331, 332, 333, 334, 335, 363, 364, 369, 371, 372, 995, 998, 999] σ τ ∧ ((cnC τ : Int) + 8 * (fIC τ p0 369).toInt ≤ cnC σ + 8 * (fIC σ p0 369).toInt + 200) ∧ (slC τ + 4 * gsC τ (cnC τ) ≤ slC σ + 4 * gsC σ (cnC σ) + 22 * (cnC τ - cnC σ)) ∧ ((fIC τ p0 369).toInt = 0) ∧ (∃ s, Z0Y s ∧ ((¬ zFt (prlY 11 s) = 0 ∧ r.toInt = -10 - zFt (prlY 11 s)) ∨ (zFt (prlY 11 s) = 0 ∧ r.toInt = (zMs (prlY 11 s)).length)))
  | _ => False
set_option maxRecDepth 100000 in
set_option maxHeartbeats 4000000 in
theorem b_X11_read : TbC KX11_read [(123, P_X7_readProgram, Q_X7_readProgram), (49, P_X3_judgeProgram, Q_X3_judgeProgram), (234, P_Jx4a65c_size_8abf5, Q_Jx4a65c_size_8abf5), (1, P_X0_lay, Q_X0_lay), (124, P_X7_faultPlace, Q_X7_faultPlace)] P_X11_read Q_X11_read := by sorry
theorem lg_X11_read : ∀ (As : List AvC) (σ : CsC), P_X11_read As σ → lgC As ≤ rX11_read.2.2.1 := by sorry
theorem m_X11_read (l : Launch) : CMetC l 515 204 P_X11_read Q_X11_read := by sorry
theorem ug211 (σ : CsC) (a : Nat) : gtC σ a 211 = .inr (.inr (fRC σ a 211)) := rfl
theorem ug212 (σ : CsC) (a : Nat) : gtC σ a 212 = .inr (.inr (fRC σ a 212)) := rfl
theorem ug213 (σ : CsC) (a : Nat) : gtC σ a 213 = .inr (.inr (fRC σ a 213)) := rfl
theorem ug214 (σ : CsC) (a : Nat) : gtC σ a 214 = .inr (.inr (fRC σ a 214)) := rfl
theorem WeC.eR {σ τ : CsC} (h : WeC σ τ) : eRC τ = eRC σ := by sorry
theorem rz {σ τ : CsC} {p0 : Nat} (e : ExC [0, 2] σ τ) (l : p0 < cnC σ) (k : Nat) : [0, 2].elem k = false → fRC τ p0 k = fRC σ p0 k := fun m => ((e.2.2 p0 l).2.2.2 k m).2
abbrev Pp_clear (_y : Unit) : CpC := fun _ _ => True
abbrev Qp_clear (_y : Unit) : CqC := fun As σ w τ => match As with
  | [.inr (.inr (some p0))] => ∀ a, (∀ k, k = 211 ∨ k = 212 ∨ k = 213 ∨ k = 214 → ¬ fRC σ p0 k = some a) → fIC τ a 2 = fIC σ a 2 ∧ (a < cnC σ → tgC σ a = 0 → ∀ j : Nat, (j : Int) < (fIC σ a 2).toInt → elC τ a j = elC σ a j)
  | _ => True
theorem p_clear (y : Unit) : PbC KX6_clear [(237, P_Jx4a65c_clear_da8c8, Q_Jx4a65c_clear_da8c8)] [] (fun As σ => P_X6_clear As σ ∧ Pp_clear y As σ) (Qp_clear y) := by sorry
abbrev U_clear : CqC := fun As σ w τ => ∀ y, Pp_clear y As σ → Qp_clear y As σ w τ
theorem n_clear (l : Launch) : CMetC l 11 117 P_X6_clear (fun As σ w τ => Q_X6_clear As σ w τ ∧ U_clear As σ w τ) := by sorry
theorem ug210 (σ : CsC) (a : Nat) : gtC σ a 210 = .inr (.inr (fRC σ a 210)) := rfl
theorem ug240 (σ : CsC) (a : Nat) : gtC σ a 240 = .inr (.inr (fRC σ a 240)) := rfl
theorem ug241 (σ : CsC) (a : Nat) : gtC σ a 241 = .inr (.inr (fRC σ a 241)) := rfl
theorem ug243 (σ : CsC) (a : Nat) : gtC σ a 243 = .inl (fIC σ a 243) := rfl
/-- the tokens' rows, the text's row -/
def RwT (σ : CsC) (t p2 : Nat) : Prop := (t < cnC σ ∧ p2 < cnC σ ∧ tgC σ p2 = 101) ∧ (∀ a, fRC σ t 300 = some a → a < cnC σ ∧ tgC σ a = 100 ∧ 2 ≤ ghC σ a ∧ ghC σ a ≤ 4) ∧ (∀ a, fRC σ t 301 = some a → a < cnC σ ∧ tgC σ a = 100 ∧ 2 ≤ ghC σ a ∧ ghC σ a ≤ 4) ∧ (∀ a, fRC σ t 302 = some a → a < cnC σ ∧ tgC σ a = 100 ∧ 2 ≤ ghC σ a ∧ ghC σ a ≤ 4)
theorem RwT.x {M : List Nat} {σ τ : CsC} {t p2 : Nat} (h : RwT σ t p2) (e : ExC M σ τ) (m : M.elem 300 = false ∧ M.elem 301 = false ∧ M.elem 302 = false) : RwT τ t p2 := by sorry
theorem RwT.pr {σ : CsC} {t p2 a k : Nat} {v : Option Nat} (h : RwT σ t p2) (h0 : 300 ≠ k) (h1 : 301 ≠ k) (h2 : 302 ≠ k) : RwT (pRC σ a k v) t p2 := by sorry
theorem CuC.x {M : List Nat} {σ τ : CsC} {t p2 n : Nat} {x : TxY} (h : CuC σ t p2 x n) (r : RwT σ t p2) (e : ExC M σ τ) (m : (M.elem 300 = false ∧ M.elem 301 = false ∧ M.elem 302 = false) ∧ (M.elem 303 = false ∧ M.elem 305 = false ∧ M.elem 307 = false ∧ M.elem 308 = false) ∧ M.elem 997 = false ∧ M.elem 998 = false) : CuC τ t p2 x n := by sorry
theorem CuC.pi {σ : CsC} {t p2 n a k : Nat} {x : TxY} {v : Int32} (h : CuC σ t p2 x n) (h5 : 305 ≠ k) (h8 : 308 ≠ k) : CuC (pIC σ a k v) t p2 x n := by sorry
/-- the tokens of the text y stand in u -/
def TnK (τ : CsC) (u : Nat) (y : TxY) (m : Nat) : Prop := ∃ a0 a1 a2, (fRC τ u 300 = some a0 ∧ fRC τ u 301 = some a1 ∧ fRC τ u 302 = some a2) ∧ (fIC τ u 305).toInt = m ∧ ∀ j, j < m → (eIC τ a0 j).toInt = atY y j ∧ (eIC τ a1 j).toInt = (oneY y (atY y j)).1 ∧ (eIC τ a2 j).toInt = (oneY y (atY y j)).2
theorem CuC.tc {τ : CsC} {t p2 n : Nat} {x : TxY} (h : CuC τ t p2 x n) : TnK τ t x n := by sorry
/-- what is known of the rows of u -/
def RwU (σ : CsC) (u : Nat) : Prop := u < cnC σ ∧ (∀ a, fRC σ u 300 = some a → a < cnC σ ∧ tgC σ a = 100 ∧ ghC σ a = 3) ∧ (∀ a, fRC σ u 301 = some a → a < cnC σ ∧ tgC σ a = 100 ∧ ghC σ a = 4) ∧ (∀ a, fRC σ u 302 = some a → a < cnC σ ∧ tgC σ a = 100 ∧ ghC σ a = 2)
theorem RwU.mk {σ : CsC} {u : Nat} (H : HIC σ) (ty : TyC σ u 10) : RwU σ u := by sorry
theorem RwU.x {M : List Nat} {σ τ : CsC} {u : Nat} (h : RwU σ u) (e : ExC M σ τ) (m : M.elem 300 = false ∧ M.elem 301 = false ∧ M.elem 302 = false) : RwU τ u := by sorry
theorem RwU.pr {σ : CsC} {u a k : Nat} {v : Option Nat} (h : RwU σ u) (h0 : 300 ≠ k) (h1 : 301 ≠ k) (h2 : 302 ≠ k) : RwU (pRC σ a k v) u := by sorry
theorem TnK.x {M : List Nat} {σ τ : CsC} {u m : Nat} {y : TxY} (h : TnK σ u y m) (r : RwU σ u) (e : ExC M σ τ) (k : (M.elem 300 = false ∧ M.elem 301 = false ∧ M.elem 302 = false) ∧ M.elem 305 = false ∧ M.elem 998 = false) : TnK τ u y m := by sorry
theorem TnK.pr {σ : CsC} {u m a k : Nat} {y : TxY} {v : Option Nat} (h : TnK σ u y m) (h0 : 300 ≠ k) (h1 : 301 ≠ k) (h2 : 302 ≠ k) : TnK (pRC σ a k v) u y m := by sorry
theorem TnK.pi {σ : CsC} {u m a k : Nat} {y : TxY} {v : Int32} (h : TnK σ u y m) (h5 : 305 ≠ k) : TnK (pIC σ a k v) u y m := by sorry
/-- the rows of u are none of t's -/
def ApC (σ : CsC) (t u : Nat) : Prop := u ≠ t ∧ ∀ k, k = 300 ∨ k = 301 ∨ k = 302 → ∀ a, fRC σ u k = some a → ∀ k', k' = 300 ∨ k' = 301 ∨ k' = 302 ∨ k' = 303 → ¬ fRC σ t k' = some a
theorem ApC.of {σ τ : CsC} {t u : Nat} (h : ApC σ t u) (e : ∀ b, b = t ∨ b = u → ∀ k, k = 300 ∨ k = 301 ∨ k = 302 ∨ k = 303 → fRC τ b k = fRC σ b k) : ApC τ t u := by sorry
theorem TnK.cut {σ τ : CsC} {t u m : Nat} {y : TxY} (h : TnK σ u y m) (a : ApC σ t u) (f : FrA σ τ t) : TnK τ u y m := by sorry
/-- methods and variables that are told -/
abbrev LzY : Type := List (Int × Int × List Int) × List (Int × Int × Int × Int)
/-- the lists of P -/
def LfT (τ : CsC) (P a b : Nat) : Prop := (fRC τ P 211 = some a ∧ fRC τ P 212 = some b) ∧ ((a < cnC τ ∧ tgC τ a = 0 ∧ ghC τ a = 6) ∧ (b < cnC τ ∧ tgC τ b = 0 ∧ ghC τ b = 11))
/-- a list's row -/
def RwL (τ : CsC) (b n : Nat) : Prop := n = 0 ∨ ∃ r, fRC τ b 1 = some r ∧ r < cnC τ ∧ tgC τ r = 103
theorem RwL.mk {τ : CsC} {b n : Nat} (H : HI0 τ) (h1 : b < cnC τ) (h2 : tgC τ b = 0) (sz : (fIC τ b 2).toInt = n) : RwL τ b n := by sorry
theorem RwL.x {M : List Nat} {σ τ : CsC} {b n : Nat} (h : RwL σ b n) (hb : b < cnC σ) (e : ExC M σ τ) (m1 : M.elem 1 = false) : RwL τ b n := by sorry
theorem RwL.el {M : List Nat} {σ τ : CsC} {b n j : Nat} (h : RwL σ b n) (hb : b < cnC σ) (e : ExC M σ τ) (m : M.elem 2 = false ∧ M.elem 1 = false) (hj : j < n) : elC τ b j = elC σ b j := by sorry
theorem RwL.pr {σ : CsC} {b n c k : Nat} {v : Option Nat} (h : RwL σ b n) (h3 : 1 ≠ k) : RwL (pRC σ c k v) b n := by sorry
/-- how many stand there, the variables, the methods -/
def LsT (τ : CsC) (P a b : Nat) (z : LzY) : Prop := LfT τ P a b ∧ ((fIC τ a 2).toInt = z.1.length ∧ (fIC τ b 2).toInt = z.2.length) ∧ (VlC τ b z.2 ∧ RwL τ b z.2.length) ∧ MlC τ a 0 (cnC τ) z.1 ∧ RwL τ a z.1.length
def PgT (τ : CsC) (P : Nat) : Prop := P < cnC τ ∧ tgC τ P = 7
theorem PgT.x {M : List Nat} {σ τ : CsC} {P : Nat} (h : PgT σ P) (e : ExC M σ τ) : PgT τ P := ⟨Nat.lt_of_lt_of_le h.1 e.1, (e.2.2 P h.1).1.1.trans h.2⟩
theorem LfT.x {M : List Nat} {σ τ : CsC} {P a b : Nat} (h : LfT σ P a b) (p : PgT σ P) (e : ExC M σ τ) : LfT τ P a b := by sorry
theorem LsT.cl {M : List Nat} {σ τ : CsC} {P a b : Nat} {z : LzY} (h : LsT σ P a b z) (p : PgT σ P) (e : ExC M σ τ) (m1 : M.elem 1 = false ∧ M.elem 185 = false ∧ M.elem 995 = false) (qa : fIC τ a 2 = fIC σ a 2 ∧ ∀ j : Nat, (j : Int) < (fIC σ a 2).toInt → elC τ a j = elC σ a j) (qb : fIC τ b 2 = fIC σ b 2 ∧ ∀ j : Nat, (j : Int) < (fIC σ b 2).toInt → elC τ b j = elC σ b j) : LsT τ P a b z := by sorry
theorem LsT.x {M : List Nat} {σ τ : CsC} {P a b : Nat} {z : LzY} (h : LsT σ P a b z) (p : PgT σ P) (e : ExC M σ τ) (m : (M.elem 2 = false ∧ M.elem 1 = false) ∧ M.elem 185 = false ∧ M.elem 995 = false) : LsT τ P a b z := by sorry
theorem LfT.pr {σ : CsC} {P a b c k : Nat} {v : Option Nat} (h : LfT σ P a b) (h1 : 211 ≠ k) (h2 : 212 ≠ k) : LfT (pRC σ c k v) P a b := ⟨⟨(fR_w3 h1).trans h.1.1, (fR_w3 h2).trans h.1.2⟩, h.2⟩
theorem el_pr {σ : CsC} {b c k j : Nat} {v : Option Nat} (h3 : 1 ≠ k) : elC (pRC σ c k v) b j = elC σ b j := by sorry
theorem LsT.pr {σ : CsC} {P a b c k : Nat} {v : Option Nat} {z : LzY} (h : LsT σ P a b z) (h1 : 211 ≠ k) (h2 : 212 ≠ k) (h3 : 1 ≠ k ∧ 183 ≠ k) : LsT (pRC σ c k v) P a b z := by sorry
theorem LsT.pi {σ : CsC} {P a b c k : Nat} {v : Int32} {z : LzY} (h : LsT σ P a b z) (h2 : (2 ≠ k ∧ 330 ≠ k ∧ 331 ≠ k ∧ 332 ≠ k ∧ 333 ≠ k) ∧ 180 ≠ k ∧ 182 ≠ k ∧ 185 ≠ k) : LsT (pIC σ c k v) P a b z := by sorry
theorem MlC.lo {σ : CsC} {a lo hi : Nat} : ∀ l : List (Int × Int × List Int), MlC σ a lo hi l → MlC σ a 0 hi l := by sorry
/-- lists of another program -/
theorem LsT.na {σ : CsC} {P a b q : Nat} {z : LzY} (h : LsT σ P a b z) (H : HIC σ) (t : TyC σ q 7) (n1 : ¬ fRC σ q 211 = some a) (n2 : ¬ fRC σ q 212 = some b) : ∀ k, k = 211 ∨ k = 212 ∨ k = 213 ∨ k = 214 → ¬ fRC σ q k = some a ∧ ¬ fRC σ q k = some b := by sorry
/-- reading goes on, and the sizes of a and b are known -/
def OuL (τ : CsC) (r a b : Nat) (z : LzY) : Prop := ∃ s, ReC τ r s ∧ zL s (1000 + a) = z.1.length ∧ zL s (1000 + b) = z.2.length ∧ zO s b = some z.2 ∧ zP s a = some z.1
theorem OuL.st {σ τ : CsC} {r a b : Nat} {z : LzY} (h : OuL σ r a b z) (q : ∀ s, ReC σ r s → ReC τ r (mthY s)) : OuL τ r a b z := by sorry
theorem OuL.sz {τ : CsC} {r a b : Nat} {z : LzY} (h : OuL τ r a b z) : ((fIC τ a 2).toInt = z.1.length ∧ (fIC τ b 2).toInt = z.2.length) ∧ VlC τ b z.2 ∧ MlC τ a 0 (cnC τ) z.1 := by sorry
theorem OuL.mk {τ : CsC} {r q t P a b : Nat} {z : LzY} (H : HI0 τ) (t8 : TyC τ r 8) (e2 : (fIC τ r 242).toInt = 0) (e3 : (fIC τ r 243).toInt = 0) (hq : fRC τ r 240 = some q) (ht : fRC τ r 241 = some t) (hz : ∀ k, [211, 212, 213, 214].elem k = true → ∀ a, fRC τ q k = some a → (fIC τ a 2).toInt = 0) (hL : LsT τ P a b z) (n : ∀ k, k = 211 ∨ k = 212 → ¬ fRC τ q k = some a ∧ ¬ fRC τ q k = some b) : OuL τ r a b z := by sorry
theorem OuL.ls {τ : CsC} {r P a b : Nat} {z : LzY} (h : OuL τ r a b z) (H : HI0 τ) (f : LfT τ P a b) : LsT τ P a b z := by sorry
theorem ty_p2 {σ τ : CsC} {r c a1 k1 a2 k2 : Nat} {v1 v2 : Option Nat} {M : List Nat} (t : TyC σ r c) (hc : c ≠ 2) (e : ExC M (pRC (pRC σ a1 k1 v1) a2 k2 v2) τ) : TyC τ r c := by sorry
theorem hi_p2 {σ : CsC} {r : Nat} (h : HIC σ) (t : TyC σ r 8) : HI0 (pIC (pIC σ r 242 (Int32.ofInt 0)) r 243 (Int32.ofInt 0)) := by sorry
theorem sz_0 {σ τ : CsC} {q : Nat} {M : List Nat} (H : HIC σ) (t : TyC σ q 7) (e : ExC M σ τ) (m : M.elem 2 = false) (h : ∀ k, [211, 212, 213, 214].elem k = true → ∀ a, fRC σ q k = some a → (fIC σ a 2).toInt ≤ 0) : ∀ k, [211, 212, 213, 214].elem k = true → ∀ a, fRC τ q k = some a → (fIC τ a 2).toInt = 0 := by sorry
theorem z242 {σ : CsC} {r : Nat} {v v' : Int32} : fIC (pIC (pIC σ r 242 v) r 243 v') r 242 = v := by sorry
theorem z243 {σ : CsC} {r : Nat} {v v' : Int32} : fIC (pIC (pIC σ r 242 v) r 243 v') r 243 = v' := by sorry
theorem u2_i {σ : CsC} {r k k' : Nat} {v v' : Int32} (a : Nat) {j : Nat} (h : j ≠ k) (h' : j ≠ k') : fIC (pIC (pIC σ r k v) r k' v') a j = fIC σ a j := by sorry
abbrev Pp_readProgram (w : TxY × Nat × TxY × Nat × Nat × LzY) : CpC := fun As σ => match As with
  | [.inr (.inr (some p0)), .inr (.inr (some p1)), .inr (.inr (some p2)), .inl p3] => (cnC σ < 1000000 ∧ w.1.2 = p3.toInt ∧ (∀ j : Nat, (j : Int) < w.1.2 → (eIC σ p2 j &&& 255).toInt = w.1.1 j) ∧ okY w.1) ∧ (∀ t, fRC σ p1 210 = some t → WdC σ t ∧ ApC σ t w.2.1 ∧ RwU σ w.2.1 ∧ TnK σ w.2.1 w.2.2.1 w.2.2.2.1) ∧ PgT σ w.2.2.2.2.1 ∧ ∃ a b, LsT σ w.2.2.2.2.1 a b w.2.2.2.2.2 ∧ ¬ fRC σ p1 211 = some a ∧ ¬ fRC σ p1 212 = some b
  | _ => False
abbrev Qp_readProgram (w : TxY × Nat × TxY × Nat × Nat × LzY) : CqC := fun As σ w_ τ => match As with
  | [.inr (.inr (some p0)), .inr (.inr (some p1)), .inr (.inr (some p2)), .inl p3] => (∃ t n, fRC τ p0 241 = some t ∧ fRC σ p1 210 = some t ∧ CuC τ t p2 w.1 n) ∧ TnK τ w.2.1 w.2.2.1 w.2.2.2.1 ∧ ∃ a b, LsT τ w.2.2.2.2.1 a b w.2.2.2.2.2
  | _ => True
theorem p_readProgram (w : TxY × Nat × TxY × Nat × Nat × LzY) : PbC KX7_readProgram [(117, P_X6_clear, Q_X6_clear), (188, P_X9_cutText, Q_X9_cutText), (125, P_X7_code, Q_X7_code), (134, P_X7_readMethod, Q_X7_readMethod)] [(188, U_cutText), (117, U_clear)] (fun As σ => P_X7_readProgram As σ ∧ Pp_readProgram w As σ) (Qp_readProgram w) := by sorry
abbrev U_readProgram : CqC := fun As σ w τ => ∀ x, Pp_readProgram x As σ → Qp_readProgram x As σ w τ
theorem n_readProgram (l : Launch) : CMetC l 313 123 P_X7_readProgram (fun As σ w τ => Q_X7_readProgram As σ w τ ∧ U_readProgram As σ w τ) := by sorry

/-! reading: what it takes -/
/-- how far a list's row may still grow -/
def gpC (σ : CsC) (a : Nat) : Nat := match Nat.beq (tgC σ a) 0 with
  | true => (match fRC σ a 1 with
    | some r => (match Nat.blt r 1000000 with
      | true => 6500 - alC σ r
      | false => 6500)
    | none => 6500)
  | false => 0
def gsC (σ : CsC) : Nat → Nat
  | 0 => 0
  | n + 1 => gsC σ n + gpC σ n
theorem gsC_eq {σ τ : CsC} (n : Nat) (h : ∀ a, a < n → gpC τ a = gpC σ a) : gsC τ n = gsC σ n := by
  induction n with
  | zero => rfl
  | succ n ih => unfold gsC; rw [ih (fun a ha => h a (by omega)), h n (by omega)]
theorem gsC_one {σ τ : CsC} {x d : Nat} (n : Nat) (hx : x < n) (h : ∀ a, a < n → a ≠ x → gpC τ a = gpC σ a) (hd : gpC τ x + d ≤ gpC σ x) : gsC τ n + d ≤ gsC σ n := by
  induction n with
  | zero => omega
  | succ n ih =>
    unfold gsC
    by_cases q : x = n
    · subst q
      rw [gsC_eq x (fun a ha => h a (by omega) (by omega))]
      omega
    · have := ih (by omega) (fun a ha hn => h a (by omega) hn)
      rw [h n (by omega) (fun z => q z.symm)]
      omega
theorem gsC_nil {σ : CsC} {n m : Nat} (hn : n ≤ m) (h : ∀ a, n ≤ a → a < m → gpC σ a = 0) : gsC σ m = gsC σ n := by
  induction m with
  | zero => obtain rfl : n = 0 := by omega
            rfl
  | succ m ih =>
    by_cases q : n = m + 1
    · subst q; rfl
    · show gsC σ m + gpC σ m = gsC σ n
      rw [h m (by omega) (by omega), ih (by omega) (fun a h1 h2 => h a h1 (by omega))]
      rfl
theorem gpC_no {σ : CsC} {a : Nat} (h : tgC σ a ≠ 0) : gpC σ a = 0 := by
  unfold gpC
  rw [nb_ne h]
theorem gpC_x {σ τ : CsC} {a : Nat} (h : HI0 σ) (ha : a < cnC σ) (ht : tgC τ a = tgC σ a) (hr : tgC σ a = 0 → fRC τ a 1 = fRC σ a 1) (hl : ∀ r, r < cnC σ → tgC σ r = 103 → alC τ r = alC σ r) : gpC τ a = gpC σ a := by
  by_cases q : tgC σ a = 0
  · have e0 : Nat.beq (tgC σ a) 0 = true := by rw [q]; rfl
    unfold gpC
    rw [ht, e0, hr q]
    rcases (h a ha).2.1 q with ⟨p, -⟩ | ⟨r, p, ⟨p1, p2, -⟩, -⟩
    · rw [p]; rfl
    · rw [p]; dsimp only; rw [hl r p1 p2]
  · rw [gpC_no q, gpC_no (by rw [ht]; exact q)]
/-- an exp that waits for its right operand -/
def WtC (σ : CsC) (a : Nat) : Prop := fIC σ a 60 = 7 ∧ fRC σ a 73 = none
/-- what a piece of reading takes, x apart -/
def GwC (x : Option Nat) (σ τ : CsC) : Prop := cnC σ ≤ cnC τ ∧ slC τ + 4 * gsC τ (cnC τ) ≤ slC σ + 4 * gsC σ (cnC σ) + 22 * (cnC τ - cnC σ) ∧ ∀ a, a < cnC σ → (tgC σ a < 50 ∨ 100 ≤ tgC σ a → tgC τ a = tgC σ a ∧ ghC τ a = ghC σ a) ∧ (tgC σ a = 100 → ghC σ a = 2 → eIC τ a = eIC σ a) ∧ (x ≠ some a → tgC σ a = 2 → WtC σ a → WtC τ a ∧ fRC τ a 75 = fRC σ a 75)
theorem GwC.rf {x : Option Nat} {σ : CsC} : GwC x σ σ := ⟨Nat.le_refl _, by omega, fun a _ => ⟨fun _ => ⟨rfl, rfl⟩, fun _ _ => rfl, fun _ _ h => ⟨h, rfl⟩⟩⟩
theorem GwC.tr {x : Option Nat} {σ τ υ : CsC} (h1 : GwC x σ τ) (h2 : GwC x τ υ) : GwC x σ υ := by
  obtain ⟨a1, a2, a3⟩ := h1
  obtain ⟨b1, b2, b3⟩ := h2
  refine ⟨by omega, by omega, fun a ha => ?_⟩
  obtain ⟨c1, c3, c4⟩ := a3 a ha
  obtain ⟨d1, d3, d4⟩ := b3 a (by omega)
  refine ⟨fun z => ?_, fun z w => ?_, fun hx z w => ?_⟩
  · have p := c1 z
    have q := d1 (by rw [p.1]; exact z)
    exact ⟨q.1.trans p.1, q.2.trans p.2⟩
  · have p := c1 (by omega)
    exact (d3 (p.1.trans z) (p.2.trans w)).trans (c3 z w)
  · have p := c1 (by omega)
    have q := c4 hx z w
    have q2 := d4 hx (p.1.trans z) q.1
    exact ⟨q2.1, q2.2.trans q.2⟩
theorem GwC.nt {x : Nat} {y : Option Nat} {σ τ υ : CsC} (h1 : GwC y σ τ) (h2 : GwC (some x) τ υ) (hx : cnC σ ≤ x) : GwC y σ υ := by
  obtain ⟨a1, a2, a3⟩ := h1
  obtain ⟨b1, b2, b3⟩ := h2
  refine ⟨by omega, by omega, fun a ha => ?_⟩
  obtain ⟨c1, c3, c4⟩ := a3 a ha
  obtain ⟨d1, d3, d4⟩ := b3 a (by omega)
  refine ⟨fun z => ?_, fun z w => ?_, fun hy z w => ?_⟩
  · have p := c1 z
    have q := d1 (by rw [p.1]; exact z)
    exact ⟨q.1.trans p.1, q.2.trans p.2⟩
  · have p := c1 (by omega)
    exact (d3 (p.1.trans z) (p.2.trans w)).trans (c3 z w)
  · have p := c1 (by omega)
    have q := c4 hy z w
    have q2 := d4 (fun e => by cases e; omega) (p.1.trans z) q.1
    exact ⟨q2.1, q2.2.trans q.2⟩
theorem GwC.ap {x : Option Nat} {σ τ : CsC} (h : GwC none σ τ) : GwC x σ τ := ⟨h.1, h.2.1, fun a ha => ⟨(h.2.2 a ha).1, (h.2.2 a ha).2.1, fun _ => (h.2.2 a ha).2.2 (fun z => by cases z)⟩⟩
/-- a step that makes nothing and leaves lists, codes of tokens and what waits alone -/
theorem ExC.gw {M : List Nat} {x : Option Nat} {σ τ : CsC} (h : HI0 σ) (e : ExC M σ τ) (hm : M.elem 1 = false ∧ M.elem 2 = false ∧ M.elem 73 = false ∧ M.elem 75 = false ∧ M.elem 999 = false ∧ M.elem 998 = false) : GwC x σ τ := by
  obtain ⟨m1, m2, m73, m75, m999, m998⟩ := hm
  have ec : τ.1 = σ.1 := e.2.1.2.1 m999
  have e1 : cnC τ = cnC σ := by unfold cnC; rw [ec]
  have e2 : slC τ = slC σ := by unfold slC; rw [ec]
  have eg : gsC τ (cnC σ) = gsC σ (cnC σ) := gsC_eq _ (fun a ha => gpC_x h ha (e.2.2 a ha).1.1 (fun _ => ((e.2.2 a ha).2.2.2 1 m1).2) (fun r hr _ => (e.2.2 r hr).1.2.1))
  refine ⟨by omega, by rw [e1, e2, eg]; omega, fun a ha => ?_⟩
  obtain ⟨⟨p1, p2, p3⟩, q1, q2, q3⟩ := e.2.2 a ha
  refine ⟨fun _ => ⟨p1, p3⟩, fun t g => (e.2.1.2.2 a ha (by rw [t, g]; exact prC.c (by decide) m998)).1, fun _ z w => ?_⟩
  unfold WtC at w ⊢
  rw [(q1 (by omega) 60 (by decide)).1, (q3 73 m73).2, (q3 75 m75).2]
  exact ⟨w, rfl⟩
theorem ExC.sg {M : List Nat} {σ τ : CsC} (h : HI0 σ) (e : ExC M σ τ) (hm : M.elem 1 = false ∧ M.elem 999 = false) : slC τ + 4 * gsC τ (cnC τ) = slC σ + 4 * gsC σ (cnC σ) ∧ cnC τ = cnC σ := by
  have ec : τ.1 = σ.1 := e.2.1.2.1 hm.2
  have e1 : cnC τ = cnC σ := by unfold cnC; rw [ec]
  have e2 : slC τ = slC σ := by unfold slC; rw [ec]
  have eg : gsC τ (cnC σ) = gsC σ (cnC σ) := gsC_eq _ (fun a ha => gpC_x h ha (e.2.2 a ha).1.1 (fun _ => ((e.2.2 a ha).2.2.2 1 hm.1).2) (fun r hr _ => (e.2.2 r hr).1.2.1))
  rw [e1, e2, eg]
  exact ⟨rfl, rfl⟩
/-- how far: the token, the fault; the cells: e where no fault is told, f where one comes, g where one was -/
def CtC (σ : CsC) (r : Nat) : Int := match fRC σ r 241 with
  | some t => (fIC σ t 305).toInt
  | none => 0
def CqC0 (r : Nat) (e f g : Int) (σ τ : CsC) (m n : Int) : Prop :=
  (¬ (fIC σ r 243).toInt = 0 → n ≤ m + g) ∧ ((fIC σ r 243).toInt = 0 → (fIC τ r 243).toInt = 0 → n + 8 * (fIC σ r 242).toInt ≤ m + 8 * (fIC τ r 242).toInt + e) ∧ ((fIC σ r 243).toInt = 0 → ¬ (fIC τ r 243).toInt = 0 → n + 8 * (fIC σ r 242).toInt ≤ m + 8 * (fIC τ r 242).toInt + f)
def CoC (r : Nat) (e f g : Int) (σ τ : CsC) : Prop := (fIC σ r 242).toInt ≤ (fIC τ r 242).toInt ∧ CtC τ r = CtC σ r ∧ ((fIC σ r 242).toInt ≤ CtC σ r → (fIC τ r 242).toInt ≤ CtC τ r) ∧
  (¬ (fIC σ r 243).toInt = 0 → ¬ (fIC τ r 243).toInt = 0 ∧ (fIC τ r 242).toInt = (fIC σ r 242).toInt) ∧ CqC0 r e f g σ τ (cnC σ) (cnC τ) ∧
  ∀ a, a < cnC σ → tgC σ a = 0 → (a < cnC τ ∧ tgC τ a = 0) ∧ CqC0 r e f g σ τ (fIC σ a 2).toInt (fIC τ a 2).toInt
theorem CqC0.tr {r : Nat} {e f g E F G e' f' g' m n o : Int} {σ τ υ : CsC} (p1 : ¬ (fIC σ r 243).toInt = 0 → ¬ (fIC τ r 243).toInt = 0 ∧ (fIC τ r 242).toInt = (fIC σ r 242).toInt) (p2 : ¬ (fIC τ r 243).toInt = 0 → ¬ (fIC υ r 243).toInt = 0 ∧ (fIC υ r 242).toInt = (fIC τ r 242).toInt) (h1 : CqC0 r e f g σ τ m n) (h2 : CqC0 r E F G τ υ n o) (he : e + E ≤ e') (hf1 : f + G ≤ f') (hf2 : e + F ≤ f') (hg : g + G ≤ g') : CqC0 r e' f' g' σ υ m o := by
  obtain ⟨a4, a5, a6⟩ := h1
  obtain ⟨b4, b5, b6⟩ := h2
  refine ⟨fun z => ?_, fun z w => ?_, fun z w => ?_⟩
  · have := a4 z
    have := b4 (p1 z).1
    omega
  · by_cases y : (fIC τ r 243).toInt = 0
    · have := a5 z y
      have := b5 y w
      omega
    · exact absurd w (p2 y).1
  · by_cases y : (fIC τ r 243).toInt = 0
    · have := a5 z y
      have := b6 y w
      omega
    · have := a6 z y
      have := b4 y
      have := (p2 y).2
      omega
theorem CqC0.mo {r : Nat} {e f g e' f' g' m n : Int} {σ τ : CsC} (h : CqC0 r e f g σ τ m n) (he : e ≤ e') (hf : f ≤ f') (hg : g ≤ g') : CqC0 r e' f' g' σ τ m n := ⟨fun z => by have := h.1 z; omega, fun z w => by have := h.2.1 z w; omega, fun z w => by have := h.2.2 z w; omega⟩
theorem CoC.tr {r : Nat} {e f g E F G e' f' g' : Int} {σ τ υ : CsC} (h1 : CoC r e f g σ τ) (h2 : CoC r E F G τ υ) (he : e + E ≤ e') (hf1 : f + G ≤ f') (hf2 : e + F ≤ f') (hg : g + G ≤ g') : CoC r e' f' g' σ υ := by
  obtain ⟨a1, a2, a3, a4, a5, a6⟩ := h1
  obtain ⟨b1, b2, b3, b4, b5, b6⟩ := h2
  refine ⟨by omega, b2.trans a2, fun z => b3 (a3 z), fun z => ⟨(b4 (a4 z).1).1, (b4 (a4 z).1).2.trans (a4 z).2⟩, CqC0.tr a4 b4 a5 b5 he hf1 hf2 hg, fun a ha ht => ?_⟩
  obtain ⟨⟨c1, c2⟩, c3⟩ := a6 a ha ht
  obtain ⟨d1, d3⟩ := b6 a c1 c2
  exact ⟨d1, CqC0.tr a4 b4 c3 d3 he hf1 hf2 hg⟩
theorem CoC.mo {r : Nat} {e f g e' f' g' : Int} {σ τ : CsC} (h : CoC r e f g σ τ) (he : e ≤ e') (hf : f ≤ f') (hg : g ≤ g') : CoC r e' f' g' σ τ := ⟨h.1, h.2.1, h.2.2.1, h.2.2.2.1, h.2.2.2.2.1.mo he hf hg, fun a ha ht => ⟨(h.2.2.2.2.2 a ha ht).1, (h.2.2.2.2.2 a ha ht).2.mo he hf hg⟩⟩
theorem CqC0.nf {r : Nat} {e f g f' g' m n : Int} {σ τ : CsC} (h : CqC0 r e f g σ τ m n) (p : ¬ (fIC σ r 243).toInt = 0 → ¬ (fIC τ r 243).toInt = 0 ∧ (fIC τ r 242).toInt = (fIC σ r 242).toInt) (hz : (fIC τ r 243).toInt = 0) : CqC0 r e f' g' σ τ m n := ⟨fun z => absurd hz (p z).1, h.2.1, fun _ w => absurd hz w⟩
/-- no fault has come -/
theorem CoC.nf {r : Nat} {e f g f' g' : Int} {σ τ : CsC} (h : CoC r e f g σ τ) (hz : (fIC τ r 243).toInt = 0) : CoC r e f' g' σ τ := ⟨h.1, h.2.1, h.2.2.1, h.2.2.2.1, h.2.2.2.2.1.nf h.2.2.2.1 hz, fun a ha ht => ⟨(h.2.2.2.2.2 a ha ht).1, (h.2.2.2.2.2 a ha ht).2.nf h.2.2.2.1 hz⟩⟩
theorem CqC0.wf {r : Nat} {e f g e' f' m n : Int} {σ τ : CsC} (h : CqC0 r e f g σ τ m n) (hz : ¬ (fIC σ r 243).toInt = 0) : CqC0 r e' f' g σ τ m n := ⟨h.1, fun w => absurd w hz, fun w => absurd w hz⟩
/-- a fault was there -/
theorem CoC.wf {r : Nat} {e f g e' f' : Int} {σ τ : CsC} (h : CoC r e f g σ τ) (hz : ¬ (fIC σ r 243).toInt = 0) : CoC r e' f' g σ τ := ⟨h.1, h.2.1, h.2.2.1, h.2.2.2.1, h.2.2.2.2.1.wf hz, fun a ha ht => ⟨(h.2.2.2.2.2 a ha ht).1, (h.2.2.2.2.2 a ha ht).2.wf hz⟩⟩
theorem CqC0.rf {r : Nat} {σ : CsC} {m : Int} : CqC0 r 0 0 0 σ σ m m := ⟨fun _ => by omega, fun _ _ => by omega, fun _ _ => by omega⟩
theorem CoC.rf {r : Nat} {σ : CsC} : CoC r 0 0 0 σ σ := ⟨Int.le_refl _, rfl, id, fun z => ⟨z, rfl⟩, CqC0.rf, fun a ha ht => ⟨⟨ha, ht⟩, CqC0.rf⟩⟩
theorem CtC.x {M : List Nat} {σ τ : CsC} {r : Nat} (h : HI0 σ) (t : TyC σ r 8) (e : ExC M σ τ) (hm : M.elem 241 = false ∧ M.elem 305 = false) : CtC τ r = CtC σ r := by
  unfold CtC
  rw [t.mr e hm.1]
  obtain ⟨b, -, q, tb⟩ := cg241 h t
  rw [q]
  dsimp only
  rw [tb.mi e hm.2]
theorem CqC0.u {r : Nat} {u m n : Int} {σ τ : CsC} (e1 : fIC τ r 242 = fIC σ r 242) (e2 : fIC τ r 243 = fIC σ r 243) (h : n ≤ m + u) : CqC0 r u u u σ τ m n := by
  unfold CqC0
  rw [e1, e2]
  exact ⟨fun _ => h, fun _ _ => by omega, fun _ _ => by omega⟩
/-- a step that leaves the reader's place alone: what it takes is at most u -/
theorem ExC.cou2 {M : List Nat} {σ τ : CsC} {r : Nat} {u : Int} (h : HI0 σ) (t : TyC σ r 8) (e : ExC M σ τ) (hm : M.elem 241 = false ∧ M.elem 305 = false ∧ M.elem 242 = false ∧ M.elem 243 = false) (hu : (cnC τ : Int) ≤ cnC σ + u) (hs : ∀ a, a < cnC σ → tgC σ a = 0 → (fIC τ a 2).toInt ≤ (fIC σ a 2).toInt + u) : CoC r u u u σ τ := by
  have e1 := t.mi e hm.2.2.1
  have e2 := t.mi e hm.2.2.2
  have e3 := CtC.x h t e ⟨hm.1, hm.2.1⟩
  refine ⟨by rw [e1]; exact Int.le_refl _, e3, fun z => by rw [e1, e3]; exact z, fun z => ⟨by rw [e2]; exact z, by rw [e1]⟩, CqC0.u e1 e2 hu, fun a ha ht => ⟨⟨Nat.lt_of_lt_of_le ha e.1, (e.2.2 a ha).1.1.trans ht⟩, CqC0.u e1 e2 (hs a ha ht)⟩⟩
theorem ExC.cou {M : List Nat} {σ τ : CsC} {r : Nat} {u : Int} (h : HI0 σ) (t : TyC σ r 8) (e : ExC M σ τ) (hm : M.elem 241 = false ∧ M.elem 305 = false ∧ M.elem 242 = false ∧ M.elem 243 = false ∧ M.elem 2 = false) (hu : (cnC τ : Int) ≤ cnC σ + u) : CoC r u u u σ τ := by
  have h1 := e.1
  exact e.cou2 h t ⟨hm.1, hm.2.1, hm.2.2.1, hm.2.2.2.1⟩ hu (fun a ha _ => by rw [((e.2.2 a ha).2.2.2 2 hm.2.2.2.2).1]; omega)
theorem RawC.n0 {σ : CsC} {a c : Nat} (r : RawC σ a c) : tgC σ a ≠ 0 := by rw [r.2.1]; omega
theorem ExT.cn {a : Nat} {M : List Nat} {σ τ : CsC} (h : ExT a M σ τ) (hm : M.elem 999 = false) : cnC τ = cnC σ := by unfold cnC; rw [h.2.1.2.1 hm]
theorem rfo273 {σ : CsC} {a : Nat} {o : Option Nat} (t : OtC σ o 9) (h : ∀ b, o = some b → b < a) : RfC σ a 273 o := by
  cases o with
  | none => exact (rfl : (rfC 273).1 = 1)
  | some b => exact Or.inr ⟨t b rfl, Or.inl rfl, Or.inl rfl, fun z => absurd z (by decide), fun _ => h b rfl⟩
/-- an object under construction: its fields, its end -/
theorem ExT.co {a c : Nat} {M : List Nat} {σ τ : CsC} {r : Nat} {u : Int} (h : HI0 σ) (t : TyC σ r 8) (w : RawC σ a c) (e : ExT a M σ τ) (hm : M.elem 241 = false ∧ M.elem 305 = false ∧ M.elem 242 = false ∧ M.elem 243 = false ∧ M.elem 2 = false) (hu : (cnC τ : Int) ≤ cnC σ + u) : CoC r u u u σ τ := by
  have e1 := t.mit w (by decide) e hm.2.2.1
  have e2 := t.mit w (by decide) e hm.2.2.2.1
  have e3 : CtC τ r = CtC σ r := by
    unfold CtC
    rw [t.mrt w (by decide) e hm.1]
    obtain ⟨b, -, q, tb⟩ := cg241 h t
    rw [q]
    dsimp only
    rw [tb.mit w (by decide) e hm.2.1]
  have h1 := e.1
  have h0 : (0 : Int) ≤ u := by omega
  refine ⟨by rw [e1]; exact Int.le_refl _, e3, fun z => by rw [e1, e3]; exact z, fun z => ⟨by rw [e2]; exact z, by rw [e1]⟩, CqC0.u e1 e2 hu, fun b hb ht => ?_⟩
  have hn : b ≠ a := fun q => by subst q; have h2 := w.2.1; omega
  exact ⟨⟨Nat.lt_of_lt_of_le hb e.1, (e.2.2 b hb hn).1.1.trans ht⟩, CqC0.u e1 e2 (by rw [((e.2.2 b hb hn).2.2.2 2 hm.2.2.2.2).1]; omega)⟩
theorem ExT.gw {a c : Nat} {x : Option Nat} {σ τ : CsC} (h : HI0 σ) (w : RawC σ a c) (e : ExT a [] σ τ) (ht : tgC τ a ≠ 0) : GwC x σ τ := by
  have ec : τ.1 = σ.1 := e.2.1.2.1 rfl
  have e1 : cnC τ = cnC σ := by unfold cnC; rw [ec]
  have e2 : slC τ = slC σ := by unfold slC; rw [ec]
  have hw := w.2.1
  have hw2 := w.2.2
  have eg : gsC τ (cnC σ) = gsC σ (cnC σ) := gsC_eq _ (fun b hb => by
    by_cases q : b = a
    · subst q; rw [gpC_no ht, gpC_no (by omega)]
    · exact gpC_x h hb (e.2.2 b hb q).1.1 (fun _ => ((e.2.2 b hb q).2.2.2 1 rfl).2) (fun s hs hs2 => (e.2.2 s hs (fun z => by subst z; omega)).1.2.1))
  refine ⟨by omega, by rw [e1, e2, eg]; omega, fun b hb => ?_⟩
  by_cases q : b = a
  · subst q
    exact ⟨fun z => by omega, fun z => by omega, fun _ z => by omega⟩
  · obtain ⟨⟨p1, p2, p3⟩, q1, q2, q3⟩ := e.2.2 b hb q
    refine ⟨fun _ => ⟨p1, p3⟩, fun t g => (e.2.1.2.2 b hb q (by rw [t, g]; rfl)).1, fun _ z w => ?_⟩
    unfold WtC at w ⊢
    rw [(q1 (by omega) 60 (by decide)).1, (q3 73 rfl).2, (q3 75 rfl).2]
    exact ⟨w, rfl⟩
/-- one more object or row -/
theorem ExC.gwn {x : Option Nat} {σ τ : CsC} {n : Nat} (h : HI0 σ) (e : ExC [999] σ τ) (hc : cnC τ = cnC σ + 1) (hs : slC τ = slC σ + n) (hn : n ≤ 22) (ht : tgC τ (cnC σ) ≠ 0) : GwC x σ τ := by
  have eg : gsC τ (cnC τ) = gsC σ (cnC σ) := by
    rw [hc]
    show gsC τ (cnC σ) + gpC τ (cnC σ) = _
    rw [gpC_no ht]
    exact gsC_eq _ (fun a ha => gpC_x h ha (e.2.2 a ha).1.1 (fun _ => ((e.2.2 a ha).2.2.2 1 rfl).2) (fun r hr _ => (e.2.2 r hr).1.2.1))
  refine ⟨by omega, by rw [eg, hc, hs]; omega, fun a ha => ?_⟩
  obtain ⟨⟨p1, p2, p3⟩, q1, q2, q3⟩ := e.2.2 a ha
  refine ⟨fun _ => ⟨p1, p3⟩, fun t g => (e.2.1.2.2 a ha (by rw [t, g]; rfl)).1, fun _ z w => ?_⟩
  unfold WtC at w ⊢
  rw [(q1 (by omega) 60 (by decide)).1, (q3 73 rfl).2, (q3 75 rfl).2]
  exact ⟨w, rfl⟩
def RdC (r : Nat) (x : Option Nat) (e f g : Int) (σ τ : CsC) : Prop := GwC x σ τ ∧ CoC r e f g σ τ
theorem RdC.rf {r : Nat} {x : Option Nat} {σ : CsC} : RdC r x 0 0 0 σ σ := ⟨GwC.rf, CoC.rf⟩
theorem RdC.tr {r : Nat} {x : Option Nat} {e f g E F G e' f' g' : Int} {σ τ υ : CsC} (h1 : RdC r x e f g σ τ) (h2 : RdC r x E F G τ υ) (he : e + E ≤ e') (hf1 : f + G ≤ f') (hf2 : e + F ≤ f') (hg : g + G ≤ g') : RdC r x e' f' g' σ υ := ⟨h1.1.tr h2.1, h1.2.tr h2.2 he hf1 hf2 hg⟩
theorem RdC.trx {r y : Nat} {x : Option Nat} {e f g E F G e' f' g' : Int} {σ τ υ : CsC} (h1 : RdC r x e f g σ τ) (h2 : RdC r (some y) E F G τ υ) (hy : cnC σ ≤ y) (he : e + E ≤ e') (hf1 : f + G ≤ f') (hf2 : e + F ≤ f') (hg : g + G ≤ g') : RdC r x e' f' g' σ υ := ⟨h1.1.nt h2.1 hy, h1.2.tr h2.2 he hf1 hf2 hg⟩
theorem RdC.mo {r : Nat} {x : Option Nat} {e f g e' f' g' : Int} {σ τ : CsC} (h : RdC r x e f g σ τ) (he : e ≤ e') (hf : f ≤ f') (hg : g ≤ g') : RdC r x e' f' g' σ τ := ⟨h.1, h.2.mo he hf hg⟩
theorem RdC.nf {r : Nat} {x : Option Nat} {e f g : Int} (f' g' : Int) {σ τ : CsC} (h : RdC r x e f g σ τ) (hz : (fIC τ r 243).toInt = 0) : RdC r x e f' g' σ τ := ⟨h.1, h.2.nf hz⟩
theorem RdC.wf {r : Nat} {x : Option Nat} {e f g : Int} (e' f' : Int) {σ τ : CsC} (h : RdC r x e f g σ τ) (hz : ¬ (fIC σ r 243).toInt = 0) : RdC r x e' f' g σ τ := ⟨h.1, h.2.wf hz⟩
theorem RdC.ap {r : Nat} {x : Option Nat} {e f g : Int} {σ τ : CsC} (h : RdC r none e f g σ τ) : RdC r x e f g σ τ := ⟨h.1.ap, h.2⟩
/-- the room that is left -/
def RmC (σ : CsC) (r : Nat) (X : Int) : Prop := (cnC σ : Int) + X ≤ cpC σ ∧ (slC σ : Int) + 4 * gsC σ (cnC σ) + 22 * X + 20000 ≤ spC σ ∧ ∀ q, fRC σ r 240 = some q → ∀ k, [211, 212, 213, 214].elem k = true → ∀ a, fRC σ q k = some a → (fIC σ a 2).toInt + X ≤ 4300
def BgC (σ : CsC) (r : Nat) (F G : Int) : Prop := ((fIC σ r 243).toInt = 0 → RmC σ r (8 * (501 - (fIC σ r 242).toInt) + F)) ∧ (¬ (fIC σ r 243).toInt = 0 → RmC σ r (8 * (501 - (fIC σ r 242).toInt) + G))
theorem RmC.mo {σ : CsC} {r : Nat} {X Y : Int} (h : RmC σ r X) (hx : Y ≤ X) : RmC σ r Y := ⟨by have := h.1; omega, by have := h.2.1; omega, fun q hq k hk a ha => by have := h.2.2 q hq k hk a ha; omega⟩
theorem RmC.st {M : List Nat} {x : Option Nat} {σ τ : CsC} {r : Nat} {X Y : Int} (h : RmC σ r X) (hI : HI0 σ) (t : TyC σ r 8) (e : ExC M σ τ) (w : GwC x σ τ) (hm : M.elem 240 = false) (hc : (cnC τ : Int) + Y ≤ cnC σ + X) (hs : ∀ a, a < cnC σ → tgC σ a = 0 → (fIC τ a 2).toInt + Y ≤ (fIC σ a 2).toInt + X) : RmC τ r Y := by
  obtain ⟨a1, a2, a3⟩ := h
  obtain ⟨b1, b2, b3⟩ := w
  have c1 : cpC τ = cpC σ := congrArg Prod.fst e.2.1.1
  have c2 : spC τ = spC σ := congrArg Prod.snd e.2.1.1
  refine ⟨by rw [c1]; omega, by rw [c2]; omega, fun q hq k hk a ha => ?_⟩
  rw [t.mr e hm] at hq
  obtain ⟨b, -, p, tb⟩ := cg240 hI t
  rw [p] at hq
  cases hq
  have hf : finC k = true := by
    simp only [List.elem_eq_mem, List.mem_cons, List.not_mem_nil, or_false, decide_eq_true_eq] at hk
    rcases hk with rfl | rfl | rfl | rfl <;> decide
  rw [tb.fr e (by decide) hf] at ha
  have h1 := a3 q p k hk a ha
  have ta : TyC σ a 0 := by
    have z := ((hI q tb.1).1 k (by rw [tb.2.1]; simp only [List.elem_eq_mem, List.mem_cons, List.not_mem_nil, or_false, decide_eq_true_eq] at hk; omega)).2
    rw [ha] at z
    simp only [List.elem_eq_mem, List.mem_cons, List.not_mem_nil, or_false, decide_eq_true_eq] at hk
    rcases hk with rfl | rfl | rfl | rfl <;> exact (z.resolve_left (by decide)).1
  have h2 := hs a ta.1 ta.2.1
  omega
theorem BgC.st {M : List Nat} {x : Option Nat} {σ τ : CsC} {r : Nat} {F G e f g F' G' : Int} (h : BgC σ r F G) (hI : HIC σ) (t : TyC σ r 8) (E : ExC M σ τ) (w : RdC r x e f g σ τ) (hm : M.elem 240 = false) (h1 : e + F' ≤ F) (h2 : f + G' ≤ F) (h3 : g + G' ≤ G) : BgC τ r F' G' := by
  obtain ⟨w1, a1, a2, a3, a4, a5, a6⟩ := w
  refine ⟨fun z => ?_, fun z => ?_⟩
  · by_cases y : (fIC σ r 243).toInt = 0
    · exact (h.1 y).st hI.1 t E w1 hm (by have := a5.2.1 y z; omega) (fun a ha ht => by have := (a6 a ha ht).2.2.1 y z; omega)
    · exact absurd z (a4 y).1
  · by_cases y : (fIC σ r 243).toInt = 0
    · exact (h.1 y).st hI.1 t E w1 hm (by have := a5.2.2 y z; omega) (fun a ha ht => by have := (a6 a ha ht).2.2.2 y z; omega)
    · exact (h.2 y).st hI.1 t E w1 hm (by have := a5.1 y; have := (a4 y).2; omega) (fun a ha ht => by have := (a6 a ha ht).2.1 y; have := (a4 y).2; omega)
theorem BgC.stn {M : List Nat} {x : Option Nat} {σ τ : CsC} {r : Nat} {F G e f g F' G' : Int} (h : BgC σ r F G) (hI : HIC σ) (t : TyC σ r 8) (E : ExC M σ τ) (w : RdC r x e f g σ τ) (hm : M.elem 240 = false) (hz : (fIC τ r 243).toInt = 0) (h1 : e + F' ≤ F) : BgC τ r F' G' := by
  obtain ⟨w1, a1, a2, a3, a4, a5, a6⟩ := w
  refine ⟨fun z => ?_, fun z => absurd hz z⟩
  by_cases y : (fIC σ r 243).toInt = 0
  · exact (h.1 y).st hI.1 t E w1 hm (by have := a5.2.1 y z; omega) (fun a ha ht => by have := (a6 a ha ht).2.2.1 y z; omega)
  · exact absurd z (a4 y).1
/-- room for u cells -/
theorem BgC.new {σ : CsC} {r : Nat} {F G : Int} (h : BgC σ r F G) (hI : HI0 σ) (t : TyC σ r 8) {u : Nat} (hF : (u : Int) ≤ F) (hG : (u : Int) ≤ G) : cnC σ + u ≤ cpC σ ∧ slC σ + 22 * u + 20000 ≤ spC σ := by
  obtain ⟨x, -, q, -, q2⟩ := cg242 hI t
  have q3 : (fIC σ r 242).toInt ≤ 500 := by rw [q]; exact q2
  by_cases y : (fIC σ r 243).toInt = 0
  · obtain ⟨z1, z2, -⟩ := h.1 y
    exact ⟨by omega, by omega⟩
  · obtain ⟨z1, z2, -⟩ := h.2 y
    exact ⟨by omega, by omega⟩
theorem BgC.sz {σ : CsC} {r q k a : Nat} {F G : Int} (h : BgC σ r F G) (hI : HI0 σ) (t : TyC σ r 8) (hF : 1 ≤ F) (hG : 1 ≤ G) (hq : fRC σ r 240 = some q) (hk : [211, 212, 213, 214].elem k = true) (ha : fRC σ q k = some a) : (fIC σ a 2).toInt < 4300 := by
  obtain ⟨x, -, p, -, p2⟩ := cg242 hI t
  have p3 : (fIC σ r 242).toInt ≤ 500 := by rw [p]; exact p2
  by_cases y : (fIC σ r 243).toInt = 0
  · have := (h.1 y).2.2 q hq k hk a ha; omega
  · have := (h.2 y).2.2 q hq k hk a ha; omega
/-- the token behind the last is END or WRONG -/
def CdC (σ : CsC) (r : Nat) : Prop := ∀ t, fRC σ r 241 = some t → ∀ c, fRC σ t 302 = some c → (eIC σ c (fIC σ t 305).toNatClampNeg).toInt = 84 ∨ (eIC σ c (fIC σ t 305).toNatClampNeg).toInt = 85
/-- the code that is read -/
def CkC2 (σ : CsC) (r : Nat) : Int := match fRC σ r 241 with
  | some t => (match fRC σ t 302 with
    | some c => if (fIC σ r 243).toInt = 0 then (eIC σ c (fIC σ r 242).toNatClampNeg).toInt else -1
    | none => 0)
  | none => 0
theorem CkC2.y {σ : CsC} {r t c : Nat} {x v : Int32} (e1 : fRC σ r 241 = some t) (e2 : fRC σ t 302 = some c) (e3 : fIC σ r 242 = x) (hz : (fIC σ r 243).toInt = 0) (e4 : eIC σ c x.toNatClampNeg = v) : v.toInt = CkC2 σ r := by
  unfold CkC2
  rw [e1]
  dsimp only
  rw [e2]
  dsimp only
  rw [if_pos hz, e3, e4]
theorem CkC2.n {σ : CsC} {r : Nat} {v : Int32} (h : HI0 σ) (t : TyC σ r 8) (hz : ¬ (fIC σ r 243).toInt = 0) (e4 : v.toInt = -1) : v.toInt = CkC2 σ r := by
  unfold CkC2
  obtain ⟨b, -, q, tb⟩ := cg241 h t
  obtain ⟨c, -, q2, -⟩ := cg302 h tb
  rw [q]
  dsimp only
  rw [q2]
  dsimp only
  rw [if_neg hz, e4]
theorem CdC.code {σ : CsC} {r t c : Nat} {x : Int32} (h : CdC σ r) (e1 : fRC σ r 241 = some t) (e2 : fRC σ t 302 = some c) (hx : x.toInt = CtC σ r) : (eIC σ c x.toNatClampNeg).toInt = 84 ∨ (eIC σ c x.toNatClampNeg).toInt = 85 := by
  have q : x = fIC σ t 305 := Int32.toInt_inj.mp (by rw [hx]; unfold CtC; rw [e1])
  rw [q]
  exact h t e1 c e2
theorem CqC0.lv {r : Nat} {e f g m n : Int} (g' : Int) {σ τ : CsC} (h : CqC0 r e f g σ τ m n) (hz : (fIC σ r 243).toInt = 0) : CqC0 r e f g' σ τ m n := ⟨fun z => absurd hz z, h.2⟩
theorem CoC.lv {r : Nat} {e f g : Int} (g' : Int) {σ τ : CsC} (h : CoC r e f g σ τ) (hz : (fIC σ r 243).toInt = 0) : CoC r e f g' σ τ := ⟨h.1, h.2.1, h.2.2.1, h.2.2.2.1, h.2.2.2.2.1.lv g' hz, fun a ha ht => ⟨(h.2.2.2.2.2 a ha ht).1, (h.2.2.2.2.2 a ha ht).2.lv g' hz⟩⟩
theorem RdC.lv {r : Nat} {x : Option Nat} {e f g : Int} (g' : Int) {σ τ : CsC} (h : RdC r x e f g σ τ) (hz : (fIC σ r 243).toInt = 0) : RdC r x e f g' σ τ := ⟨h.1, h.2.lv g' hz⟩
theorem CdC.st {M : List Nat} {x : Option Nat} {σ τ : CsC} {r : Nat} (h : CdC σ r) (hI : HIC σ) (t : TyC σ r 8) (e : ExC M σ τ) (w : GwC x σ τ) (hm : M.elem 241 = false ∧ M.elem 305 = false) : CdC τ r := by
  intro b hb c hc
  rw [t.mr e hm.1] at hb
  obtain ⟨b', -, q, tb⟩ := cg241 hI.1 t
  rw [q] at hb
  cases hb
  rw [tb.fr e (by decide) (k := 302) (by decide)] at hc
  obtain ⟨c', -, p, tc, l1, l2⟩ := cg302 hI.1 tb
  rw [p] at hc
  cases hc
  rw [(w.2.2 c tc.1).2.1 tc.2.1 l2, tb.mi e hm.2]
  exact h b q c p
/-- what waits below -/
def WcC (σ : CsC) (lo : Nat) : Nat → Nat → Option Nat → Prop
  | 0, _, o => o = none
  | n + 1, B, o => ∃ a, o = some a ∧ lo ≤ a ∧ a < B ∧ (a < cnC σ ∧ tgC σ a = 2) ∧ WtC σ a ∧ WcC σ lo n a (fRC σ a 75)
theorem WtC.mk {σ : CsC} {a : Nat} {x : Int32} (e1 : fIC σ a 60 = x) (hx : x.toInt = 7) (e2 : fRC σ a 73 = none) : WtC σ a := ⟨e1.trans (Int32.toInt_inj.mp (by rw [hx]; rfl)), e2⟩
theorem WcC.x {σ τ : CsC} {lo : Nat} (w : GwC none σ τ) : ∀ (n B : Nat) (o : Option Nat), WcC σ lo n B o → WcC τ lo n B o := by
  intro n
  induction n with
  | zero => intro B o h; exact h
  | succ n ih =>
    intro B o h
    obtain ⟨a, h1, h2, h3, ⟨h4, h5⟩, h6, h7⟩ := h
    obtain ⟨q1, -, q4⟩ := w.2.2 a h4
    obtain ⟨p1, p2⟩ := q4 (fun z => by cases z) h5 h6
    exact ⟨a, h1, h2, h3, ⟨Nat.lt_of_lt_of_le h4 w.1, (q1 (by omega)).1.trans h5⟩, p1, by rw [p2]; exact ih a _ h7⟩
theorem WcC.xs {σ τ : CsC} {lo y : Nat} (w : GwC (some y) σ τ) : ∀ (n B : Nat) (o : Option Nat), B ≤ y → WcC σ lo n B o → WcC τ lo n B o := by
  intro n
  induction n with
  | zero => intro B o _ h; exact h
  | succ n ih =>
    intro B o hB h
    obtain ⟨a, h1, h2, h3, ⟨h4, h5⟩, h6, h7⟩ := h
    obtain ⟨q1, -, q4⟩ := w.2.2 a h4
    obtain ⟨p1, p2⟩ := q4 (fun z => by cases z; omega) h5 h6
    exact ⟨a, h1, h2, h3, ⟨Nat.lt_of_lt_of_le h4 w.1, (q1 (by omega)).1.trans h5⟩, p1, by rw [p2]; exact ih a _ (by omega) h7⟩
theorem WcC.t2 {σ : CsC} {lo : Nat} (n B : Nat) (o : Option Nat) (h : WcC σ lo n B o) (c : Nat) (hc : o = some c) : c < cnC σ ∧ tgC σ c = 2 := by
  cases n with
  | zero => rw [show o = none from h] at hc; cases hc
  | succ n =>
    obtain ⟨a, h1, -, -, h4, -⟩ := h
    rw [h1] at hc
    cases hc
    exact h4
theorem WcC.up {σ : CsC} {lo : Nat} : ∀ (n B B' : Nat) (o : Option Nat), B ≤ B' → WcC σ lo n B o → WcC σ lo n B' o := by
  intro n B B' o hb h
  cases n with
  | zero => exact h
  | succ n =>
    obtain ⟨a, h1, h2, h3, h4⟩ := h
    exact ⟨a, h1, h2, by omega, h4⟩

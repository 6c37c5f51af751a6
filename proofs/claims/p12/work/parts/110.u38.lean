theorem ug365 (σ : CsC) (a : Nat) : gtC σ a 365 = .inr (.inr (fRC σ a 365)) := rfl
theorem ug366 (σ : CsC) (a : Nat) : gtC σ a 366 = .inr (.inr (fRC σ a 366)) := rfl
theorem ug217 (σ : CsC) (a : Nat) : gtC σ a 217 = .inl (fIC σ a 217) := rfl
theorem qx_X3_judgeProgram {b : Nat} {v : Option Nat} {S τ : CsC} {w : Option AvC} (o : Q_X3_judgeProgram [.inr (.inr (some b)), .inr (.inr v)] S w τ) : w = none ∧ ExC [67, 68, 69, 70, 90, 94, 121, 217, 218, 281, 282, 283, 284, 335] S τ := by
  cases v with
  | none => exact o.elim
  | some p => exact ⟨o.1, o.2.2⟩
theorem qx_X0_lay {b : Nat} {v : Option Nat} {S τ : CsC} {w : Option AvC} (o : Q_X0_lay [.inr (.inr (some b)), .inr (.inr v)] S w τ) : w = none ∧ ExC [34, 35, 36, 77, 289, 290] S τ := by
  cases v with
  | none => exact o.elim
  | some p => exact ⟨o.1, o.2.2⟩
/-- the tokens of a text, as the class has them -/
def TkS (x : TxY) (s : SpC) (n : Nat) : Prop := n ≤ 501 ∧ (∀ j, j < n → zK s j = (oneY x (atY x j)).2 ∧ zL s j = atY x j ∧ 0 < (oneY x (atY x j)).1 ∧ atY x j < x.2) ∧ zL s n = atY x n ∧ ((zK s n = 84 ∧ (x.2 ≤ atY x n ∨ 500 < n)) ∨ (zK s n = 85 ∧ (oneY x (atY x n)).1 ≤ 0 ∧ atY x n < x.2 ∧ n ≤ 500))
theorem TkS.mk {τ : CsC} {b t p2 n : Nat} {x : TxY} {s : SpC} (h : CuC τ t p2 x n) (f : fRC τ b 241 = some t) (r : ReC τ b (prlY 11 s)) : TkS x s n := by
  obtain ⟨hn, a0, a1, a2, a3, ⟨⟨f0, f1, f2, f3, f7⟩, -, -, hr⟩, hl, hc⟩ := h
  obtain ⟨k1, k2⟩ := r.1.2.2.1 t f
  have e := (gn_prl 11 s).1
  have eK : zK (prlY 11 s) = zK s := by unfold zK; rw [e]
  have eL : zL (prlY 11 s) = zL s := by unfold zL; rw [e]
  have q1 := k1 a2 f2
  have q2 := k2 a0 f0
  rw [eK] at q1
  rw [eL] at q2
  refine ⟨hn, fun j hj => ?_, by rw [← q2 n (by omega)]; exact hl, by rw [← q1 n]; exact hc⟩
  obtain ⟨y1, y2, y3, y4, y5⟩ := hr j hj
  exact ⟨by rw [← q1 j]; exact y3, by rw [← q2 j (by omega)]; exact y1, y4, y5⟩
/-- the words stand in both programs' Tokens, with what is known of their places -/
def W2T (τ : CsC) (p0 P t c P' t' c' : Nat) : Prop := (p0 < cnC τ ∧ tgC τ p0 = 12) ∧ (fRC τ p0 363 = some P ∧ fRC τ p0 364 = some P') ∧ WP τ P t c ∧ WP τ P' t' c'
def KpW (σ τ : CsC) : Prop := cnC σ ≤ cnC τ ∧ ∀ b, b < cnC σ → (tgC τ b = tgC σ b ∧ ghC τ b = ghC σ b) ∧ (tgC σ b < 13 → ∀ k, finC k = true → fRC τ b k = fRC σ b k) ∧ (tgC σ b = 102 → ghC σ b = 5 → eLC τ b = eLC σ b)
theorem Kp.wk {M : List Nat} {σ τ : CsC} (e : ExC M σ τ) (m : M.elem 996 = false) : KpW σ τ := by
  refine ⟨e.1, fun b hb => ?_⟩
  obtain ⟨⟨a1, -, a2⟩, a3, -⟩ := e.2.2 b hb
  exact ⟨⟨a1, a2⟩, fun h k hk => (a3 h k hk).2, fun h g => (e.2.1.2.2 b hb (by rw [h, g]; exact prC.w m)).2⟩
theorem WP.ty {τ : CsC} {P t c : Nat} (h : WP τ P t c) : TyC τ P 7 := ⟨h.1.1, h.1.2, fun q => by cases q⟩
theorem WP.x {M : List Nat} {σ τ : CsC} {P t c : Nat} (h : WP σ P t c) (e : ExC M σ τ) (m : M.elem 996 = false) : WP τ P t c := by
  have k := Kp.wk e m
  obtain ⟨⟨h1, h2⟩, h3, ⟨h4, h5⟩, h6, ⟨h7, h8, h9⟩, h10⟩ := h
  have c1 := k.1
  have kP := k.2 P h1
  have kt := k.2 t h4
  have kc := k.2 c h7
  exact ⟨⟨by omega, kP.1.1.trans h2⟩, (kP.2.1 (by omega) 210 rfl).trans h3, ⟨by omega, kt.1.1.trans h5⟩, (kt.2.1 (by omega) 306 rfl).trans h6, ⟨by omega, kc.1.1.trans h8, kc.1.2.trans h9⟩, fun j hj => by rw [kc.2.2 h8 h9]; exact h10 j hj⟩
theorem W2T.x {M : List Nat} {σ τ : CsC} {p0 P t c P' t' c' : Nat} (h : W2T σ p0 P t c P' t' c') (e : ExC M σ τ) (m : M.elem 996 = false ∧ M.elem 363 = false ∧ M.elem 364 = false) : W2T τ p0 P t c P' t' c' := by
  obtain ⟨⟨h1, h2⟩, ⟨h3, h4⟩, h5, h6⟩ := h
  have ft := (e.2.2 p0 h1).2.2.2
  exact ⟨⟨Nat.lt_of_lt_of_le h1 e.1, (e.2.2 p0 h1).1.1.trans h2⟩, ⟨(ft 363 m.2.1).2.trans h3, (ft 364 m.2.2).2.trans h4⟩, h5.x e m.1, h6.x e m.1⟩
theorem W2T.c {τ : CsC} {p0 P t c P' t' c' : Nat} (h : W2T τ p0 P t c P' t' c') : W2C τ p0 := ⟨P, t, c, P', t', c', ⟨h.2.1.1, h.2.2.1.2.1, h.2.2.1.2.2.2.1, h.2.2.1.2.2.2.2.2⟩, ⟨h.2.1.2, h.2.2.2.2.1, h.2.2.2.2.2.2.1, h.2.2.2.2.2.2.2.2⟩⟩
theorem W2C.t {τ : CsC} {p0 : Nat} (h : W2C τ p0) (H : HIC τ) (ty : TyC τ p0 12) : ∃ P t c P' t' c', W2T τ p0 P t c P' t' c' := by
  obtain ⟨P, t, c, P', t', c', ⟨a1, a2, a3, a4⟩, ⟨b1, b2, b3, b4⟩⟩ := h
  obtain ⟨Q, -, e1, tQ⟩ := cg363 H.1 ty
  obtain rfl : P = Q := Option.some.inj (a1.symm.trans e1)
  obtain ⟨Q', -, e2, tQ'⟩ := cg364 H.1 ty
  obtain rfl : P' = Q' := Option.some.inj (b1.symm.trans e2)
  exact ⟨P, t, c, P', t', c', ⟨ty.1, ty.2.1⟩, ⟨a1, b1⟩, WP.mk H tQ a2 a3 a4, WP.mk H tQ' b2 b3 b4⟩
/-- the two programs change places -/
theorem W2T.sw {τ : CsC} {p0 P t c P' t' c' : Nat} (h : W2T τ p0 P t c P' t' c') : W2T (pRC (pRC τ p0 363 (some P')) p0 364 (some P)) p0 P' t' c' P t c := by
  have k : Kp [] p0 τ (pRC (pRC τ p0 363 (some P')) p0 364 (some P)) := (Kp.p rfl).tr (Kp.p rfl)
  obtain ⟨⟨h1, h2⟩, ⟨h3, h4⟩, h5, h6⟩ := h
  have y1 := h5.1.2
  have y2 := h5.2.2.1.2
  have y3 := h5.2.2.2.2.1.2.1
  have z1 := h6.1.2
  have z2 := h6.2.2.1.2
  have z3 := h6.2.2.2.2.1.2.1
  refine ⟨⟨h1, h2⟩, ⟨(fR_w2 (k := 364) (j := 363) (by decide)).trans fR_w1, fR_w1⟩, h6.k k ?_ ?_ ?_, h5.k k ?_ ?_ ?_⟩
  · intro q; rw [q] at z1; omega
  · intro q; rw [q] at z2; omega
  · intro q; rw [q] at z3; omega
  · intro q; rw [q] at y1; omega
  · intro q; rw [q] at y2; omega
  · intro q; rw [q] at y3; omega
/-- two Tokens and their rows are apart -/
def D2C (τ : CsC) (t t' : Nat) : Prop := t ≠ t' ∧ ∀ k, k = 300 ∨ k = 301 ∨ k = 302 → ∀ a a', fRC τ t k = some a → fRC τ t' k = some a' → a ≠ a'
theorem D2C.sy {τ : CsC} {t t' : Nat} (h : D2C τ t t') : D2C τ t' t := ⟨fun q => h.1 q.symm, fun k hk a a' e e' q => h.2 k hk a' a e' e q.symm⟩
theorem D2C.of {σ τ : CsC} {t t' : Nat} (h : D2C σ t t') (e : ∀ b, b = t ∨ b = t' → ∀ k, k = 300 ∨ k = 301 ∨ k = 302 → fRC τ b k = fRC σ b k) : D2C τ t t' := ⟨h.1, fun k hk a a' f f' => h.2 k hk a a' ((e t (Or.inl rfl) k hk).symm.trans f) ((e t' (Or.inr rfl) k hk).symm.trans f')⟩
theorem D2C.x {M : List Nat} {σ τ : CsC} {t t' : Nat} (h : D2C σ t t') (e : ExC M σ τ) (m : M.elem 300 = false ∧ M.elem 301 = false ∧ M.elem 302 = false) (h1 : t < cnC σ) (h2 : t' < cnC σ) : D2C τ t t' :=
  h.of (fun b hb k hk => ((e.2.2 b (by rcases hb with z | z; (rw [z]; exact h1); (rw [z]; exact h2))).2.2.2 k (by rcases hk with z | z | z; (rw [z]; exact m.1); (rw [z]; exact m.2.1); (rw [z]; exact m.2.2))).2)
theorem D2C.pr {σ : CsC} {t t' a k : Nat} {v : Option Nat} (h : D2C σ t t') (h0 : 302 < k) : D2C (pRC σ a k v) t t' := h.of (fun b _ j hj => fR_w3 (by omega))
theorem DsC.d {τ : CsC} {p0 P t c P' t' c' : Nat} (h : DsC τ p0) (w : W2T τ p0 P t c P' t' c') : D2C τ t t' := h P P' t t' w.2.1.1 w.2.1.2 w.2.2.1.2.1 w.2.2.2.2.1
theorem D2C.ds {τ : CsC} {p0 P t c P' t' c' : Nat} (h : D2C τ t t') (w : W2T τ p0 P t c P' t' c') : DsC τ p0 := by
  intro Q Q' u u' e1 e2 e3 e4
  obtain rfl := Option.some.inj (w.2.1.1.symm.trans e1)
  obtain rfl := Option.some.inj (w.2.1.2.symm.trans e2)
  obtain rfl := Option.some.inj (w.2.2.1.2.1.symm.trans e3)
  obtain rfl := Option.some.inj (w.2.2.2.2.1.symm.trans e4)
  exact h
theorem ApC.mk {σ : CsC} {t t' : Nat} (H : HIC σ) (ty : TyC σ t 10) (ty' : TyC σ t' 10) (d : D2C σ t t') : ApC σ t' t := by
  obtain ⟨a, -, e, -, -, ga⟩ := cg300 H.1 ty
  obtain ⟨b, -, f, -, -, gb⟩ := cg301 H.1 ty
  obtain ⟨c, -, g, -, -, gc⟩ := cg302 H.1 ty
  obtain ⟨a', -, e', -, -, ga'⟩ := cg300 H.1 ty'
  obtain ⟨b', -, f', -, -, gb'⟩ := cg301 H.1 ty'
  obtain ⟨c', -, g', -, -, gc'⟩ := cg302 H.1 ty'
  obtain ⟨d', -, i', -, -, gd'⟩ := cg303 H.1 ty'
  have n0 := d.2 300 (Or.inl rfl) a a' e e'
  have n1 := d.2 301 (Or.inr (Or.inl rfl)) b b' f f'
  have n2 := d.2 302 (Or.inr (Or.inr rfl)) c c' g g'
  refine ⟨d.1, fun k hk z hz k' hk' q => ?_⟩
  rcases hk with rfl | rfl | rfl
  · obtain rfl := Option.some.inj (e.symm.trans hz)
    rcases hk' with rfl | rfl | rfl | rfl
    · exact n0 (Option.some.inj (q.symm.trans e'))
    · rw [Option.some.inj (q.symm.trans f'), gb'] at ga; cases ga
    · rw [Option.some.inj (q.symm.trans g'), gc'] at ga; cases ga
    · rw [Option.some.inj (q.symm.trans i'), gd'] at ga; cases ga
  · obtain rfl := Option.some.inj (f.symm.trans hz)
    rcases hk' with rfl | rfl | rfl | rfl
    · rw [Option.some.inj (q.symm.trans e'), ga'] at gb; cases gb
    · exact n1 (Option.some.inj (q.symm.trans f'))
    · rw [Option.some.inj (q.symm.trans g'), gc'] at gb; cases gb
    · rw [Option.some.inj (q.symm.trans i'), gd'] at gb; cases gb
  · obtain rfl := Option.some.inj (g.symm.trans hz)
    rcases hk' with rfl | rfl | rfl | rfl
    · rw [Option.some.inj (q.symm.trans e'), ga'] at gc; cases gc
    · rw [Option.some.inj (q.symm.trans f'), gb'] at gc; cases gc
    · exact n2 (Option.some.inj (q.symm.trans g'))
    · rw [Option.some.inj (q.symm.trans i'), gd'] at gc; cases gc
theorem D2C.sw2 {τ : CsC} {p0 t t' : Nat} {u v w : Int32} {v1 v2 : Option Nat} (h : D2C τ t t') : D2C (pIC (pIC (pRC (pRC (pIC τ p0 369 u) p0 363 v1) p0 364 v2) p0 371 v) p0 372 w) t t' := h.of (fun b _ j hj => by
  show fRC (pRC (pRC (pIC τ p0 369 u) p0 363 v1) p0 364 v2) b j = fRC τ b j
  rw [fR_w3 (by omega), fR_w3 (by omega)]
  rfl)
theorem RwU.sw2 {τ : CsC} {p0 t : Nat} {u v w : Int32} {v1 v2 : Option Nat} (h : RwU τ t) : RwU (pIC (pIC (pRC (pRC (pIC τ p0 369 u) p0 363 v1) p0 364 v2) p0 371 v) p0 372 w) t := by
  have h1 : RwU (pIC τ p0 369 u) t := h
  exact (h1.pr (a := p0) (k := 363) (v := v1) (by decide) (by decide) (by decide)).pr (a := p0) (k := 364) (v := v2) (by decide) (by decide) (by decide)
theorem TnK.sw2 {τ : CsC} {p0 t n : Nat} {y : TxY} {u v w : Int32} {v1 v2 : Option Nat} (h : TnK τ t y n) : TnK (pIC (pIC (pRC (pRC (pIC τ p0 369 u) p0 363 v1) p0 364 v2) p0 371 v) p0 372 w) t y n := ((((h.pi (k := 369) (by decide)).pr (k := 363) (by decide) (by decide) (by decide)).pr (k := 364) (by decide) (by decide) (by decide)).pi (k := 371) (by decide)).pi (k := 372) (by decide)
/-- the tokens of the text y stand in the program that stands -/
def TcP (τ : CsC) (p0 : Nat) (y : TxY) (m : Nat) : Prop := ∃ P t, fRC τ p0 363 = some P ∧ fRC τ P 210 = some t ∧ TnK τ t y m
/-- the methods and variables of the program that stands -/
def LcP (τ : CsC) (p0 : Nat) (z : LzY) : Prop := ∃ P a b, fRC τ p0 363 = some P ∧ LsT τ P a b z
theorem WP.pg {τ : CsC} {P t c : Nat} (h : WP τ P t c) : PgT τ P := h.1
theorem LfT.mk {τ : CsC} {P : Nat} (H : HIC τ) (ty : TyC τ P 7) : ∃ a b, LfT τ P a b := by
  obtain ⟨a, -, e1, t1, g1⟩ := cg211 H.1 ty
  obtain ⟨b, -, e2, t2, g2⟩ := cg212 H.1 ty
  exact ⟨a, b, ⟨e1, e2⟩, ⟨t1.1, t1.2.1, g1⟩, ⟨t2.1, t2.2.1, g2⟩⟩
theorem D2L.of {σ τ : CsC} {P P' : Nat} (h : D2L σ P P') (e : ∀ b, b = P ∨ b = P' → ∀ k, k = 211 ∨ k = 212 → fRC τ b k = fRC σ b k) : D2L τ P P' := fun k hk a a' f f' => h k hk a a' ((e P (Or.inl rfl) k hk).symm.trans f) ((e P' (Or.inr rfl) k hk).symm.trans f')
theorem D2L.sy {τ : CsC} {P P' : Nat} (h : D2L τ P P') : D2L τ P' P := fun k hk a a' e e' q => h k hk a' a e' e q.symm
theorem D2L.x {M : List Nat} {σ τ : CsC} {P P' : Nat} (h : D2L σ P P') (e : ExC M σ τ) (p : PgT σ P) (p' : PgT σ P') : D2L τ P P' :=
  h.of (fun b hb k hk => by
    have hf : finC k = true := by rcases hk with rfl | rfl <;> rfl
    rcases hb with rfl | rfl
    · exact ((e.2.2 _ p.1).2.1 (by rw [p.2]; decide) k hf).2
    · exact ((e.2.2 _ p'.1).2.1 (by rw [p'.2]; decide) k hf).2)
theorem D2L.sw2 {τ : CsC} {p0 P P' : Nat} {u v w : Int32} {v1 v2 : Option Nat} (h : D2L τ P P') : D2L (pIC (pIC (pRC (pRC (pIC τ p0 369 u) p0 363 v1) p0 364 v2) p0 371 v) p0 372 w) P P' := h.of (fun b _ j hj => by
  show fRC (pRC (pRC (pIC τ p0 369 u) p0 363 v1) p0 364 v2) b j = fRC τ b j
  rw [fR_w3 (by omega), fR_w3 (by omega)]
  rfl)
theorem DlC.d {τ : CsC} {p0 P t c P' t' c' : Nat} (h : DlC τ p0) (w : W2T τ p0 P t c P' t' c') : D2L τ P P' := h P P' w.2.1.1 w.2.1.2
theorem D2L.ds {τ : CsC} {p0 P t c P' t' c' : Nat} (h : D2L τ P P') (w : W2T τ p0 P t c P' t' c') : DlC τ p0 := by
  intro Q Q' e1 e2
  obtain rfl := Option.some.inj (w.2.1.1.symm.trans e1)
  obtain rfl := Option.some.inj (w.2.1.2.symm.trans e2)
  exact h
theorem LsT.sw2 {τ : CsC} {p0 P a b : Nat} {z : LzY} {u v w : Int32} {v1 v2 : Option Nat} (h : LsT τ P a b z) : LsT (pIC (pIC (pRC (pRC (pIC τ p0 369 u) p0 363 v1) p0 364 v2) p0 371 v) p0 372 w) P a b z := ((((h.pi (k := 369) (by decide)).pr (k := 363) (by decide) (by decide) (by decide)).pr (k := 364) (by decide) (by decide) (by decide)).pi (k := 371) (by decide)).pi (k := 372) (by decide)
theorem PgT.sw2 {τ : CsC} {p0 P : Nat} {u v w : Int32} {v1 v2 : Option Nat} (h : PgT τ P) : PgT (pIC (pIC (pRC (pRC (pIC τ p0 369 u) p0 363 v1) p0 364 v2) p0 371 v) p0 372 w) P := h
theorem W2T.sw2 {τ : CsC} {p0 P t c P' t' c' : Nat} {u v w : Int32} (h : W2T τ p0 P t c P' t' c') : W2T (pIC (pIC (pRC (pRC (pIC τ p0 369 u) p0 363 (fRC (pIC τ p0 369 u) p0 364)) p0 364 (fRC (pIC τ p0 369 u) p0 363)) p0 371 v) p0 372 w) p0 P' t' c' P t c := by
  have e1 : fRC (pIC τ p0 369 u) p0 364 = some P' := h.2.1.2
  have e2 : fRC (pIC τ p0 369 u) p0 363 = some P := h.2.1.1
  rw [e1, e2]
  exact W2T.sw (τ := pIC τ p0 369 u) h
/-- the number of methods -/
def MsI (τ : CsC) (P ml : Nat) (N : Int) : Prop := (P < cnC τ ∧ ml < cnC τ) ∧ fRC τ P 211 = some ml ∧ (fIC τ ml 2).toInt = N
theorem MsI.x {M : List Nat} {σ τ : CsC} {P ml : Nat} {N : Int} (h : MsI σ P ml N) (e : ExC M σ τ) (m : M.elem 211 = false ∧ M.elem 2 = false) : MsI τ P ml N := by
  obtain ⟨⟨h1, h2⟩, h3, h4⟩ := h
  exact ⟨⟨Nat.lt_of_lt_of_le h1 e.1, Nat.lt_of_lt_of_le h2 e.1⟩, ((e.2.2 P h1).2.2.2 211 m.1).2.trans h3, by rw [((e.2.2 ml h2).2.2.2 2 m.2).1]; exact h4⟩
theorem MsI.pr {σ : CsC} {P ml a k : Nat} {N : Int} {v : Option Nat} (h : MsI σ P ml N) (hk : 211 ≠ k) : MsI (pRC σ a k v) P ml N := ⟨h.1, (fR_w3 hk).trans h.2.1, h.2.2⟩
theorem MsI.pi {σ : CsC} {P ml a k : Nat} {N : Int} {v : Int32} (h : MsI σ P ml N) (hk : 2 ≠ k) : MsI (pIC σ a k v) P ml N := ⟨h.1, h.2.1, by
  show (u2C (fIC σ) a k v ml 2).toInt = _
  rw [u2C_nk hk]
  exact h.2.2⟩
theorem rd_b {r : Int32} {z a : Int} (h : r.toInt = z) (g : ¬ r.toInt = (0 : Int32).toInt) (e : a = (-10) - r.toInt) : ¬ z = 0 ∧ a = -10 - z := by
  have q : (0 : Int32).toInt = 0 := rfl
  omega
theorem rd_g {r : Int32} {z : Int} (h : r.toInt = z) (g : r.toInt = (0 : Int32).toInt) : z = 0 := by
  have q : (0 : Int32).toInt = 0 := rfl
  omega
abbrev Pp_read (z : TxY × TxY × Nat × LzY) : CpC := fun As σ => match As with
  | [.inr (.inr (some p0))] => (cnC σ < 1000000 ∧ z.1.2 = (fIC σ p0 369).toInt ∧ (∀ c, fRC σ p0 360 = some c → ∀ j : Nat, (j : Int) < z.1.2 → (eIC σ c j &&& 255).toInt = z.1.1 j) ∧ okY z.1) ∧ W2C σ p0 ∧ DsC σ p0 ∧ TcP σ p0 z.2.1 z.2.2.1 ∧ DlC σ p0 ∧ LcP σ p0 z.2.2.2
  | _ => False
abbrev Qp_read (z : TxY × TxY × Nat × LzY) : CqC := fun As σ w τ => match As with
  | [.inr (.inr (some p0))] => ∀ r, w = some (.inl r) → (W2C τ p0 ∧ DsC τ p0 ∧ DlC τ p0) ∧ ∃ s n, Z0Y s ∧ TkS z.1 s n ∧ ((¬ zFt (prlY 11 s) = 0 ∧ r.toInt = -10 - zFt (prlY 11 s) ∧ TcP τ p0 z.2.1 z.2.2.1 ∧ LcP τ p0 z.2.2.2) ∨ (zFt (prlY 11 s) = 0 ∧ r.toInt = (zMs (prlY 11 s)).length ∧ TcP τ p0 z.1 n ∧ LcP τ p0 (prlY 11 s).2.1))
  | _ => True
theorem p_read (z : TxY × TxY × Nat × LzY) : PbC KX11_read [(123, P_X7_readProgram, Q_X7_readProgram), (49, P_X3_judgeProgram, Q_X3_judgeProgram), (234, P_Jx4a65c_size_8abf5, Q_Jx4a65c_size_8abf5), (1, P_X0_lay, Q_X0_lay), (124, P_X7_faultPlace, Q_X7_faultPlace)] [(123, U_readProgram)] (fun As σ => P_X11_read As σ ∧ Pp_read z As σ) (Qp_read z) := by
  obtain ⟨x, y, m0, lz⟩ := z
  rintro As σ ⟨⟨p0, rfl, H0, h0, -⟩, hx⟩ K hB hW n
  replace hx : (cnC σ < 1000000 ∧ x.2 = (fIC σ p0 369).toInt ∧ (∀ c, fRC σ p0 360 = some c → ∀ j : Nat, (j : Int) < x.2 → (eIC σ c j &&& 255).toInt = x.1 j) ∧ okY x) ∧ W2C σ p0 ∧ DsC σ p0 ∧ TcP σ p0 y m0 ∧ DlC σ p0 ∧ LcP σ p0 lz := hx
  obtain ⟨⟨hcn, hx2, hxb, hok⟩, hw2, hds, ⟨P0, t0, hP0, ht0, hTc0⟩, hdl, P9, la, lb, hP9, hLs0⟩ := hx
  have z0 := z0I
  obtain ⟨P, t, c, P', t', c', hW0⟩ := hw2.t H0 h0
  obtain ⟨c0, -, e360, -⟩ := cg360 H0.1 h0
  have e364 := hW0.2.1.2
  obtain rfl : P = P0 := Option.some.inj (hW0.2.1.1.symm.trans hP0)
  obtain rfl : t = t0 := Option.some.inj (hW0.2.2.1.2.1.symm.trans ht0)
  obtain rfl : P = P9 := Option.some.inj (hW0.2.1.1.symm.trans hP9)
  have hD0 := hds.d hW0
  have hE0 := hdl.d hW0
  obtain ⟨la', lb', hLf0⟩ := LfT.mk H0 (WP.ty hW0.2.2.2)
  have hAp := ApC.mk H0 hW0.2.2.1.tt hW0.2.2.2.tt hD0
  change K n 0 [(0, .inr (.inr (some p0)))] [] σ
  refine hB _ _ _ _ _ (fun m1 hm1 => ?_)
  dsimp only [ucgo, ucwp, ucsC, uqC, uoC, ctC, rfd, KX11_read, KX11_read_0, KX11_read_29, KX11_read_45, KX11_read_95, KX11_read_106, lkC, s1C, s2C, dlC, kyC, Nat.beq, rcd, rno, Nat.reduceAdd, Nat.reduceBEq, Nat.reduceDiv, List.drop, List.take, List.reverse, List.reverseAux, Int.toNat, Option.toList, List.append, List.cons_append, List.nil_append, fI_qI, fR_qI, fL_qI, fI_qL, fR_qL, fL_qL, ug211, ug217, ug360, ug363, ug364, ug365, ug366, ug367, ug369]
  intro a2 e2 ob2
  cases e2
  intro a3 e3 ob3
  cases e3
  intro a4 e4 ob4
  cases e4
  intro a5 e5 ob5
  cases e5
  split
  case h_2 => trivial
  rename_i b6 rs6 hq6
  obtain ⟨hq1_6, hq2_6⟩ := List.cons.inj hq6
  subst hq2_6
  have rc6 := Sum.inr.inj (Sum.inr.inj hq1_6)
  intro w6 τ6 o6 q6
  rw [e364, e360] at o6 q6
  obtain ⟨⟨tk, nn, f241, ftk, hCu⟩, hTv, la2, lb2, hLs1⟩ := q6 (x, t, y, m0, P, lz) ⟨⟨hcn, hx2, hxb c0 e360, hok⟩, fun y2 hy => by
    obtain rfl : t' = y2 := Option.some.inj (hW0.2.2.2.2.1.symm.trans hy)
    exact ⟨fun k hk j hj => by
      obtain rfl : c' = k := Option.some.inj (hW0.2.2.2.2.2.2.1.symm.trans hk)
      exact hW0.2.2.2.2.2.2.2.2 j hj, hAp, RwU.mk H0 hW0.2.2.1.tt, hTc0⟩, hW0.2.2.1.pg, la, lb, hLs0, fun q => hE0 211 (Or.inl rfl) la la hLs0.1.1.1 q rfl, fun q => hE0 212 (Or.inr rfl) lb lb hLs0.1.1.2 q rfl⟩
  obtain rfl : t' = tk := Option.some.inj (hW0.2.2.2.2.1.symm.trans ftk)
  obtain ⟨r6, rfl, HI6, ex6, r0, r3, -, -, f240, s, hZ, hRe, hFt⟩ := o6
  have hTk := TkS.mk hCu f241 hRe
  have hW1 := hW0.x ex6 (by decide)
  have hD1 := hD0.x ex6 (by decide) hW0.2.2.1.2.2.1.1 hW0.2.2.2.2.2.1.1
  have hTv1 : TnK τ6 t y m0 := hTv
  have hLs2 : LsT τ6 P la2 lb2 lz := hLs1
  have hE1 := hE0.x ex6 hW0.2.2.1.pg hW0.2.2.2.pg
  have hLn1 : LsT τ6 P' la' lb' (prlY 11 s).2.1 := ⟨hLf0.x hW0.2.2.2.pg ex6, ⟨(hRe.1.2.1 P' f240).1 la' (hLf0.x hW0.2.2.2.pg ex6).1.1, (hRe.1.2.1 P' f240).2 lb' (hLf0.x hW0.2.2.2.pg ex6).1.2⟩, ⟨hRe.1.2.2.2.2.1 P' f240 lb' (hLf0.x hW0.2.2.2.pg ex6).1.2, RwL.mk HI6.1 (hLf0.x hW0.2.2.2.pg ex6).2.2.1 (hLf0.x hW0.2.2.2.pg ex6).2.2.2.1 ((hRe.1.2.1 P' f240).2 lb' (hLf0.x hW0.2.2.2.pg ex6).1.2)⟩, MlC.lo _ (hRe.2.2.1 P' f240 la' (hLf0.x hW0.2.2.2.pg ex6).1.1).1, RwL.mk HI6.1 (hLf0.x hW0.2.2.2.pg ex6).2.1.1 (hLf0.x hW0.2.2.2.pg ex6).2.1.2.1 ((hRe.1.2.1 P' f240).1 la' (hLf0.x hW0.2.2.2.pg ex6).1.1)⟩
  have hTn1 := hCu.tc
  have hRn1 := RwU.mk HI6 hW1.2.2.2.tt
  obtain ⟨ml, -, e211, tml⟩ := cg211 HI6.1 (WP.ty hW1.2.2.2)
  have hM1 : MsI τ6 P' ml (zMs (prlY 11 s)).length := ⟨⟨hW1.2.2.2.1.1, tml.1.1⟩, e211, (hRe.1.2.1 P' f240).1 ml e211⟩
  dsimp only [Option.toList, List.cons_append, List.nil_append, s1C, s2C, dlC, kyC, Nat.beq, lkC, rcd, rno]
  have c7 : (Int32.ofInt 0).toInt = 0 := by decide
  intro a8 e8 ob8 fk8
  cases e8
  clear fk8
  refine ⟨fun h9 => ?_, fun h9 => ?_⟩
  · have g9 := (eqI (x := r6) (y := 0) h9 : (r6 : Int32).toInt = (0 : Int32).toInt)
    refine hB _ _ _ _ _ (fun m10 hm10 => ?_)
    dsimp only [ucgo, ucwp, ucsC, uqC, uoC, ctC, rfd, KX11_read, KX11_read_0, KX11_read_29, KX11_read_45, KX11_read_95, KX11_read_106, lkC, s1C, s2C, dlC, kyC, Nat.beq, rcd, rno, Nat.reduceAdd, Nat.reduceBEq, Nat.reduceDiv, List.drop, List.take, List.reverse, List.reverseAux, Int.toNat, Option.toList, List.append, List.cons_append, List.nil_append, fI_qI, fR_qI, fL_qI, fI_qL, fR_qL, fL_qL, ug211, ug217, ug360, ug363, ug364, ug365, ug366, ug367, ug369]
    intro a11 e11 ob11
    cases e11
    intro a12 e12 ob12
    cases e12
    intro a13 e13 ob13 fk13
    cases e13
    clear fk13
    intro a14 e14 ob14 fk14
    cases e14
    clear fk14
    have c15 : (Int32.ofInt (-2)).toInt = -2 := by decide
    intro a16 e16 ob16 fk16
    cases e16
    clear fk16
    have c17 : (Int32.ofInt 0).toInt = 0 := by decide
    intro a18 e18 ob18 fk18
    cases e18
    clear fk18
    intro a19 e19 ob19
    cases e19
    intro a20 e20 ob20
    cases e20
    split
    case h_2 => trivial
    rename_i b21 rs21 hq21
    obtain ⟨hq1_21, hq2_21⟩ := List.cons.inj hq21
    subst hq2_21
    have rc21 := Sum.inr.inj (Sum.inr.inj hq1_21)
    intro w21 τ21 o21 q21
    obtain ⟨rfl, ex21⟩ := qx_X3_judgeProgram o21
    have hWj := W2T.x (W2T.sw2 hW1) ex21 (by decide)
    have hMj := MsI.x ((((((hM1.pi (k := 369) (by decide)).pr (k := 363) (by decide)).pr (k := 364) (by decide)).pi (k := 371) (by decide)).pi (k := 372) (by decide))) ex21 (by decide)
    have hDj := D2C.x (D2C.sw2 hD1.sy) ex21 (by decide) hW1.2.2.2.2.2.1.1 hW1.2.2.1.2.2.1.1
    have hRj := RwU.x (RwU.sw2 hRn1) ex21 (by decide)
    have hTj := TnK.x (TnK.sw2 hTn1) (RwU.sw2 hRn1) ex21 (by decide)
    have hEj := D2L.x (D2L.sw2 hE1.sy) ex21 (PgT.sw2 hW1.2.2.2.pg) (PgT.sw2 hW1.2.2.1.pg)
    have hLj := LsT.x (LsT.sw2 hLn1) (PgT.sw2 hW1.2.2.2.pg) ex21 (by decide)
    dsimp only [Option.toList, List.cons_append, List.nil_append, s1C, s2C, dlC, kyC, Nat.beq, lkC, rcd, rno]
    intro a22 e22 ob22
    cases e22
    intro a23 e23 ob23
    refine ⟨fun h24 => ?_, fun h24 => ?_⟩
    · have g24 := (neI (x := (fIC τ21 a23 217)) (y := 0) h24 : ¬ ((fIC τ21 a23 217) : Int32).toInt = (0 : Int32).toInt)
      refine hB _ _ _ _ _ (fun m25 hm25 => ?_)
      dsimp only [ucgo, ucwp, ucsC, uqC, uoC, ctC, rfd, KX11_read, KX11_read_0, KX11_read_29, KX11_read_45, KX11_read_95, KX11_read_106, lkC, s1C, s2C, dlC, kyC, Nat.beq, rcd, rno, Nat.reduceAdd, Nat.reduceBEq, Nat.reduceDiv, List.drop, List.take, List.reverse, List.reverseAux, Int.toNat, Option.toList, List.append, List.cons_append, List.nil_append, fI_qI, fR_qI, fL_qI, fI_qL, fR_qL, fL_qL, ug211, ug217, ug360, ug363, ug364, ug365, ug366, ug367, ug369]
      intro a26 e26 ob26
      cases e26
      intro a27 e27 ob27
      split
      case h_2 => trivial
      rename_i b28 rs28 hq28
      obtain ⟨hq1_28, hq2_28⟩ := List.cons.inj hq28
      subst hq2_28
      have rc28 := Sum.inr.inj (Sum.inr.inj hq1_28)
      intro w28 τ28 o28 q28
      obtain ⟨r28, rfl, rfl, -, -, sz28, -⟩ := o28
      obtain rfl : P' = a27 := Option.some.inj (hWj.2.1.1.symm.trans e27)
      obtain rfl : ml = b28 := Option.some.inj (hMj.2.1.symm.trans rc28)
      have hr28 : r28.toInt = (zMs (prlY 11 s)).length := by rw [← sz28]; exact hMj.2.2
      dsimp only [Option.toList, List.cons_append, List.nil_append, s1C, s2C, dlC, kyC, Nat.beq, lkC, rcd, rno]
      intro r9 e9
      cases e9
      exact ⟨⟨hWj.c, hDj.ds hWj, hEj.ds hWj⟩, s, nn, hZ, hTk, Or.inr ⟨rd_g hFt g9, hr28, ⟨_, _, hWj.2.1.1, hWj.2.2.1.2.1, hTj⟩, _, la', lb', hWj.2.1.1, hLj⟩⟩
    · have g24 := (eqI (x := (fIC τ21 a23 217)) (y := 0) h24 : ((fIC τ21 a23 217) : Int32).toInt = (0 : Int32).toInt)
      refine hB _ _ _ _ _ (fun m29 hm29 => ?_)
      dsimp only [ucgo, ucwp, ucsC, uqC, uoC, ctC, rfd, KX11_read, KX11_read_0, KX11_read_29, KX11_read_45, KX11_read_95, KX11_read_106, lkC, s1C, s2C, dlC, kyC, Nat.beq, rcd, rno, Nat.reduceAdd, Nat.reduceBEq, Nat.reduceDiv, List.drop, List.take, List.reverse, List.reverseAux, Int.toNat, Option.toList, List.append, List.cons_append, List.nil_append, fI_qI, fR_qI, fL_qI, fI_qL, fR_qL, fL_qL, ug211, ug217, ug360, ug363, ug364, ug365, ug366, ug367, ug369]
      intro a30 e30 ob30
      cases e30
      intro a31 e31 ob31
      cases e31
      split
      case h_2 => trivial
      rename_i b32 rs32 hq32
      obtain ⟨hq1_32, hq2_32⟩ := List.cons.inj hq32
      subst hq2_32
      have rc32 := Sum.inr.inj (Sum.inr.inj hq1_32)
      intro w32 τ32 o32 q32
      obtain ⟨rfl, ex32⟩ := qx_X0_lay o32
      have hWl := hWj.x ex32 (by decide)
      have hMl := hMj.x ex32 (by decide)
      have hDl := hDj.x ex32 (by decide) hWj.2.2.1.2.2.1.1 hWj.2.2.2.2.2.1.1
      have hTl := hTj.x hRj ex32 (by decide)
      have hEl := hEj.x ex32 hWj.2.2.1.pg hWj.2.2.2.pg
      have hLl := hLj.x hWj.2.2.1.pg ex32 (by decide)
      dsimp only [Option.toList, List.cons_append, List.nil_append, s1C, s2C, dlC, kyC, Nat.beq, lkC, rcd, rno]
      refine hB _ _ _ _ _ (fun m33 hm33 => ?_)
      dsimp only [ucgo, ucwp, ucsC, uqC, uoC, ctC, rfd, KX11_read, KX11_read_0, KX11_read_29, KX11_read_45, KX11_read_95, KX11_read_106, lkC, s1C, s2C, dlC, kyC, Nat.beq, rcd, rno, Nat.reduceAdd, Nat.reduceBEq, Nat.reduceDiv, List.drop, List.take, List.reverse, List.reverseAux, Int.toNat, Option.toList, List.append, List.cons_append, List.nil_append, fI_qI, fR_qI, fL_qI, fI_qL, fR_qL, fL_qL, ug211, ug217, ug360, ug363, ug364, ug365, ug366, ug367, ug369]
      intro a34 e34 ob34
      cases e34
      intro a35 e35 ob35
      split
      case h_2 => trivial
      rename_i b36 rs36 hq36
      obtain ⟨hq1_36, hq2_36⟩ := List.cons.inj hq36
      subst hq2_36
      have rc36 := Sum.inr.inj (Sum.inr.inj hq1_36)
      intro w36 τ36 o36 q36
      obtain ⟨r36, rfl, rfl, -, -, sz36, -⟩ := o36
      obtain rfl : P' = a35 := Option.some.inj (hWl.2.1.1.symm.trans e35)
      obtain rfl : ml = b36 := Option.some.inj (hMl.2.1.symm.trans rc36)
      have hr36 : r36.toInt = (zMs (prlY 11 s)).length := by rw [← sz36]; exact hMl.2.2
      dsimp only [Option.toList, List.cons_append, List.nil_append, s1C, s2C, dlC, kyC, Nat.beq, lkC, rcd, rno]
      intro r9 e9
      cases e9
      exact ⟨⟨hWl.c, hDl.ds hWl, hEl.ds hWl⟩, s, nn, hZ, hTk, Or.inr ⟨rd_g hFt g9, hr36, ⟨_, _, hWl.2.1.1, hWl.2.2.1.2.1, hTl⟩, _, la', lb', hWl.2.1.1, hLl⟩⟩
  · have g9 := (neI (x := r6) (y := 0) h9 : ¬ (r6 : Int32).toInt = (0 : Int32).toInt)
    refine hB _ _ _ _ _ (fun m37 hm37 => ?_)
    dsimp only [ucgo, ucwp, ucsC, uqC, uoC, ctC, rfd, KX11_read, KX11_read_0, KX11_read_29, KX11_read_45, KX11_read_95, KX11_read_106, lkC, s1C, s2C, dlC, kyC, Nat.beq, rcd, rno, Nat.reduceAdd, Nat.reduceBEq, Nat.reduceDiv, List.drop, List.take, List.reverse, List.reverseAux, Int.toNat, Option.toList, List.append, List.cons_append, List.nil_append, fI_qI, fR_qI, fL_qI, fI_qL, fR_qL, fL_qL, ug211, ug217, ug360, ug363, ug364, ug365, ug366, ug367, ug369]
    intro a38 e38 ob38
    cases e38
    split
    case h_2 => trivial
    rename_i b39 rs39 hq39
    obtain ⟨hq1_39, hq2_39⟩ := List.cons.inj hq39
    subst hq2_39
    have rc39 := Sum.inr.inj (Sum.inr.inj hq1_39)
    intro w39 τ39 o39 q39
    obtain ⟨r39, rfl, rfl⟩ := o39
    dsimp only [Option.toList, List.cons_append, List.nil_append, s1C, s2C, dlC, kyC, Nat.beq, lkC, rcd, rno]
    intro a40 e40 ob40 fk40
    cases e40
    clear fk40
    have c41 : (Int32.ofInt (-10)).toInt = -10 := by decide
    have a42 : ((Int32.ofInt (-10)) - r6).toInt = (-10) - r6.toInt := subC (by omega) (by omega) (by omega)
    intro r9 e9
    obtain rfl := Sum.inl.inj (Option.some.inj e9)
    have rb := rd_b hFt g9 a42
    exact ⟨⟨hW1.c, hD1.ds hW1, hE1.ds hW1⟩, s, nn, hZ, hTk, Or.inl ⟨rb.1, rb.2, ⟨P, t, hW1.2.1.1, hW1.2.2.1.2.1, (hTv1.pi (k := 369) (by decide)).pi (k := 371) (by decide)⟩, P, la2, lb2, hW1.2.1.1, (hLs2.pi (k := 369) (by decide)).pi (k := 371) (by decide)⟩⟩
abbrev U_read : CqC := fun As σ w τ => ∀ x, Pp_read x As σ → Qp_read x As σ w τ
theorem n_read (l : Launch) : CMetC l 515 204 P_X11_read (fun As σ w τ => Q_X11_read As σ w τ ∧ U_read As σ w τ) := CMetC.of KX11_read (uc2C [(123, P_X7_readProgram, Q_X7_readProgram), (49, P_X3_judgeProgram, Q_X3_judgeProgram), (234, P_Jx4a65c_size_8abf5, Q_Jx4a65c_size_8abf5), (1, P_X0_lay, Q_X0_lay), (124, P_X7_faultPlace, Q_X7_faultPlace)] [(123, U_readProgram)]) hX11_read (by decide) (by decide) okX11_read (cc1C (n_readProgram l) (by decide) (cc1C (m_X3_judgeProgram l) (by decide) (cc1C (m_Jx4a65c_size_8abf5 l) (by decide) (cc1C (m_X0_lay l) (by decide) (cc1C (m_X7_faultPlace l) (by decide) cc0C))))) lg_X11_read (b_X11_read.and p_read)

/-! the law: what holds of the class between two calls -/
/-- the tokens of the program that stands are those of the text that is kept, in both halves; and methods, variables -/
def JpC (a : Nat) (σ : CsC) (ρ : RS) : Prop := ∃ y n s, okY y ∧ (y.2 = (gI ρ 119).toInt ∧ ∀ j : Nat, (j : Int) < y.2 → y.1 j = (aI ρ 118 j).toInt) ∧ EndY y n ∧ TcP σ a y n ∧ RtR ρ y n ∧ (Z0Y s ∧ TkS y s n) ∧ LcP σ a (prlY 11 s).2.1 ∧ RlRq ρ (prlY 11 s).2.1
/-- the length of the tape, the number of inputs, the tape's bytes: both halves have them alike; the words stand in the class's Tokens -/
def JL (a : Nat) (σ : CsC) (ρ : RS) : Prop := (fIC σ a 369).toInt = (gI ρ 1).toInt ∧ (fIC σ a 370).toInt = (gI ρ 123).toInt ∧ (∀ c, fRC σ a 360 = some c → ∀ j : Nat, (j : Int) < (fIC σ a 369).toInt → eIC σ c j &&& 255 = aI ρ 0 j) ∧ (W2C σ a ∧ DsC σ a ∧ DlC σ a) ∧ JpC a σ ρ
/-- words and tokens stay -/
def WdT (a : Nat) (σ τ : CsC) : Prop := (W2C σ a ∧ DsC σ a ∧ DlC σ a → W2C τ a ∧ DsC τ a ∧ DlC τ a) ∧ ∀ y n z, TcP σ a y n ∧ LcP σ a z → TcP τ a y n ∧ LcP τ a z
/-- what a call of the class keeps of the tape's row, of the words and of the tokens -/
def KtC (a : Nat) (σ τ : CsC) : Prop := (∀ c, fRC τ a 360 = some c → fRC σ a 360 = some c ∧ eIC τ c = eIC σ c) ∧ WdT a σ τ
theorem KtC.rf {a : Nat} {σ : CsC} : KtC a σ σ := ⟨fun _ h => ⟨h, rfl⟩, fun h => h, fun _ _ _ h => h⟩
theorem W2C.x {a : Nat} {M : List Nat} {σ τ : CsC} (h : W2C σ a) (H : HIC σ) (ty : TyC σ a 12) (e : ExC M σ τ) (m : M.elem 996 = false ∧ M.elem 363 = false ∧ M.elem 364 = false) : W2C τ a := by
  obtain ⟨P, t, c, P', t', c', hT⟩ := h.t H ty
  exact (hT.x e m).c
theorem DsC.x {a : Nat} {M : List Nat} {σ τ : CsC} (h : DsC σ a) (w : W2C σ a) (H : HIC σ) (ty : TyC σ a 12) (e : ExC M σ τ) (m : M.elem 996 = false ∧ M.elem 363 = false ∧ M.elem 364 = false) (m2 : M.elem 300 = false ∧ M.elem 301 = false ∧ M.elem 302 = false) : DsC τ a := by
  obtain ⟨P, t, c, P', t', c', hT⟩ := w.t H ty
  exact ((h.d hT).x e m2 hT.2.2.1.2.2.1.1 hT.2.2.2.2.2.1.1).ds (hT.x e m)
theorem TcP.x {a n : Nat} {y : TxY} {M : List Nat} {σ τ : CsC} (h : TcP σ a y n) (H : HIC σ) (ty : TyC σ a 12) (e : ExC M σ τ) (m : M.elem 363 = false) (m2 : (M.elem 300 = false ∧ M.elem 301 = false ∧ M.elem 302 = false) ∧ M.elem 305 = false ∧ M.elem 998 = false) : TcP τ a y n := by
  obtain ⟨P, t, hP, ht, hT⟩ := h
  obtain ⟨P2, -, eP, tP⟩ := cg363 H.1 ty
  obtain rfl : P = P2 := Option.some.inj (hP.symm.trans eP)
  obtain ⟨t2, -, et, tt⟩ := cg210 H.1 tP
  obtain rfl : t = t2 := Option.some.inj (ht.symm.trans et)
  exact ⟨P, t, (ty.mr e m).trans hP, (tP.fr e (by decide) (k := 210) rfl).trans ht, hT.x (RwU.mk H tt) e m2⟩
theorem DlC.x {a : Nat} {M : List Nat} {σ τ : CsC} (h : DlC σ a) (w : W2C σ a) (H : HIC σ) (ty : TyC σ a 12) (e : ExC M σ τ) (m : M.elem 996 = false ∧ M.elem 363 = false ∧ M.elem 364 = false) : DlC τ a := by
  obtain ⟨P, t, c, P', t', c', hT⟩ := w.t H ty
  exact ((h.d hT).x e hT.2.2.1.pg hT.2.2.2.pg).ds (hT.x e m)
theorem LcP.x {a : Nat} {z : LzY} {M : List Nat} {σ τ : CsC} (h : LcP σ a z) (H : HIC σ) (ty : TyC σ a 12) (e : ExC M σ τ) (m : M.elem 363 = false) (m2 : (M.elem 2 = false ∧ M.elem 1 = false) ∧ M.elem 185 = false ∧ M.elem 995 = false) : LcP τ a z := by
  obtain ⟨P, b, c, hP, hL⟩ := h
  obtain ⟨P2, -, eP, tP⟩ := cg363 H.1 ty
  obtain rfl : P = P2 := Option.some.inj (hP.symm.trans eP)
  exact ⟨P, b, c, (ty.mr e m).trans hP, hL.x ⟨tP.1, tP.2.1⟩ e m2⟩
theorem WdT.x {a : Nat} {M : List Nat} {σ τ : CsC} (H : HIC σ) (ty : TyC σ a 12) (e : ExC M σ τ) (m : M.elem 996 = false ∧ M.elem 363 = false ∧ M.elem 364 = false) (m2 : ((M.elem 300 = false ∧ M.elem 301 = false ∧ M.elem 302 = false) ∧ M.elem 305 = false ∧ M.elem 998 = false) ∧ (M.elem 2 = false ∧ M.elem 1 = false) ∧ M.elem 185 = false ∧ M.elem 995 = false) : WdT a σ τ := ⟨fun h => ⟨h.1.x H ty e m, h.2.1.x h.1 H ty e m m2.1.1, h.2.2.x h.1 H ty e m⟩, fun _ _ _ h => ⟨h.1.x H ty e m.2.1 m2.1, h.2.x H ty e m.2.1 m2.2⟩⟩
theorem KtC.x {a : Nat} {M : List Nat} {σ τ : CsC} (H : HIC σ) (ty : TyC σ a 12) (e : ExC M σ τ) (m : M.elem 997 = false ∧ M.elem 996 = false ∧ M.elem 363 = false ∧ M.elem 364 = false) (m2 : ((M.elem 300 = false ∧ M.elem 301 = false ∧ M.elem 302 = false) ∧ M.elem 305 = false ∧ M.elem 998 = false) ∧ (M.elem 2 = false ∧ M.elem 1 = false) ∧ M.elem 185 = false ∧ M.elem 995 = false) : KtC a σ τ := by
  refine ⟨fun c hc => ?_, WdT.x H ty e m.2 m2⟩
  rw [ty.fr e (by decide) (k := 360) rfl] at hc
  obtain ⟨b, -, eb, tb, -⟩ := cg360 H.1 ty
  obtain rfl : b = c := Option.some.inj (eb.symm.trans hc)
  exact ⟨hc, (e.2.1.2.2 b tb.1 (by rw [tb.2.1]; exact prC.b m.1)).1⟩
theorem JpC.k {a : Nat} {σ τ : CsC} {ρ ρ1 : RS} (h : JpC a σ ρ) (hT : ∀ y n z, TcP σ a y n ∧ LcP σ a z → TcP τ a y n ∧ LcP τ a z) (hA : KpA ρ ρ1) : JpC a τ ρ1 := by
  obtain ⟨y, n, s, h1, ⟨h2, h3⟩, h4, h5, h6, h7, h8, h9⟩ := h
  have hq := hT y n _ ⟨h5, h8⟩
  exact ⟨y, n, s, h1, ⟨by rw [hA.2.1]; exact h2, fun j hj => by rw [hA.2.2]; exact h3 j hj⟩, h4, hq.1, h6.k hA.1, h7, hq.2, h9.k hA.1⟩
theorem JL.k {a : Nat} {σ τ : CsC} {ρ ρ1 : RS} (hJ : JL a σ ρ) (hK : KtC a σ τ) (e1 : (fIC τ a 369).toInt = (gI ρ1 1).toInt) (e2 : (fIC τ a 370).toInt = (gI ρ1 123).toInt) (hle : (fIC τ a 369).toInt ≤ (fIC σ a 369).toInt) (e0 : aI ρ1 0 = aI ρ 0) (hA : KpA ρ ρ1) : JL a τ ρ1 := ⟨e1, e2, fun c hc j hj => by
  obtain ⟨q1, q2⟩ := hK.1 c hc
  rw [q2, e0]
  exact hJ.2.2.1 c q1 j (by omega), hK.2.1 hJ.2.2.2.1, hJ.2.2.2.2.k hK.2.2 hA⟩
/-- n calls were made -/
def IvL (a : Nat) (n : Nat) (σ : CsC) : Prop := HIC σ ∧ TyC σ a 12 ∧ GrC σ σ ∧ (cpC σ = 150000 ∧ spC σ = 5000000) ∧ (cnC σ : Int) + 8 * (fIC σ a 369).toInt ≤ 20062 + 200 * (n : Int) ∧ slC σ + 4 * gsC σ (cnC σ) ≤ 2000000 + 22 * cnC σ
theorem IvL.len {a n : Nat} {σ : CsC} (h : IvL a n σ) : 0 ≤ (fIC σ a 369).toInt := by
  obtain ⟨x, -, e, h1, -⟩ := cg369 h.1.1 h.2.1
  rw [e]
  exact h1
theorem IvL.sm {a n : Nat} {M : List Nat} {σ τ : CsC} (h : IvL a n σ) (hi : HIC τ) (e : ExC M σ τ) (hm : M.elem 369 = false ∧ M.elem 1 = false ∧ M.elem 999 = false) : IvL a (n + 1) τ := by
  obtain ⟨h1, h2, h3, h4, h5, h6⟩ := h
  have e1 : τ.1 = σ.1 := e.2.1.2.1 hm.2.2
  obtain ⟨g1, g2⟩ := e.sg h1.1 ⟨hm.2.1, hm.2.2⟩
  have e3 : fIC τ a 369 = fIC σ a 369 := h2.mi e hm.1
  refine ⟨hi, h2.x e, ?_, ?_, ?_, by omega⟩
  · unfold GrC cnC slC cpC spC at *
    rw [e1]
    exact h3
  · unfold cpC spC at *
    rw [e1]
    exact h4
  · rw [e3, g2]
    omega
theorem IvL.eq {a n : Nat} {σ : CsC} (h : IvL a n σ) : IvL a (n + 1) σ := h.sm (M := []) h.1 ExC.rf ⟨rfl, rfl, rfl⟩
theorem IvL.ft {a n : Nat} {M : List Nat} {σ τ : CsC} (h : IvL a n σ) (hi : HIC τ) (e : ExC M σ τ) (hm : M.elem 1 = false ∧ M.elem 999 = false) (hl : (fIC τ a 369).toInt ≤ (fIC σ a 369).toInt + 20) : IvL a (n + 1) τ := by
  obtain ⟨h1, h2, h3, h4, h5, h6⟩ := h
  have e1 : τ.1 = σ.1 := e.2.1.2.1 hm.2
  obtain ⟨g1, g2⟩ := e.sg h1.1 hm
  refine ⟨hi, h2.x e, ?_, ?_, ?_, by omega⟩
  · unfold GrC cnC slC cpC spC at *
    rw [e1]
    exact h3
  · unfold cpC spC at *
    rw [e1]
    exact h4
  · rw [g2]
    omega
theorem IvL.rd {a n : Nat} {M : List Nat} {σ τ : CsC} (h : IvL a n σ) (hi : HIC τ) (e : ExC M σ τ) (g : GrC σ τ) (h7 : (cnC τ : Int) + 8 * (fIC τ a 369).toInt ≤ cnC σ + 8 * (fIC σ a 369).toInt + 200) (h8 : slC τ + 4 * gsC τ (cnC τ) ≤ slC σ + 4 * gsC σ (cnC σ) + 22 * (cnC τ - cnC σ)) : IvL a (n + 1) τ := by
  obtain ⟨h1, h2, h3, h4, h5, h6⟩ := h
  have g1 := g.1.1
  have g2 := g.cp
  exact ⟨hi, h2.x e, ⟨⟨Nat.le_refl _, Nat.le_refl _⟩, rfl, g.2.2⟩, ⟨g2.1.trans h4.1, g2.2.trans h4.2⟩, by omega, by omega⟩
theorem ls_feed {a n : Nat} {σ : CsC} (h : IvL a n σ) (hn : n < 512) (p1 : Int32) (p2 : Int32) (p3 : Int32) (p4 : Int32) (p5 : Int32) : P_X11_feed [.inr (.inr (some a)), .inl p1, .inl p2, .inl p3, .inl p4, .inl p5] σ ∧ ∀ w τ, Q_X11_feed [.inr (.inr (some a)), .inl p1, .inl p2, .inl p3, .inl p4, .inl p5] σ w τ → GrC σ τ → IvL a (n + 1) τ ∧ fIC τ a 370 = fIC σ a 370 ∧ WdT a σ τ ∧ ∃ r : Int32, w = some (.inl r) ∧ ((2500 < (fIC σ a 369).toInt + 20 ∧ r.toInt = -3 ∧ (fIC τ a 369).toInt = (fIC σ a 369).toInt) ∨ ((fIC σ a 369).toInt + 20 ≤ 2500 ∧ r.toInt = (fIC τ a 369).toInt ∧ (fIC τ a 369).toInt = (fIC σ a 369).toInt + 20)) := by
  refine ⟨⟨a, p1, p2, p3, p4, p5, rfl, h.1, h.2.1⟩, ?_⟩
  rintro w τ ⟨r, rfl, hi, e, hl, ha⟩ g
  exact ⟨h.ft hi e ⟨rfl, rfl⟩ (by omega), h.2.1.mi e rfl, WdT.x h.1 h.2.1 e ⟨rfl, rfl, rfl⟩ ⟨⟨⟨rfl, rfl, rfl⟩, rfl, rfl⟩, ⟨rfl, rfl⟩, rfl, rfl⟩, r, rfl, ha⟩
theorem ls_cut {a n : Nat} {σ : CsC} (h : IvL a n σ) (hn : n < 512) (p1 : Int32) : P_X11_cut [.inr (.inr (some a)), .inl p1] σ ∧ ∀ w τ, Q_X11_cut [.inr (.inr (some a)), .inl p1] σ w τ → GrC σ τ → IvL a (n + 1) τ ∧ fIC τ a 370 = fIC σ a 370 ∧ KtC a σ τ ∧ ∃ r : Int32, w = some (.inl r) ∧ (((p1.toInt < 0 ∨ (fIC σ a 369).toInt < p1.toInt) ∧ r.toInt = -1 ∧ (fIC τ a 369).toInt = (fIC σ a 369).toInt) ∨ ((0 ≤ p1.toInt ∧ p1.toInt ≤ (fIC σ a 369).toInt) ∧ r.toInt = (fIC τ a 369).toInt ∧ (fIC τ a 369).toInt = (fIC σ a 369).toInt - p1.toInt)) := by
  refine ⟨⟨a, p1, rfl, h.1, h.2.1⟩, ?_⟩
  rintro w τ ⟨r, rfl, hi, e, hl, ha⟩ g
  exact ⟨h.ft hi e ⟨rfl, rfl⟩ (by omega), h.2.1.mi e rfl, KtC.x h.1 h.2.1 e ⟨rfl, rfl, rfl, rfl⟩ ⟨⟨⟨rfl, rfl, rfl⟩, rfl, rfl⟩, ⟨rfl, rfl⟩, rfl, rfl⟩, r, rfl, ha⟩
theorem ls_read {a n : Nat} {σ : CsC} (h : IvL a n σ) (hn : n < 512) : P_X11_read [.inr (.inr (some a))] σ ∧ ∀ w τ, Q_X11_read [.inr (.inr (some a))] σ w τ → GrC σ τ → IvL a (n + 1) τ ∧ ((fIC τ a 369).toInt = 0 ∧ fIC τ a 370 = fIC σ a 370) ∧ ∃ r : Int32, w = some (.inl r) := by
  have h9 := h.len
  obtain ⟨h1, h2, h3, h4, h5, h6⟩ := id h
  refine ⟨⟨a, rfl, h1, h2, by omega, by omega⟩, ?_⟩
  rintro w τ ⟨r, rfl, hi, e, h7, h8, h0, -⟩ g
  exact ⟨h.rd hi e g h7 h8, ⟨h0, h.2.1.mi e rfl⟩, r, rfl⟩
theorem ls_place {a n : Nat} {σ : CsC} (h : IvL a n σ) (hn : n < 512) : P_X11_place [.inr (.inr (some a))] σ ∧ ∀ w τ, Q_X11_place [.inr (.inr (some a))] σ w τ → GrC σ τ → IvL a (n + 1) τ ∧ (fIC τ a 369 = fIC σ a 369 ∧ fIC τ a 370 = fIC σ a 370) ∧ KtC a σ τ ∧ ∃ r : Int32, w = some (.inl r) := by
  refine ⟨⟨a, rfl, h.1, h.2.1⟩, ?_⟩
  rintro w τ ⟨r, rfl, rfl⟩ g
  exact ⟨h.eq, ⟨rfl, rfl⟩, KtC.rf, r, rfl⟩
theorem ls_judge {a n : Nat} {σ : CsC} (h : IvL a n σ) (hn : n < 512) : P_X11_judge [.inr (.inr (some a))] σ ∧ ∀ w τ, Q_X11_judge [.inr (.inr (some a))] σ w τ → GrC σ τ → IvL a (n + 1) τ ∧ (fIC τ a 369 = fIC σ a 369 ∧ fIC τ a 370 = fIC σ a 370) ∧ KtC a σ τ ∧ ∃ r : Int32, w = some (.inl r) := by
  refine ⟨⟨a, rfl, h.1, h.2.1⟩, ?_⟩
  rintro w τ ⟨r, rfl, hi, e⟩ g
  exact ⟨h.sm hi e ⟨rfl, rfl, rfl⟩, ⟨h.2.1.mi e rfl, h.2.1.mi e rfl⟩, KtC.x h.1 h.2.1 e ⟨rfl, rfl, rfl, rfl⟩ ⟨⟨⟨rfl, rfl, rfl⟩, rfl, rfl⟩, ⟨rfl, rfl⟩, rfl, rfl⟩, r, rfl⟩
theorem ls_told {a n : Nat} {σ : CsC} (h : IvL a n σ) (hn : n < 512) (p1 : Int32) : P_X11_told [.inr (.inr (some a)), .inl p1] σ ∧ ∀ w τ, Q_X11_told [.inr (.inr (some a)), .inl p1] σ w τ → GrC σ τ → IvL a (n + 1) τ ∧ (fIC τ a 369 = fIC σ a 369 ∧ fIC τ a 370 = fIC σ a 370) ∧ KtC a σ τ ∧ ∃ r : Int32, w = some (.inl r) := by
  refine ⟨⟨a, p1, rfl, h.1, h.2.1⟩, ?_⟩
  rintro w τ ⟨r, rfl, rfl⟩ g
  exact ⟨h.eq, ⟨rfl, rfl⟩, KtC.rf, r, rfl⟩
theorem ls_token {a n : Nat} {σ : CsC} (h : IvL a n σ) (hn : n < 512) (p1 : Int32) (p2 : Int32) : P_X11_token [.inr (.inr (some a)), .inl p1, .inl p2] σ ∧ ∀ w τ, Q_X11_token [.inr (.inr (some a)), .inl p1, .inl p2] σ w τ → GrC σ τ → IvL a (n + 1) τ ∧ (fIC τ a 369 = fIC σ a 369 ∧ fIC τ a 370 = fIC σ a 370) ∧ KtC a σ τ ∧ ∃ r : Int32, w = some (.inl r) := by
  refine ⟨⟨a, p1, p2, rfl, h.1, h.2.1⟩, ?_⟩
  rintro w τ ⟨r, rfl, rfl⟩ g
  exact ⟨h.eq, ⟨rfl, rfl⟩, KtC.rf, r, rfl⟩
theorem ls_method {a n : Nat} {σ : CsC} (h : IvL a n σ) (hn : n < 512) (p1 : Int32) (p2 : Int32) : P_X11_method [.inr (.inr (some a)), .inl p1, .inl p2] σ ∧ ∀ w τ, Q_X11_method [.inr (.inr (some a)), .inl p1, .inl p2] σ w τ → GrC σ τ → IvL a (n + 1) τ ∧ (fIC τ a 369 = fIC σ a 369 ∧ fIC τ a 370 = fIC σ a 370) ∧ KtC a σ τ ∧ ∃ r : Int32, w = some (.inl r) := by
  refine ⟨⟨a, p1, p2, rfl, h.1, h.2.1⟩, ?_⟩
  rintro w τ ⟨r, rfl, rfl⟩ g
  exact ⟨h.eq, ⟨rfl, rfl⟩, KtC.rf, r, rfl⟩
theorem ls_variable {a n : Nat} {σ : CsC} (h : IvL a n σ) (hn : n < 512) (p1 : Int32) (p2 : Int32) : P_X11_variable [.inr (.inr (some a)), .inl p1, .inl p2] σ ∧ ∀ w τ, Q_X11_variable [.inr (.inr (some a)), .inl p1, .inl p2] σ w τ → GrC σ τ → IvL a (n + 1) τ ∧ (fIC τ a 369 = fIC σ a 369 ∧ fIC τ a 370 = fIC σ a 370) ∧ KtC a σ τ ∧ ∃ r : Int32, w = some (.inl r) := by
  refine ⟨⟨a, p1, p2, rfl, h.1, h.2.1⟩, ?_⟩
  rintro w τ ⟨r, rfl, rfl⟩ g
  exact ⟨h.eq, ⟨rfl, rfl⟩, KtC.rf, r, rfl⟩
theorem ls_means {a n : Nat} {σ : CsC} (h : IvL a n σ) (hn : n < 512) (p1 : Int32) : P_X11_means [.inr (.inr (some a)), .inl p1] σ ∧ ∀ w τ, Q_X11_means [.inr (.inr (some a)), .inl p1] σ w τ → GrC σ τ → IvL a (n + 1) τ ∧ (fIC τ a 369 = fIC σ a 369 ∧ fIC τ a 370 = fIC σ a 370) ∧ KtC a σ τ ∧ ∃ r : Int32, w = some (.inl r) := by
  refine ⟨⟨a, p1, rfl, h.1, h.2.1⟩, ?_⟩
  rintro w τ ⟨r, rfl, rfl⟩ g
  exact ⟨h.eq, ⟨rfl, rfl⟩, KtC.rf, r, rfl⟩
theorem ls_type {a n : Nat} {σ : CsC} (h : IvL a n σ) (hn : n < 512) (p1 : Int32) (p2 : Int32) : P_X11_type [.inr (.inr (some a)), .inl p1, .inl p2] σ ∧ ∀ w τ, Q_X11_type [.inr (.inr (some a)), .inl p1, .inl p2] σ w τ → GrC σ τ → IvL a (n + 1) τ ∧ (fIC τ a 369 = fIC σ a 369 ∧ fIC τ a 370 = fIC σ a 370) ∧ KtC a σ τ ∧ ∃ r : Int32, w = some (.inl r) := by
  refine ⟨⟨a, p1, p2, rfl, h.1, h.2.1⟩, ?_⟩
  rintro w τ ⟨r, rfl, rfl⟩ g
  exact ⟨h.eq, ⟨rfl, rfl⟩, KtC.rf, r, rfl⟩
theorem ls_constant {a n : Nat} {σ : CsC} (h : IvL a n σ) (hn : n < 512) (p1 : Int32) (p2 : Int32) : P_X11_constant [.inr (.inr (some a)), .inl p1, .inl p2] σ ∧ ∀ w τ, Q_X11_constant [.inr (.inr (some a)), .inl p1, .inl p2] σ w τ → GrC σ τ → IvL a (n + 1) τ ∧ (fIC τ a 369 = fIC σ a 369 ∧ fIC τ a 370 = fIC σ a 370) ∧ KtC a σ τ ∧ ∃ r : Int64, w = some (.inr (.inl r)) := by
  refine ⟨⟨a, p1, p2, rfl, h.1, h.2.1⟩, ?_⟩
  rintro w τ ⟨r, rfl, rfl⟩ g
  exact ⟨h.eq, ⟨rfl, rfl⟩, KtC.rf, r, rfl⟩
theorem ls_ends {a n : Nat} {σ : CsC} (h : IvL a n σ) (hn : n < 512) (p1 : Int32) : P_X11_ends [.inr (.inr (some a)), .inl p1] σ ∧ ∀ w τ, Q_X11_ends [.inr (.inr (some a)), .inl p1] σ w τ → GrC σ τ → IvL a (n + 1) τ ∧ (fIC τ a 369 = fIC σ a 369 ∧ fIC τ a 370 = fIC σ a 370) ∧ KtC a σ τ ∧ ∃ r : Int32, w = some (.inl r) := by
  refine ⟨⟨a, p1, rfl, h.1, h.2.1⟩, ?_⟩
  rintro w τ ⟨r, rfl, rfl⟩ g
  exact ⟨h.eq, ⟨rfl, rfl⟩, KtC.rf, r, rfl⟩
theorem ls_assigned {a n : Nat} {σ : CsC} (h : IvL a n σ) (hn : n < 512) (p1 : Int32) (p2 : Int32) : P_X11_assigned [.inr (.inr (some a)), .inl p1, .inl p2] σ ∧ ∀ w τ, Q_X11_assigned [.inr (.inr (some a)), .inl p1, .inl p2] σ w τ → GrC σ τ → IvL a (n + 1) τ ∧ (fIC τ a 369 = fIC σ a 369 ∧ fIC τ a 370 = fIC σ a 370) ∧ KtC a σ τ ∧ ∃ r : Int32, w = some (.inl r) := by
  refine ⟨⟨a, p1, p2, rfl, h.1, h.2.1⟩, ?_⟩
  rintro w τ ⟨r, rfl, rfl⟩ g
  exact ⟨h.eq, ⟨rfl, rfl⟩, KtC.rf, r, rfl⟩
theorem ls_argument {a n : Nat} {σ : CsC} (h : IvL a n σ) (hn : n < 512) (p1 : Int32) (p2 : Int64) : P_X11_argument [.inr (.inr (some a)), .inl p1, .inr (.inl p2)] σ ∧ ∀ w τ, Q_X11_argument [.inr (.inr (some a)), .inl p1, .inr (.inl p2)] σ w τ → GrC σ τ → IvL a (n + 1) τ ∧ (fIC τ a 369 = fIC σ a 369 ∧ fIC τ a 370 = fIC σ a 370) ∧ KtC a σ τ ∧ ∃ r : Int32, w = some (.inl r) ∧ ((r.toInt = 1 ∧ 0 ≤ p1.toInt ∧ p1.toInt < 6) ∨ (r.toInt = -1 ∧ (p1.toInt < 0 ∨ 6 ≤ p1.toInt))) := by
  refine ⟨⟨a, p1, p2, rfl, h.1, h.2.1⟩, ?_⟩
  rintro w τ ⟨r, rfl, hi, e, ha⟩ g
  exact ⟨h.sm hi e ⟨rfl, rfl, rfl⟩, ⟨h.2.1.mi e rfl, h.2.1.mi e rfl⟩, KtC.x h.1 h.2.1 e ⟨rfl, rfl, rfl, rfl⟩ ⟨⟨⟨rfl, rfl, rfl⟩, rfl, rfl⟩, ⟨rfl, rfl⟩, rfl, rfl⟩, r, rfl, ha⟩
theorem ls_input {a n : Nat} {σ : CsC} (h : IvL a n σ) (hn : n < 512) (p1 : Int32) : P_X11_input [.inr (.inr (some a)), .inl p1] σ ∧ ∀ w τ, Q_X11_input [.inr (.inr (some a)), .inl p1] σ w τ → GrC σ τ → IvL a (n + 1) τ ∧ fIC τ a 369 = fIC σ a 369 ∧ KtC a σ τ ∧ ∃ r : Int32, w = some (.inl r) ∧ (((fIC σ a 370).toInt = 40 ∧ r.toInt = -3 ∧ (fIC τ a 370).toInt = (fIC σ a 370).toInt) ∨ ((fIC σ a 370).toInt < 40 ∧ r.toInt = (fIC τ a 370).toInt ∧ (fIC τ a 370).toInt = (fIC σ a 370).toInt + 1)) := by
  refine ⟨⟨a, p1, rfl, h.1, h.2.1⟩, ?_⟩
  rintro w τ ⟨r, rfl, hi, e, ha⟩ g
  exact ⟨h.sm hi e ⟨rfl, rfl, rfl⟩, h.2.1.mi e rfl, KtC.x h.1 h.2.1 e ⟨rfl, rfl, rfl, rfl⟩ ⟨⟨⟨rfl, rfl, rfl⟩, rfl, rfl⟩, ⟨rfl, rfl⟩, rfl, rfl⟩, r, rfl, ha⟩
theorem ls_drain {a n : Nat} {σ : CsC} (h : IvL a n σ) (hn : n < 512) : P_X11_drain [.inr (.inr (some a))] σ ∧ ∀ w τ, Q_X11_drain [.inr (.inr (some a))] σ w τ → GrC σ τ → IvL a (n + 1) τ ∧ fIC τ a 369 = fIC σ a 369 ∧ KtC a σ τ ∧ ∃ r : Int32, w = some (.inl r) ∧ (r.toInt = (fIC σ a 370).toInt ∧ (fIC τ a 370).toInt = 0) := by
  refine ⟨⟨a, rfl, h.1, h.2.1⟩, ?_⟩
  rintro w τ ⟨r, rfl, hi, e, ha⟩ g
  exact ⟨h.sm hi e ⟨rfl, rfl, rfl⟩, h.2.1.mi e rfl, KtC.x h.1 h.2.1 e ⟨rfl, rfl, rfl, rfl⟩ ⟨⟨⟨rfl, rfl, rfl⟩, rfl, rfl⟩, ⟨rfl, rfl⟩, rfl, rfl⟩, r, rfl, ha⟩
theorem ls_run {a n : Nat} {σ : CsC} (h : IvL a n σ) (hn : n < 512) (p1 : Int32) (p2 : Int32) : P_X11_run [.inr (.inr (some a)), .inl p1, .inl p2] σ ∧ ∀ w τ, Q_X11_run [.inr (.inr (some a)), .inl p1, .inl p2] σ w τ → GrC σ τ → IvL a (n + 1) τ ∧ (fIC τ a 369 = fIC σ a 369 ∧ fIC τ a 370 = fIC σ a 370) ∧ KtC a σ τ ∧ ∃ r : Int32, w = some (.inl r) := by
  refine ⟨⟨a, p1, p2, rfl, h.1, h.2.1⟩, ?_⟩
  rintro w τ ⟨r, rfl, hi, e⟩ g
  exact ⟨h.sm hi e ⟨rfl, rfl, rfl⟩, ⟨h.2.1.mi e rfl, h.2.1.mi e rfl⟩, KtC.x h.1 h.2.1 e ⟨rfl, rfl, rfl, rfl⟩ ⟨⟨⟨rfl, rfl, rfl⟩, rfl, rfl⟩, ⟨rfl, rfl⟩, rfl, rfl⟩, r, rfl⟩
theorem ls_ran {a n : Nat} {σ : CsC} (h : IvL a n σ) (hn : n < 512) (p1 : Int32) : P_X11_ran [.inr (.inr (some a)), .inl p1] σ ∧ ∀ w τ, Q_X11_ran [.inr (.inr (some a)), .inl p1] σ w τ → GrC σ τ → IvL a (n + 1) τ ∧ (fIC τ a 369 = fIC σ a 369 ∧ fIC τ a 370 = fIC σ a 370) ∧ KtC a σ τ ∧ ∃ r : Int64, w = some (.inr (.inl r)) := by
  refine ⟨⟨a, p1, rfl, h.1, h.2.1⟩, ?_⟩
  rintro w τ ⟨r, rfl, rfl⟩ g
  exact ⟨h.eq, ⟨rfl, rfl⟩, KtC.rf, r, rfl⟩

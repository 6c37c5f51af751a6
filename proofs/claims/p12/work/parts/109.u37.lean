theorem ug210 (σ : CsC) (a : Nat) : gtC σ a 210 = .inr (.inr (fRC σ a 210)) := rfl
theorem ug240 (σ : CsC) (a : Nat) : gtC σ a 240 = .inr (.inr (fRC σ a 240)) := rfl
theorem ug241 (σ : CsC) (a : Nat) : gtC σ a 241 = .inr (.inr (fRC σ a 241)) := rfl
theorem ug243 (σ : CsC) (a : Nat) : gtC σ a 243 = .inl (fIC σ a 243) := rfl
/-- the tokens' rows, the text's row -/
def RwT (σ : CsC) (t p2 : Nat) : Prop := (t < cnC σ ∧ p2 < cnC σ ∧ tgC σ p2 = 101) ∧ (∀ a, fRC σ t 300 = some a → a < cnC σ ∧ tgC σ a = 100 ∧ 2 ≤ ghC σ a ∧ ghC σ a ≤ 4) ∧ (∀ a, fRC σ t 301 = some a → a < cnC σ ∧ tgC σ a = 100 ∧ 2 ≤ ghC σ a ∧ ghC σ a ≤ 4) ∧ (∀ a, fRC σ t 302 = some a → a < cnC σ ∧ tgC σ a = 100 ∧ 2 ≤ ghC σ a ∧ ghC σ a ≤ 4)
theorem RwT.x {M : List Nat} {σ τ : CsC} {t p2 : Nat} (h : RwT σ t p2) (e : ExC M σ τ) (m : M.elem 300 = false ∧ M.elem 301 = false ∧ M.elem 302 = false) : RwT τ t p2 := by
  obtain ⟨⟨h1, h2, h3⟩, h4, h5, h6⟩ := h
  have ft := (e.2.2 t h1).2.2.2
  have g : ∀ a, (a < cnC σ ∧ tgC σ a = 100 ∧ 2 ≤ ghC σ a ∧ ghC σ a ≤ 4) → a < cnC τ ∧ tgC τ a = 100 ∧ 2 ≤ ghC τ a ∧ ghC τ a ≤ 4 := fun a q => by
    have z := (e.2.2 a q.1).1
    exact ⟨Nat.lt_of_lt_of_le q.1 e.1, z.1.trans q.2.1, by rw [z.2.2]; exact q.2.2⟩
  exact ⟨⟨Nat.lt_of_lt_of_le h1 e.1, Nat.lt_of_lt_of_le h2 e.1, (e.2.2 p2 h2).1.1.trans h3⟩, fun a q => g a (h4 a ((ft 300 m.1).2.symm.trans q)), fun a q => g a (h5 a ((ft 301 m.2.1).2.symm.trans q)), fun a q => g a (h6 a ((ft 302 m.2.2).2.symm.trans q))⟩
theorem RwT.pr {σ : CsC} {t p2 a k : Nat} {v : Option Nat} (h : RwT σ t p2) (h0 : 300 ≠ k) (h1 : 301 ≠ k) (h2 : 302 ≠ k) : RwT (pRC σ a k v) t p2 := ⟨h.1, fun b q => h.2.1 b ((fR_w3 h0).symm.trans q), fun b q => h.2.2.1 b ((fR_w3 h1).symm.trans q), fun b q => h.2.2.2 b ((fR_w3 h2).symm.trans q)⟩
theorem CuC.x {M : List Nat} {σ τ : CsC} {t p2 n : Nat} {x : TxY} (h : CuC σ t p2 x n) (r : RwT σ t p2) (e : ExC M σ τ) (m : (M.elem 300 = false ∧ M.elem 301 = false ∧ M.elem 302 = false) ∧ (M.elem 303 = false ∧ M.elem 305 = false ∧ M.elem 307 = false ∧ M.elem 308 = false) ∧ M.elem 997 = false ∧ M.elem 998 = false) : CuC τ t p2 x n := by
  obtain ⟨hn, a0, a1, a2, a3, ⟨⟨f0, f1, f2, f3, f7⟩, ⟨i8, i5⟩, hb, hr⟩, hl, hc⟩ := h
  have ft := (e.2.2 t r.1.1).2.2.2
  have e0 := (e.2.1.2.2 a0 (r.2.1 a0 f0).1 (by rw [(r.2.1 a0 f0).2.1]; exact prC.c (r.2.1 a0 f0).2.2 m.2.2.2)).1
  have e1 := (e.2.1.2.2 a1 (r.2.2.1 a1 f1).1 (by rw [(r.2.2.1 a1 f1).2.1]; exact prC.c (r.2.2.1 a1 f1).2.2 m.2.2.2)).1
  have e2 := (e.2.1.2.2 a2 (r.2.2.2 a2 f2).1 (by rw [(r.2.2.2 a2 f2).2.1]; exact prC.c (r.2.2.2 a2 f2).2.2 m.2.2.2)).1
  have ep := (e.2.1.2.2 p2 r.1.2.1 (by rw [r.1.2.2]; exact prC.b m.2.2.1)).1
  refine ⟨hn, a0, a1, a2, a3, ⟨⟨(ft 300 m.1.1).2.trans f0, (ft 301 m.1.2.1).2.trans f1, (ft 302 m.1.2.2).2.trans f2, (ft 303 m.2.1.1).2.trans f3, (ft 307 m.2.1.2.2.1).2.trans f7⟩, ⟨by rw [(ft 308 m.2.1.2.2.2).1]; exact i8, by rw [(ft 305 m.2.1.2.1).1]; exact i5⟩, fun j hj => by rw [ep]; exact hb j hj, fun j hj => by rw [e0, e1, e2]; exact hr j hj⟩, by rw [e0]; exact hl, by rw [e2]; exact hc⟩
theorem CuC.pi {σ : CsC} {t p2 n a k : Nat} {x : TxY} {v : Int32} (h : CuC σ t p2 x n) (h5 : 305 ≠ k) (h8 : 308 ≠ k) : CuC (pIC σ a k v) t p2 x n := by
  obtain ⟨hn, a0, a1, a2, a3, ⟨f, ⟨i8, i5⟩, hb, hr⟩, hl, hc⟩ := h
  refine ⟨hn, a0, a1, a2, a3, ⟨f, ⟨?_, ?_⟩, hb, hr⟩, hl, hc⟩
  · show (u2C (fIC σ) a k v t 308).toInt = _
    rw [u2C_nk h8]; exact i8
  · show (u2C (fIC σ) a k v t 305).toInt = _
    rw [u2C_nk h5]; exact i5
/-- the tokens of the text y stand in u -/
def TnK (τ : CsC) (u : Nat) (y : TxY) (m : Nat) : Prop := ∃ a0 a1 a2, (fRC τ u 300 = some a0 ∧ fRC τ u 301 = some a1 ∧ fRC τ u 302 = some a2) ∧ (fIC τ u 305).toInt = m ∧ ∀ j, j < m → (eIC τ a0 j).toInt = atY y j ∧ (eIC τ a1 j).toInt = (oneY y (atY y j)).1 ∧ (eIC τ a2 j).toInt = (oneY y (atY y j)).2
theorem CuC.tc {τ : CsC} {t p2 n : Nat} {x : TxY} (h : CuC τ t p2 x n) : TnK τ t x n := by
  obtain ⟨hn, a0, a1, a2, a3, ⟨⟨f0, f1, f2, f3, f7⟩, ⟨i8, i5⟩, hb, hr⟩, hl, hc⟩ := h
  exact ⟨a0, a1, a2, ⟨f0, f1, f2⟩, i5, fun j hj => ⟨(hr j hj).1, (hr j hj).2.1, (hr j hj).2.2.1⟩⟩
/-- what is known of the rows of u -/
def RwU (σ : CsC) (u : Nat) : Prop := u < cnC σ ∧ (∀ a, fRC σ u 300 = some a → a < cnC σ ∧ tgC σ a = 100 ∧ ghC σ a = 3) ∧ (∀ a, fRC σ u 301 = some a → a < cnC σ ∧ tgC σ a = 100 ∧ ghC σ a = 4) ∧ (∀ a, fRC σ u 302 = some a → a < cnC σ ∧ tgC σ a = 100 ∧ ghC σ a = 2)
theorem RwU.mk {σ : CsC} {u : Nat} (H : HIC σ) (ty : TyC σ u 10) : RwU σ u := by
  obtain ⟨a, -, e, ta, -, ga⟩ := cg300 H.1 ty
  obtain ⟨b, -, f, tb, -, gb⟩ := cg301 H.1 ty
  obtain ⟨c, -, g, tc, -, gc⟩ := cg302 H.1 ty
  exact ⟨ty.1, fun x q => by rw [← Option.some.inj (e.symm.trans q)]; exact ⟨ta.1, ta.2.1, ga⟩, fun x q => by rw [← Option.some.inj (f.symm.trans q)]; exact ⟨tb.1, tb.2.1, gb⟩, fun x q => by rw [← Option.some.inj (g.symm.trans q)]; exact ⟨tc.1, tc.2.1, gc⟩⟩
theorem RwU.x {M : List Nat} {σ τ : CsC} {u : Nat} (h : RwU σ u) (e : ExC M σ τ) (m : M.elem 300 = false ∧ M.elem 301 = false ∧ M.elem 302 = false) : RwU τ u := by
  obtain ⟨h1, h4, h5, h6⟩ := h
  have ft := (e.2.2 u h1).2.2.2
  have g : ∀ a n, (a < cnC σ ∧ tgC σ a = 100 ∧ ghC σ a = n) → a < cnC τ ∧ tgC τ a = 100 ∧ ghC τ a = n := fun a n q => by
    have z := (e.2.2 a q.1).1
    exact ⟨Nat.lt_of_lt_of_le q.1 e.1, z.1.trans q.2.1, z.2.2.trans q.2.2⟩
  exact ⟨Nat.lt_of_lt_of_le h1 e.1, fun a q => g a 3 (h4 a ((ft 300 m.1).2.symm.trans q)), fun a q => g a 4 (h5 a ((ft 301 m.2.1).2.symm.trans q)), fun a q => g a 2 (h6 a ((ft 302 m.2.2).2.symm.trans q))⟩
theorem RwU.pr {σ : CsC} {u a k : Nat} {v : Option Nat} (h : RwU σ u) (h0 : 300 ≠ k) (h1 : 301 ≠ k) (h2 : 302 ≠ k) : RwU (pRC σ a k v) u := ⟨h.1, fun b q => h.2.1 b ((fR_w3 h0).symm.trans q), fun b q => h.2.2.1 b ((fR_w3 h1).symm.trans q), fun b q => h.2.2.2 b ((fR_w3 h2).symm.trans q)⟩
theorem TnK.x {M : List Nat} {σ τ : CsC} {u m : Nat} {y : TxY} (h : TnK σ u y m) (r : RwU σ u) (e : ExC M σ τ) (k : (M.elem 300 = false ∧ M.elem 301 = false ∧ M.elem 302 = false) ∧ M.elem 305 = false ∧ M.elem 998 = false) : TnK τ u y m := by
  obtain ⟨a0, a1, a2, ⟨f0, f1, f2⟩, i5, hr⟩ := h
  have ft := (e.2.2 u r.1).2.2.2
  have g0 := r.2.1 a0 f0
  have g1 := r.2.2.1 a1 f1
  have g2 := r.2.2.2 a2 f2
  have e0 := (e.2.1.2.2 a0 g0.1 (by rw [g0.2.1, g0.2.2]; exact prC.c (by decide) k.2.2)).1
  have e1 := (e.2.1.2.2 a1 g1.1 (by rw [g1.2.1, g1.2.2]; exact prC.c (by decide) k.2.2)).1
  have e2 := (e.2.1.2.2 a2 g2.1 (by rw [g2.2.1, g2.2.2]; exact prC.c (by decide) k.2.2)).1
  exact ⟨a0, a1, a2, ⟨(ft 300 k.1.1).2.trans f0, (ft 301 k.1.2.1).2.trans f1, (ft 302 k.1.2.2).2.trans f2⟩, by rw [(ft 305 k.2.1).1]; exact i5, fun j hj => by rw [e0, e1, e2]; exact hr j hj⟩
theorem TnK.pr {σ : CsC} {u m a k : Nat} {y : TxY} {v : Option Nat} (h : TnK σ u y m) (h0 : 300 ≠ k) (h1 : 301 ≠ k) (h2 : 302 ≠ k) : TnK (pRC σ a k v) u y m := by
  obtain ⟨a0, a1, a2, ⟨f0, f1, f2⟩, i5, hr⟩ := h
  exact ⟨a0, a1, a2, ⟨(fR_w3 h0).trans f0, (fR_w3 h1).trans f1, (fR_w3 h2).trans f2⟩, i5, hr⟩
theorem TnK.pi {σ : CsC} {u m a k : Nat} {y : TxY} {v : Int32} (h : TnK σ u y m) (h5 : 305 ≠ k) : TnK (pIC σ a k v) u y m := by
  obtain ⟨a0, a1, a2, f, i5, hr⟩ := h
  refine ⟨a0, a1, a2, f, ?_, hr⟩
  show (u2C (fIC σ) a k v u 305).toInt = _
  rw [u2C_nk h5]
  exact i5
/-- the rows of u are none of t's -/
def ApC (σ : CsC) (t u : Nat) : Prop := u ≠ t ∧ ∀ k, k = 300 ∨ k = 301 ∨ k = 302 → ∀ a, fRC σ u k = some a → ∀ k', k' = 300 ∨ k' = 301 ∨ k' = 302 ∨ k' = 303 → ¬ fRC σ t k' = some a
theorem ApC.of {σ τ : CsC} {t u : Nat} (h : ApC σ t u) (e : ∀ b, b = t ∨ b = u → ∀ k, k = 300 ∨ k = 301 ∨ k = 302 ∨ k = 303 → fRC τ b k = fRC σ b k) : ApC τ t u := by
  refine ⟨h.1, fun k hk a ha k' hk' q => h.2 k hk a ?_ k' hk' ?_⟩
  · rw [← e u (Or.inr rfl) k (by rcases hk with z | z | z; exact Or.inl z; exact Or.inr (Or.inl z); exact Or.inr (Or.inr (Or.inl z)))]
    exact ha
  · rw [← e t (Or.inl rfl) k' hk']
    exact q
theorem TnK.cut {σ τ : CsC} {t u m : Nat} {y : TxY} (h : TnK σ u y m) (a : ApC σ t u) (f : FrA σ τ t) : TnK τ u y m := by
  obtain ⟨a0, a1, a2, ⟨f0, f1, f2⟩, i5, hr⟩ := h
  have g : ∀ k, fRC τ u k = fRC σ u k := fun k => f.2.1 u k (fun z => a.1 z.1)
  have e0 := f.2.2 a0 (a.2 300 (Or.inl rfl) a0 f0)
  have e1 := f.2.2 a1 (a.2 301 (Or.inr (Or.inl rfl)) a1 f1)
  have e2 := f.2.2 a2 (a.2 302 (Or.inr (Or.inr rfl)) a2 f2)
  exact ⟨a0, a1, a2, ⟨(g 300).trans f0, (g 301).trans f1, (g 302).trans f2⟩, by rw [f.1 u 305 (fun z => a.1 z.1)]; exact i5, fun j hj => by rw [e0, e1, e2]; exact hr j hj⟩
/-- methods and variables that are told -/
abbrev LzY : Type := List (Int × Int × List Int) × List (Int × Int × Int × Int)
/-- the lists of P -/
def LfT (τ : CsC) (P a b : Nat) : Prop := (fRC τ P 211 = some a ∧ fRC τ P 212 = some b) ∧ ((a < cnC τ ∧ tgC τ a = 0 ∧ ghC τ a = 6) ∧ (b < cnC τ ∧ tgC τ b = 0 ∧ ghC τ b = 11))
/-- a list's row -/
def RwL (τ : CsC) (b n : Nat) : Prop := n = 0 ∨ ∃ r, fRC τ b 1 = some r ∧ r < cnC τ ∧ tgC τ r = 103
theorem RwL.mk {τ : CsC} {b n : Nat} (H : HI0 τ) (h1 : b < cnC τ) (h2 : tgC τ b = 0) (sz : (fIC τ b 2).toInt = n) : RwL τ b n := by
  rcases (H b h1).2.1 h2 with ⟨-, p2⟩ | ⟨r, p1, ⟨p2, p3, -⟩, -⟩
  · exact Or.inl (by omega)
  · exact Or.inr ⟨r, p1, p2, p3⟩
theorem RwL.x {M : List Nat} {σ τ : CsC} {b n : Nat} (h : RwL σ b n) (hb : b < cnC σ) (e : ExC M σ τ) (m1 : M.elem 1 = false) : RwL τ b n := by
  rcases h with q | ⟨r, q1, q2, q3⟩
  · exact Or.inl q
  · exact Or.inr ⟨r, ((e.2.2 b hb).2.2.2 1 m1).2.trans q1, Nat.lt_of_lt_of_le q2 e.1, (e.2.2 r q2).1.1.trans q3⟩
theorem RwL.el {M : List Nat} {σ τ : CsC} {b n j : Nat} (h : RwL σ b n) (hb : b < cnC σ) (e : ExC M σ τ) (m : M.elem 2 = false ∧ M.elem 1 = false) (hj : j < n) : elC τ b j = elC σ b j := by
  rcases h with q | ⟨r, q1, q2, q3⟩
  · omega
  · rw [el_of q1, el_of (((e.2.2 b hb).2.2.2 1 m.2).2.trans q1), (e.2.2 r q2).2.2.1.2 q3 m.1]
theorem RwL.pr {σ : CsC} {b n c k : Nat} {v : Option Nat} (h : RwL σ b n) (h3 : 1 ≠ k) : RwL (pRC σ c k v) b n := by
  rcases h with q | ⟨r, q1, q2⟩
  · exact Or.inl q
  · exact Or.inr ⟨r, (fR_w3 h3).trans q1, q2⟩
/-- how many stand there, the variables, the methods -/
def LsT (τ : CsC) (P a b : Nat) (z : LzY) : Prop := LfT τ P a b ∧ ((fIC τ a 2).toInt = z.1.length ∧ (fIC τ b 2).toInt = z.2.length) ∧ (VlC τ b z.2 ∧ RwL τ b z.2.length) ∧ MlC τ a 0 (cnC τ) z.1 ∧ RwL τ a z.1.length
def PgT (τ : CsC) (P : Nat) : Prop := P < cnC τ ∧ tgC τ P = 7
theorem PgT.x {M : List Nat} {σ τ : CsC} {P : Nat} (h : PgT σ P) (e : ExC M σ τ) : PgT τ P := ⟨Nat.lt_of_lt_of_le h.1 e.1, (e.2.2 P h.1).1.1.trans h.2⟩
theorem LfT.x {M : List Nat} {σ τ : CsC} {P a b : Nat} (h : LfT σ P a b) (p : PgT σ P) (e : ExC M σ τ) : LfT τ P a b := by
  obtain ⟨⟨h1, h2⟩, ⟨⟨h3, h4, h5⟩, ⟨h6, h7, h8⟩⟩⟩ := h
  have f := (e.2.2 P p.1).2.1 (by rw [p.2]; decide)
  have ea := (e.2.2 a h3).1
  have eb := (e.2.2 b h6).1
  exact ⟨⟨(f 211 rfl).2.trans h1, (f 212 rfl).2.trans h2⟩, ⟨⟨Nat.lt_of_lt_of_le h3 e.1, ea.1.trans h4, ea.2.2.trans h5⟩, ⟨Nat.lt_of_lt_of_le h6 e.1, eb.1.trans h7, eb.2.2.trans h8⟩⟩⟩
theorem LsT.cl {M : List Nat} {σ τ : CsC} {P a b : Nat} {z : LzY} (h : LsT σ P a b z) (p : PgT σ P) (e : ExC M σ τ) (m1 : M.elem 1 = false ∧ M.elem 185 = false ∧ M.elem 995 = false) (qa : fIC τ a 2 = fIC σ a 2 ∧ ∀ j : Nat, (j : Int) < (fIC σ a 2).toInt → elC τ a j = elC σ a j) (qb : fIC τ b 2 = fIC σ b 2 ∧ ∀ j : Nat, (j : Int) < (fIC σ b 2).toInt → elC τ b j = elC σ b j) : LsT τ P a b z :=
  ⟨h.1.x p e, ⟨by rw [qa.1]; exact h.2.1.1, by rw [qb.1]; exact h.2.1.2⟩, ⟨VlC.fr (KvC.x e) _ (fun j hj => qb.2 j (by rw [h.2.1.2]; omega)) h.2.2.1.1, h.2.2.1.2.x h.1.2.2.1 e m1.1⟩, MlC.hi e.1 _ (MlC.fr (KmC.x e m1.2) _ (fun j hj => qa.2 j (by rw [h.2.1.1]; omega)) h.2.2.2.1), h.2.2.2.2.x h.1.2.1.1 e m1.1⟩
theorem LsT.x {M : List Nat} {σ τ : CsC} {P a b : Nat} {z : LzY} (h : LsT σ P a b z) (p : PgT σ P) (e : ExC M σ τ) (m : (M.elem 2 = false ∧ M.elem 1 = false) ∧ M.elem 185 = false ∧ M.elem 995 = false) : LsT τ P a b z :=
  h.cl p e ⟨m.1.2, m.2⟩ ⟨((e.2.2 a h.1.2.1.1).2.2.2 2 m.1.1).1, fun j hj => h.2.2.2.2.el h.1.2.1.1 e m.1 (by rw [h.2.1.1] at hj; omega)⟩ ⟨((e.2.2 b h.1.2.2.1).2.2.2 2 m.1.1).1, fun j hj => h.2.2.1.2.el h.1.2.2.1 e m.1 (by rw [h.2.1.2] at hj; omega)⟩
theorem LfT.pr {σ : CsC} {P a b c k : Nat} {v : Option Nat} (h : LfT σ P a b) (h1 : 211 ≠ k) (h2 : 212 ≠ k) : LfT (pRC σ c k v) P a b := ⟨⟨(fR_w3 h1).trans h.1.1, (fR_w3 h2).trans h.1.2⟩, h.2⟩
theorem el_pr {σ : CsC} {b c k j : Nat} {v : Option Nat} (h3 : 1 ≠ k) : elC (pRC σ c k v) b j = elC σ b j := by
  unfold elC
  rw [fR_w3 h3]
  rfl
theorem LsT.pr {σ : CsC} {P a b c k : Nat} {v : Option Nat} {z : LzY} (h : LsT σ P a b z) (h1 : 211 ≠ k) (h2 : 212 ≠ k) (h3 : 1 ≠ k ∧ 183 ≠ k) : LsT (pRC σ c k v) P a b z :=
  ⟨h.1.pr h1 h2, h.2.1, ⟨VlC.fr (σ := σ) (τ := pRC σ c k v) (fun o q1 q2 => ⟨⟨q1, q2⟩, fun _ q => q⟩) _ (fun j _ => el_pr h3.1) h.2.2.1.1, h.2.2.1.2.pr h3.1⟩, MlC.fr (σ := σ) (τ := pRC σ c k v) ⟨Nat.le_refl _, fun o _ q _ _ => ⟨q, fR_w3 h3.2, rfl, rfl, rfl⟩, fun r _ q q' _ _ => ⟨q, q', rfl⟩⟩ _ (fun j _ => el_pr h3.1) h.2.2.2.1, h.2.2.2.2.pr h3.1⟩
theorem LsT.pi {σ : CsC} {P a b c k : Nat} {v : Int32} {z : LzY} (h : LsT σ P a b z) (h2 : (2 ≠ k ∧ 330 ≠ k ∧ 331 ≠ k ∧ 332 ≠ k ∧ 333 ≠ k) ∧ 180 ≠ k ∧ 182 ≠ k ∧ 185 ≠ k) : LsT (pIC σ c k v) P a b z := by
  obtain ⟨h2, h8⟩ := h2
  have e : ∀ x j, j ≠ k → fIC (pIC σ c k v) x j = fIC σ x j := fun x j hj => u2C_nk hj
  refine ⟨h.1, ⟨by rw [e a 2 h2.1]; exact h.2.1.1, by rw [e b 2 h2.1]; exact h.2.1.2⟩, ⟨VlC.fr (σ := σ) (τ := pIC σ c k v) (fun o q1 q2 => ⟨⟨q1, q2⟩, fun w q => ?_⟩) _ (fun j _ => rfl) h.2.2.1.1, h.2.2.1.2⟩, MlC.fr (σ := σ) (τ := pIC σ c k v) ⟨Nat.le_refl _, fun o _ q _ _ => ⟨q, rfl, e o 180 h8.1, e o 182 h8.2.1, e o 185 h8.2.2⟩, fun r _ q q' _ _ => ⟨q, q', rfl⟩⟩ _ (fun j _ => rfl) h.2.2.2.1, h.2.2.2.2⟩
  unfold VoC at *
  rw [e o 330 h2.2.1, e o 331 h2.2.2.1, e o 332 h2.2.2.2.1, e o 333 h2.2.2.2.2]
  exact q
theorem MlC.lo {σ : CsC} {a lo hi : Nat} : ∀ l : List (Int × Int × List Int), MlC σ a lo hi l → MlC σ a 0 hi l := by
  intro l
  induction l with
  | nil => exact fun _ => trivial
  | cons m l ih =>
    rintro ⟨⟨o, r, h1, h2, ⟨h3, h4, h5⟩, h6⟩, h7⟩
    exact ⟨⟨o, r, h1, h2, ⟨Nat.zero_le _, h4, h5⟩, h6⟩, ih h7⟩
/-- lists of another program -/
theorem LsT.na {σ : CsC} {P a b q : Nat} {z : LzY} (h : LsT σ P a b z) (H : HIC σ) (t : TyC σ q 7) (n1 : ¬ fRC σ q 211 = some a) (n2 : ¬ fRC σ q 212 = some b) : ∀ k, k = 211 ∨ k = 212 ∨ k = 213 ∨ k = 214 → ¬ fRC σ q k = some a ∧ ¬ fRC σ q k = some b := by
  obtain ⟨c1, -, e1, -, g1⟩ := cg211 H.1 t
  obtain ⟨c2, -, e2, -, g2⟩ := cg212 H.1 t
  obtain ⟨c3, -, e3, -, g3⟩ := cg213 H.1 t
  obtain ⟨c4, -, e4, -, g4⟩ := cg214 H.1 t
  have ga := h.1.2.1.2.2
  have gb := h.1.2.2.2.2
  intro k hk
  rcases hk with rfl | rfl | rfl | rfl
  · exact ⟨n1, (fun q => by rw [← Option.some.inj (e1.symm.trans q), g1] at gb; cases gb)⟩
  · exact ⟨(fun q => by rw [← Option.some.inj (e2.symm.trans q), g2] at ga; cases ga), n2⟩
  · exact ⟨(fun q => by rw [← Option.some.inj (e3.symm.trans q), g3] at ga; cases ga), (fun q => by rw [← Option.some.inj (e3.symm.trans q), g3] at gb; cases gb)⟩
  · exact ⟨(fun q => by rw [← Option.some.inj (e4.symm.trans q), g4] at ga; cases ga), (fun q => by rw [← Option.some.inj (e4.symm.trans q), g4] at gb; cases gb)⟩
/-- reading goes on, and the sizes of a and b are known -/
def OuL (τ : CsC) (r a b : Nat) (z : LzY) : Prop := ∃ s, ReC τ r s ∧ zL s (1000 + a) = z.1.length ∧ zL s (1000 + b) = z.2.length ∧ zO s b = some z.2 ∧ zP s a = some z.1
theorem OuL.st {σ τ : CsC} {r a b : Nat} {z : LzY} (h : OuL σ r a b z) (q : ∀ s, ReC σ r s → ReC τ r (mthY s)) : OuL τ r a b z := by
  obtain ⟨s, h1, h2, h3, h4, h5⟩ := h
  have e : zL (mthY s) = zL s := by unfold zL; rw [(gn_mth s).1]
  have e' : zO (mthY s) = zO s := by unfold zO; rw [(gn_mth s).1]
  have e5 : zP (mthY s) = zP s := by unfold zP; rw [(gn_mth s).1]
  exact ⟨mthY s, q s h1, by rw [e]; exact h2, by rw [e]; exact h3, by rw [e']; exact h4, by rw [e5]; exact h5⟩
theorem OuL.sz {τ : CsC} {r a b : Nat} {z : LzY} (h : OuL τ r a b z) : ((fIC τ a 2).toInt = z.1.length ∧ (fIC τ b 2).toInt = z.2.length) ∧ VlC τ b z.2 ∧ MlC τ a 0 (cnC τ) z.1 := by
  obtain ⟨s, h1, h2, h3, h4, h5⟩ := h
  exact ⟨⟨(h1.1.2.2.2.1 a (by rw [h2]; omega)).2.trans h2, (h1.1.2.2.2.1 b (by rw [h3]; omega)).2.trans h3⟩, (h1.1.2.2.2.2.2 b z.2 h4).2.2, MlC.hi h1.2.1 _ (h1.2.2.2 a z.1 h5).2.2⟩
theorem OuL.mk {τ : CsC} {r q t P a b : Nat} {z : LzY} (H : HI0 τ) (t8 : TyC τ r 8) (e2 : (fIC τ r 242).toInt = 0) (e3 : (fIC τ r 243).toInt = 0) (hq : fRC τ r 240 = some q) (ht : fRC τ r 241 = some t) (hz : ∀ k, [211, 212, 213, 214].elem k = true → ∀ a, fRC τ q k = some a → (fIC τ a 2).toInt = 0) (hL : LsT τ P a b z) (n : ∀ k, k = 211 ∨ k = 212 → ¬ fRC τ q k = some a ∧ ¬ fRC τ q k = some b) : OuL τ r a b z := by
  obtain ⟨⟨-, ⟨⟨a1, a2, a3⟩, ⟨b1, b2, b3⟩⟩⟩, ⟨sa, sb⟩, ⟨vb, -⟩, ma, -⟩ := hL
  have hab : a ≠ b := fun e => by rw [e, b3] at a3; cases a3
  have hF0 : ∀ x : Nat, 0 ≤ (if x = a then (z.1.length : Int) else if x = b then (z.2.length : Int) else -1) → ((x < cnC τ ∧ tgC τ x = 0 ∧ (ghC τ x = 6 ∨ ghC τ x = 11)) ∧ (¬ fRC τ q 211 = some x ∧ ¬ fRC τ q 212 = some x)) ∧ (fIC τ x 2).toInt = (if x = a then (z.1.length : Int) else if x = b then (z.2.length : Int) else -1) := by
    intro x hx
    have na := n 211 (Or.inl rfl)
    have nb := n 212 (Or.inr rfl)
    rcases Decidable.em (x = a) with c | c
    · rw [if_pos c, c]
      exact ⟨⟨⟨a1, a2, Or.inl a3⟩, na.1, nb.1⟩, sa⟩
    · rcases Decidable.em (x = b) with d | d
      · rw [if_neg c, if_pos d, d]
        exact ⟨⟨⟨b1, b2, Or.inr b3⟩, na.2, nb.2⟩, sb⟩
      · rw [if_neg c, if_neg d] at hx
        exact absurd hx (by decide)
  obtain ⟨s, -, hR, hF, hO, hPm⟩ := ReC.ini3 (fun x => if x = a then (z.1.length : Int) else if x = b then (z.2.length : Int) else -1) (fun x => if x = b then some z.2 else none) (fun x => if x = a then some z.1 else none) (cnC τ) H t8 e2 e3 hq ht hz hF0 (fun x l hx => by
    rcases Decidable.em (x = b) with c | c
    · have hx2 : some z.2 = some l := (if_pos c).symm.trans hx
      cases hx2
      rw [c]
      exact ⟨⟨⟨b1, b2, b3⟩, (n 212 (Or.inr rfl)).2⟩, sb, vb⟩
    · have hx2 : none = some l := (if_neg c).symm.trans hx
      cases hx2) (Nat.le_refl _) (fun x l hx => by
    rcases Decidable.em (x = a) with c | c
    · have hx2 : some z.1 = some l := (if_pos c).symm.trans hx
      cases hx2
      rw [c]
      exact ⟨⟨⟨a1, a2, a3⟩, (n 211 (Or.inl rfl)).1⟩, sa, ma⟩
    · have hx2 : none = some l := (if_neg c).symm.trans hx
      cases hx2)
  exact ⟨s, hR, (hF a).trans (if_pos rfl), (hF b).trans ((if_neg (fun e => hab e.symm)).trans (if_pos rfl)), (congrFun hO b).trans (if_pos rfl), (congrFun hPm a).trans (if_pos rfl)⟩
theorem OuL.ls {τ : CsC} {r P a b : Nat} {z : LzY} (h : OuL τ r a b z) (H : HI0 τ) (f : LfT τ P a b) : LsT τ P a b z := ⟨f, h.sz.1, ⟨h.sz.2.1, RwL.mk H f.2.2.1 f.2.2.2.1 h.sz.1.2⟩, h.sz.2.2, RwL.mk H f.2.1.1 f.2.1.2.1 h.sz.1.1⟩
theorem ty_p2 {σ τ : CsC} {r c a1 k1 a2 k2 : Nat} {v1 v2 : Option Nat} {M : List Nat} (t : TyC σ r c) (hc : c ≠ 2) (e : ExC M (pRC (pRC σ a1 k1 v1) a2 k2 v2) τ) : TyC τ r c := TyC.x (σ := pRC (pRC σ a1 k1 v1) a2 k2 v2) ⟨t.1, t.2.1, fun q => absurd q hc⟩ e
theorem hi_p2 {σ : CsC} {r : Nat} (h : HIC σ) (t : TyC σ r 8) : HI0 (pIC (pIC σ r 242 (Int32.ofInt 0)) r 243 (Int32.ofInt 0)) := HI0.pI (σ := pIC σ r 242 (Int32.ofInt 0)) (c := 8) (HI0.pI (c := 8) h.1 t (by decide) (by decide) (by unfold IvC; decide)) t (by decide) (by decide) (by unfold IvC; decide)
theorem sz_0 {σ τ : CsC} {q : Nat} {M : List Nat} (H : HIC σ) (t : TyC σ q 7) (e : ExC M σ τ) (m : M.elem 2 = false) (h : ∀ k, [211, 212, 213, 214].elem k = true → ∀ a, fRC σ q k = some a → (fIC σ a 2).toInt ≤ 0) : ∀ k, [211, 212, 213, 214].elem k = true → ∀ a, fRC τ q k = some a → (fIC τ a 2).toInt = 0 := by
  intro k hk a ha
  have hf : finC k = true := by
    have c : k = 211 ∨ k = 212 ∨ k = 213 ∨ k = 214 := by simpa using hk
    rcases c with rfl | rfl | rfl | rfl <;> rfl
  rw [t.fr e (by decide) hf] at ha
  have ta : TyC σ a 0 := lstC H.1 t hk ha
  obtain ⟨x, -, cx, x0, -⟩ := cg2 H.1 ta
  have h1 := h k hk a ha
  rw [ta.mi e m]
  rw [cx] at h1 ⊢
  omega
theorem z242 {σ : CsC} {r : Nat} {v v' : Int32} : fIC (pIC (pIC σ r 242 v) r 243 v') r 242 = v := by
  show u2C (u2C (fIC σ) r 242 v) r 243 v' r 242 = v
  rw [u2C_nk (by decide), u2C_eq]
theorem z243 {σ : CsC} {r : Nat} {v v' : Int32} : fIC (pIC (pIC σ r 242 v) r 243 v') r 243 = v' := by
  show u2C (u2C (fIC σ) r 242 v) r 243 v' r 243 = v'
  rw [u2C_eq]
theorem u2_i {σ : CsC} {r k k' : Nat} {v v' : Int32} (a : Nat) {j : Nat} (h : j ≠ k) (h' : j ≠ k') : fIC (pIC (pIC σ r k v) r k' v') a j = fIC σ a j := by
  show u2C (u2C (fIC σ) r k v) r k' v' a j = _
  rw [u2C_nk h', u2C_nk h]
abbrev Pp_readProgram (w : TxY × Nat × TxY × Nat × Nat × LzY) : CpC := fun As σ => match As with
  | [.inr (.inr (some p0)), .inr (.inr (some p1)), .inr (.inr (some p2)), .inl p3] => (cnC σ < 1000000 ∧ w.1.2 = p3.toInt ∧ (∀ j : Nat, (j : Int) < w.1.2 → (eIC σ p2 j &&& 255).toInt = w.1.1 j) ∧ okY w.1) ∧ (∀ t, fRC σ p1 210 = some t → WdC σ t ∧ ApC σ t w.2.1 ∧ RwU σ w.2.1 ∧ TnK σ w.2.1 w.2.2.1 w.2.2.2.1) ∧ PgT σ w.2.2.2.2.1 ∧ ∃ a b, LsT σ w.2.2.2.2.1 a b w.2.2.2.2.2 ∧ ¬ fRC σ p1 211 = some a ∧ ¬ fRC σ p1 212 = some b
  | _ => False
abbrev Qp_readProgram (w : TxY × Nat × TxY × Nat × Nat × LzY) : CqC := fun As σ w_ τ => match As with
  | [.inr (.inr (some p0)), .inr (.inr (some p1)), .inr (.inr (some p2)), .inl p3] => (∃ t n, fRC τ p0 241 = some t ∧ fRC σ p1 210 = some t ∧ CuC τ t p2 w.1 n) ∧ TnK τ w.2.1 w.2.2.1 w.2.2.2.1 ∧ ∃ a b, LsT τ w.2.2.2.2.1 a b w.2.2.2.2.2
  | _ => True
theorem p_readProgram (w : TxY × Nat × TxY × Nat × Nat × LzY) : PbC KX7_readProgram [(117, P_X6_clear, Q_X6_clear), (188, P_X9_cutText, Q_X9_cutText), (125, P_X7_code, Q_X7_code), (134, P_X7_readMethod, Q_X7_readMethod)] [(188, U_cutText), (117, U_clear)] (fun As σ => P_X7_readProgram As σ ∧ Pp_readProgram w As σ) (Qp_readProgram w) := by
  obtain ⟨x, u, y, m0, Pk, z⟩ := w
  rintro As σ ⟨⟨p0, p1, p2, p3, rfl, H0, h8, h7, hb1, hb2, hp0, hp1, -⟩, hx⟩ K hB hW n
  replace hx : (cnC σ < 1000000 ∧ x.2 = p3.toInt ∧ (∀ j : Nat, (j : Int) < x.2 → (eIC σ p2 j &&& 255).toInt = x.1 j) ∧ okY x) ∧ (∀ t, fRC σ p1 210 = some t → WdC σ t ∧ ApC σ t u ∧ RwU σ u ∧ TnK σ u y m0) ∧ PgT σ Pk ∧ ∃ a b, LsT σ Pk a b z ∧ ¬ fRC σ p1 211 = some a ∧ ¬ fRC σ p1 212 = some b := hx
  obtain ⟨⟨hcn, hx2, hxb, hok⟩, hwd, hPk, la, lb, hLs, hn1, hn2⟩ := hx
  have hna := hLs.na H0 h7 hn1 hn2
  have z0 := z0I
  obtain ⟨t, -, et, tt⟩ := cg210 H0.1 h7
  obtain ⟨a0, -, ea0, ta0, -, ga0⟩ := cg300 H0.1 tt
  obtain ⟨a1, -, ea1, ta1, -, ga1⟩ := cg301 H0.1 tt
  obtain ⟨a2, -, ea2, ta2, -, ga2⟩ := cg302 H0.1 tt
  obtain ⟨a6, -, ea6, ta6, -, ga6⟩ := cg306 H0.1 tt
  have hT0 : RwT σ t p2 := ⟨⟨tt.1, hb1.1, hb1.2.1⟩, fun a q => by
    obtain rfl : a0 = a := Option.some.inj (ea0.symm.trans q)
    exact ⟨ta0.1, ta0.2.1, by omega, by omega⟩, fun a q => by
    obtain rfl : a1 = a := Option.some.inj (ea1.symm.trans q)
    exact ⟨ta1.1, ta1.2.1, by omega, by omega⟩, fun a q => by
    obtain rfl : a2 = a := Option.some.inj (ea2.symm.trans q)
    exact ⟨ta2.1, ta2.2.1, by omega, by omega⟩⟩
  have hW0 : W6I σ t a6 := ⟨ea6, ⟨ta6.1, ta6.2.1, ga6⟩, fun k hk => (hwd t et).1 a6 ea6 k hk⟩
  obtain ⟨-, hAp, hRu, hTu⟩ := hwd t et
  change K n 0 [(0, .inr (.inr (some p0))), (1, .inr (.inr (some p1))), (2, .inr (.inr (some p2))), (3, .inl p3)] [] σ
  have L42 : ∀ (n : Nat) (τ : CsC) (m : Nat) (i : Int32), HI0 τ → OuL τ p0 la lb z → PgT τ Pk → LfT τ Pk la lb → RwU τ u → TnK τ u y m0 → CuC τ t p2 x m → RwT τ t p2 → fRC τ p0 241 = some t → p0 < cnC τ → 0 ≤ i.toInt → K n 42 [(0, .inr (.inr (some p0))), (4, .inl i)] [] τ := by
    intro n
    induction n using Nat.strongRecOn with
    | _ n ih =>
      intro τ m i hH0 hOu hPg hLv hRv hTv hC hR hf hl hi0
      refine hB _ _ _ _ _ (fun m101 hm101 => ?_)
      dsimp only [ucgo, ucwp, ucsC, uqC, uoC, ctC, rfd, KX7_readProgram, KX7_readProgram_0, KX7_readProgram_42, KX7_readProgram_49, KX7_readProgram_56, KX7_readProgram_65, KX7_readProgram_75, lkC, s1C, s2C, dlC, kyC, Nat.beq, rcd, rno, Nat.reduceAdd, Nat.reduceBEq, Nat.reduceDiv, List.drop, List.take, List.reverse, List.reverseAux, Int.toNat, Option.toList, List.append, List.cons_append, List.nil_append, fI_qI, fR_qI, fL_qI, fI_qL, fR_qL, fL_qL, ug210, ug240, ug241, ug243]
      have c102 : (Int32.ofInt 10).toInt = 10 := by decide
      refine ⟨fun h103 => ?_, fun h103 => ?_⟩
      · have g103 := ltI (x := (Int32.ofInt 10)) (y := i) h103
        refine hB _ _ _ _ _ (fun m104 hm104 => ?_)
        dsimp only [ucgo, ucwp, ucsC, uqC, uoC, ctC, rfd, KX7_readProgram, KX7_readProgram_0, KX7_readProgram_42, KX7_readProgram_49, KX7_readProgram_56, KX7_readProgram_65, KX7_readProgram_75, lkC, s1C, s2C, dlC, kyC, Nat.beq, rcd, rno, Nat.reduceAdd, Nat.reduceBEq, Nat.reduceDiv, List.drop, List.take, List.reverse, List.reverseAux, Int.toNat, Option.toList, List.append, List.cons_append, List.nil_append, fI_qI, fR_qI, fL_qI, fI_qL, fR_qL, fL_qL, ug210, ug240, ug241, ug243]
        intro a105 e105 ob105
        cases e105
        show (∃ t n, fRC τ p0 241 = some t ∧ fRC σ p1 210 = some t ∧ CuC τ t p2 x n) ∧ TnK τ u y m0 ∧ ∃ a b, LsT τ Pk a b z
        exact ⟨⟨t, m, hf, et, hC⟩, hTv, la, lb, hOu.ls hH0 hLv⟩
      · have g103 := nltI (x := (Int32.ofInt 10)) (y := i) h103
        refine hB _ _ _ _ _ (fun m106 hm106 => ?_)
        dsimp only [ucgo, ucwp, ucsC, uqC, uoC, ctC, rfd, KX7_readProgram, KX7_readProgram_0, KX7_readProgram_42, KX7_readProgram_49, KX7_readProgram_56, KX7_readProgram_65, KX7_readProgram_75, lkC, s1C, s2C, dlC, kyC, Nat.beq, rcd, rno, Nat.reduceAdd, Nat.reduceBEq, Nat.reduceDiv, List.drop, List.take, List.reverse, List.reverseAux, Int.toNat, Option.toList, List.append, List.cons_append, List.nil_append, fI_qI, fR_qI, fL_qI, fI_qL, fR_qL, fL_qL, ug210, ug240, ug241, ug243]
        intro a107 e107 ob107
        cases e107
        refine ⟨fun h108 => ?_, fun h108 => ?_⟩
        · have g108 := (neI (x := (fIC τ p0 243)) (y := 0) h108 : ¬ ((fIC τ p0 243) : Int32).toInt = (0 : Int32).toInt)
          refine hB _ _ _ _ _ (fun m109 hm109 => ?_)
          dsimp only [ucgo, ucwp, ucsC, uqC, uoC, ctC, rfd, KX7_readProgram, KX7_readProgram_0, KX7_readProgram_42, KX7_readProgram_49, KX7_readProgram_56, KX7_readProgram_65, KX7_readProgram_75, lkC, s1C, s2C, dlC, kyC, Nat.beq, rcd, rno, Nat.reduceAdd, Nat.reduceBEq, Nat.reduceDiv, List.drop, List.take, List.reverse, List.reverseAux, Int.toNat, Option.toList, List.append, List.cons_append, List.nil_append, fI_qI, fR_qI, fL_qI, fI_qL, fR_qL, fL_qL, ug210, ug240, ug241, ug243]
          intro a110 e110 ob110
          cases e110
          show (∃ t n, fRC τ p0 241 = some t ∧ fRC σ p1 210 = some t ∧ CuC τ t p2 x n) ∧ TnK τ u y m0 ∧ ∃ a b, LsT τ Pk a b z
          exact ⟨⟨t, m, hf, et, hC⟩, hTv, la, lb, hOu.ls hH0 hLv⟩
        · have g108 := (eqI (x := (fIC τ p0 243)) (y := 0) h108 : ((fIC τ p0 243) : Int32).toInt = (0 : Int32).toInt)
          refine hB _ _ _ _ _ (fun m111 hm111 => ?_)
          dsimp only [ucgo, ucwp, ucsC, uqC, uoC, ctC, rfd, KX7_readProgram, KX7_readProgram_0, KX7_readProgram_42, KX7_readProgram_49, KX7_readProgram_56, KX7_readProgram_65, KX7_readProgram_75, lkC, s1C, s2C, dlC, kyC, Nat.beq, rcd, rno, Nat.reduceAdd, Nat.reduceBEq, Nat.reduceDiv, List.drop, List.take, List.reverse, List.reverseAux, Int.toNat, Option.toList, List.append, List.cons_append, List.nil_append, fI_qI, fR_qI, fL_qI, fI_qL, fR_qL, fL_qL, ug210, ug240, ug241, ug243]
          intro w112 τ112 o112 q112
          obtain ⟨r112, rfl, rfl, -⟩ := o112
          dsimp only [Option.toList, List.cons_append, List.nil_append, s1C, s2C, dlC, kyC, Nat.beq, lkC, rcd, rno]
          have c113 : (Int32.ofInt 84).toInt = 84 := by decide
          refine ⟨fun h114 => ?_, fun h114 => ?_⟩
          · have g114 := (eqI (x := r112) (y := (Int32.ofInt 84)) h114 : (r112 : Int32).toInt = ((Int32.ofInt 84) : Int32).toInt)
            refine hB _ _ _ _ _ (fun m115 hm115 => ?_)
            dsimp only [ucgo, ucwp, ucsC, uqC, uoC, ctC, rfd, KX7_readProgram, KX7_readProgram_0, KX7_readProgram_42, KX7_readProgram_49, KX7_readProgram_56, KX7_readProgram_65, KX7_readProgram_75, lkC, s1C, s2C, dlC, kyC, Nat.beq, rcd, rno, Nat.reduceAdd, Nat.reduceBEq, Nat.reduceDiv, List.drop, List.take, List.reverse, List.reverseAux, Int.toNat, Option.toList, List.append, List.cons_append, List.nil_append, fI_qI, fR_qI, fL_qI, fI_qL, fR_qL, fL_qL, ug210, ug240, ug241, ug243]
            intro a116 e116 ob116
            cases e116
            show (∃ t n, fRC τ p0 241 = some t ∧ fRC σ p1 210 = some t ∧ CuC τ t p2 x n) ∧ TnK τ u y m0 ∧ ∃ a b, LsT τ Pk a b z
            exact ⟨⟨t, m, hf, et, hC⟩, hTv, la, lb, hOu.ls hH0 hLv⟩
          · have g114 := (neI (x := r112) (y := (Int32.ofInt 84)) h114 : ¬ (r112 : Int32).toInt = ((Int32.ofInt 84) : Int32).toInt)
            refine hB _ _ _ _ _ (fun m117 hm117 => ?_)
            dsimp only [ucgo, ucwp, ucsC, uqC, uoC, ctC, rfd, KX7_readProgram, KX7_readProgram_0, KX7_readProgram_42, KX7_readProgram_49, KX7_readProgram_56, KX7_readProgram_65, KX7_readProgram_75, lkC, s1C, s2C, dlC, kyC, Nat.beq, rcd, rno, Nat.reduceAdd, Nat.reduceBEq, Nat.reduceDiv, List.drop, List.take, List.reverse, List.reverseAux, Int.toNat, Option.toList, List.append, List.cons_append, List.nil_append, fI_qI, fR_qI, fL_qI, fI_qL, fR_qL, fL_qL, ug210, ug240, ug241, ug243]
            intro w118 τ118 o118 q118
            obtain ⟨rfl, HI118, ex118, -, rc118⟩ := o118
            dsimp only [Option.toList, List.cons_append, List.nil_append, s1C, s2C, dlC, kyC, Nat.beq, lkC, rcd, rno]
            have c119 : (Int32.ofInt 1).toInt = 1 := by decide
            have a120 : (i + (Int32.ofInt 1)).toInt = i.toInt + 1 := addC (by omega) (by omega) (by omega)
            exact hW _ _ _ _ _ _ (List.forall_mem_cons.2 ⟨List.Mem.tail _ (List.Mem.head _), List.forall_mem_cons.2 ⟨List.Mem.head _, fun _ h => absurd h List.not_mem_nil⟩⟩) (ih _ (by omega) _ m (i + (Int32.ofInt 1)) HI118.1 (hOu.st rc118) (hPg.x ex118) (hLv.x hPg ex118) (hRv.x ex118 (by decide)) (hTv.x hRv ex118 (by decide)) (hC.x hR ex118 (by decide)) (hR.x ex118 (by decide)) (((ex118.2.2 p0 hl).2.2.2 241 (by decide)).2.trans hf) (Nat.lt_of_lt_of_le hl ex118.1) (by omega))
  refine hB _ _ _ _ _ (fun m301 hm301 => ?_)
  dsimp only [ucgo, ucwp, ucsC, uqC, uoC, ctC, rfd, KX7_readProgram, KX7_readProgram_0, KX7_readProgram_42, KX7_readProgram_49, KX7_readProgram_56, KX7_readProgram_65, KX7_readProgram_75, lkC, s1C, s2C, dlC, kyC, Nat.beq, rcd, rno, Nat.reduceAdd, Nat.reduceBEq, Nat.reduceDiv, List.drop, List.take, List.reverse, List.reverseAux, Int.toNat, Option.toList, List.append, List.cons_append, List.nil_append, fI_qI, fR_qI, fL_qI, fI_qL, fR_qL, fL_qL, ug210, ug240, ug241, ug243]
  intro a302 e302 ob302 fk302
  cases e302
  intro a303 e303 ob303
  cases e303
  intro a304 e304 ob304 fk304
  cases e304
  intro a305 e305 ob305
  cases e305
  split
  case h_2 => trivial
  rename_i b306 rs306 hq306
  obtain ⟨hq1_306, hq2_306⟩ := List.cons.inj hq306
  subst hq2_306
  have rc306 := Sum.inr.inj (Sum.inr.inj hq1_306)
  intro w306 τ306 o306 q306
  obtain rfl : p1 = b306 := Option.some.inj (((fR_w3 (k := 241) (j := 240) (by decide)).trans fR_w1).symm.trans rc306)
  obtain ⟨rfl, HI306, ex306, hsz306⟩ := o306
  have hLs1 : LsT τ306 Pk la lb z := LsT.cl (σ := pRC (pRC σ p0 240 (some p1)) p0 241 _) ((hLs.pr (k := 240) (by decide) (by decide) (by decide)).pr (k := 241) (by decide) (by decide) (by decide)) hPk ex306 (by decide) ⟨(q306 () trivial la (fun k hk q => (hna k hk).1 (((fR_w3 (k := 241) (by rcases hk with z | z | z | z <;> omega)).trans (fR_w3 (k := 240) (by rcases hk with z | z | z | z <;> omega))).symm.trans q))).1, (q306 () trivial la (fun k hk q => (hna k hk).1 (((fR_w3 (k := 241) (by rcases hk with z | z | z | z <;> omega)).trans (fR_w3 (k := 240) (by rcases hk with z | z | z | z <;> omega))).symm.trans q))).2 hLs.1.2.1.1 hLs.1.2.1.2.1⟩ ⟨(q306 () trivial lb (fun k hk q => (hna k hk).2 (((fR_w3 (k := 241) (by rcases hk with z | z | z | z <;> omega)).trans (fR_w3 (k := 240) (by rcases hk with z | z | z | z <;> omega))).symm.trans q))).1, (q306 () trivial lb (fun k hk q => (hna k hk).2 (((fR_w3 (k := 241) (by rcases hk with z | z | z | z <;> omega)).trans (fR_w3 (k := 240) (by rcases hk with z | z | z | z <;> omega))).symm.trans q))).2 hLs.1.2.2.1 hLs.1.2.2.2.1⟩
  have hPk1 : PgT τ306 Pk := PgT.x (σ := pRC (pRC σ p0 240 (some p1)) p0 241 _) hPk ex306
  have t7_1 := ty_p2 h7 (by decide) ex306
  have t8_1 := ty_p2 h8 (by decide) ex306
  have f0 : fRC τ306 p0 240 = some p1 := ((ex306.2.2 p0 h8.1).2.2.2 240 (by decide)).2.trans ((fR_w3 (k := 241) (j := 240) (by decide)).trans fR_w1)
  have hn3 : ∀ k, k = 211 ∨ k = 212 → ¬ fRC τ306 p1 k = some la ∧ ¬ fRC τ306 p1 k = some lb := fun k hk => by
    have e : fRC τ306 p1 k = fRC σ p1 k := ((ex306.2.2 p1 h7.1).2.2.2 k (by rcases hk with z | z <;> (rw [z]; rfl))).2.trans ((fR_w3 (k := 241) (by omega)).trans (fR_w3 (k := 240) (by omega)))
    rw [e]
    exact hna k (by omega)
  have f1 : fRC τ306 p0 241 = some t := ((ex306.2.2 p0 h8.1).2.2.2 241 (by decide)).2.trans (fR_w1.trans ((fR_w3 (k := 240) (j := 210) (by decide)).trans et))
  have hT1 : RwT τ306 t p2 := RwT.x ((hT0.pr (k := 240) (by decide) (by decide) (by decide)).pr (k := 241) (by decide) (by decide) (by decide)) ex306 (by decide)
  have hW1 : W6I τ306 t a6 := W6I.x (⟨(fR_w3 (k := 241) (j := 306) (by decide)).trans ((fR_w3 (k := 240) (j := 306) (by decide)).trans hW0.1), hW0.2.1, hW0.2.2⟩) ex306 (by decide) ((ex306.2.2 t tt.1).2.2.2 306 (by decide)).2
  have hRu1 := ((hRu.pr (k := 240) (by decide) (by decide) (by decide)).pr (k := 241) (by decide) (by decide) (by decide)).x ex306 (by decide)
  have hTu1 := ((hTu.pr (k := 240) (by decide) (by decide) (by decide)).pr (k := 241) (by decide) (by decide) (by decide)).x ((hRu.pr (k := 240) (by decide) (by decide) (by decide)).pr (k := 241) (by decide) (by decide) (by decide)) ex306 (by decide)
  have hAp1 : ApC τ306 t u := hAp.of (fun b hb k hk => ((ex306.2.2 b (by rcases hb with z | z; (rw [z]; exact tt.1); (rw [z]; exact hRu.1))).2.2.2 k (by rcases hk with z | z | z | z <;> (rw [z]; rfl))).2.trans ((fR_w3 (by omega)).trans (fR_w3 (by omega))))
  have eb1 := (ex306.2.1.2.2 p2 hb1.1 (by show prC _ (tgC σ p2) (ghC σ p2) = true; rw [hb1.2.1]; exact prC.b (by decide))).1
  have cn1 : cnC τ306 = cnC σ := ex306.cn (by decide)
  dsimp only [Option.toList, List.cons_append, List.nil_append, s1C, s2C, dlC, kyC, Nat.beq, lkC, rcd, rno]
  intro a307 e307 ob307
  cases e307
  split
  case h_2 => trivial
  rename_i b308 rs308 hq308
  obtain ⟨hq1_308, hq2_308⟩ := List.cons.inj hq308
  subst hq2_308
  have rc308 := Sum.inr.inj (Sum.inr.inj hq1_308)
  intro w308 τ308 o308 q308
  obtain rfl : t = b308 := Option.some.inj (f1.symm.trans rc308)
  obtain ⟨⟨m, hC⟩, hFa⟩ := q308 x ⟨⟨by rw [cn1]; exact hcn, hx2, fun j hj => by rw [eb1]; exact hxb j hj, hok⟩, hW1.w⟩
  obtain ⟨rfl, HI308, ex308, -⟩ := o308
  have hLs2 := ((hLs1.x hPk1 ex308 (by decide)).pi (c := p0) (k := 242) (v := Int32.ofInt 0) (by decide)).pi (c := p0) (k := 243) (v := Int32.ofInt 0) (by decide)
  have hPk2 := hPk1.x ex308
  have t8_2 : TyC τ308 p0 8 := t8_1.x ex308
  have t8_3 : TyC (pIC (pIC τ308 p0 242 (Int32.ofInt 0)) p0 243 (Int32.ofInt 0)) p0 8 := ⟨t8_2.1, t8_2.2.1, fun q => by cases q⟩
  have hHI2 := hi_p2 HI308 t8_2
  have hOu2 : OuL (pIC (pIC τ308 p0 242 (Int32.ofInt 0)) p0 243 (Int32.ofInt 0)) p0 la lb z := OuL.mk (hi_p2 HI308 t8_2) t8_3 (by rw [z242]; decide) (by rw [z243]; decide) ((t8_1.mr ex308 (by decide)).trans f0) ((t8_1.mr ex308 (by decide)).trans f1) (fun k hk a ha => by
    rw [u2_i a (by decide) (by decide)]
    exact sz_0 HI306 t7_1 ex308 (by decide) hsz306 k hk a ha) hLs2 (fun k hk => by
    have e : fRC τ308 p1 k = fRC τ306 p1 k := t7_1.mr ex308 (by rcases hk with z | z <;> (rw [z]; rfl))
    show ¬ fRC τ308 p1 k = some la ∧ ¬ fRC τ308 p1 k = some lb
    rw [e]
    exact hn3 k hk)
  have hl1 : p0 < cnC τ306 := by rw [cn1]; exact h8.1
  have hT2 := hT1.x ex308 (by decide)
  have f2 := ((ex308.2.2 p0 hl1).2.2.2 241 (by decide)).2.trans f1
  have hl2 := Nat.lt_of_lt_of_le hl1 ex308.1
  have hRu2 := hRu1.x ex308 (by decide)
  have hTu2 := hTu1.cut hAp1 hFa
  dsimp only [Option.toList, List.cons_append, List.nil_append, s1C, s2C, dlC, kyC, Nat.beq, lkC, rcd, rno]
  have c309 : (Int32.ofInt 0).toInt = 0 := by decide
  intro a310 e310 ob310 fk310
  cases e310
  have c311 : (Int32.ofInt 0).toInt = 0 := by decide
  intro a312 e312 ob312 fk312
  cases e312
  have c313 : (Int32.ofInt 0).toInt = 0 := by decide
  exact hW _ _ _ _ _ _ (List.forall_mem_cons.2 ⟨List.Mem.tail _ (List.Mem.head _), List.forall_mem_cons.2 ⟨List.Mem.head _, fun _ h => absurd h List.not_mem_nil⟩⟩) (L42 _ _ m (Int32.ofInt 0) hHI2 hOu2 hPk2 hLs2.1 hRu2 ((hTu2.pi (by decide)).pi (by decide)) ((hC.pi (by decide) (by decide)).pi (by decide) (by decide)) hT2 f2 hl2 (by decide))
abbrev U_readProgram : CqC := fun As σ w τ => ∀ x, Pp_readProgram x As σ → Qp_readProgram x As σ w τ
theorem n_readProgram (l : Launch) : CMetC l 313 123 P_X7_readProgram (fun As σ w τ => Q_X7_readProgram As σ w τ ∧ U_readProgram As σ w τ) := CMetC.of KX7_readProgram (uc2C [(117, P_X6_clear, Q_X6_clear), (188, P_X9_cutText, Q_X9_cutText), (125, P_X7_code, Q_X7_code), (134, P_X7_readMethod, Q_X7_readMethod)] [(188, U_cutText), (117, U_clear)]) hX7_readProgram (by decide) (by decide) okX7_readProgram (cc1C (n_clear l) (by decide) (cc1C (n_cutText l) (by decide) (cc1C (m_X7_code l) (by decide) (cc1C (m_X7_readMethod l) (by decide) cc0C)))) lg_X7_readProgram (b_X7_readProgram.and p_readProgram)

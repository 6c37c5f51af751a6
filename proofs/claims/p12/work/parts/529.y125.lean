/-! read: what is read, where it stands -/
/-- the programs stay as they are -/
def SmC (σ τ : CsC) : Prop := (∀ a k, k < 360 → fIC τ a k = fIC σ a k ∧ fLC τ a k = fLC σ a k ∧ fRC τ a k = fRC σ a k) ∧ (eIC τ = eIC σ ∧ eLC τ = eLC σ ∧ eRC τ = eRC σ) ∧ cnC τ = cnC σ ∧ tgC τ = tgC σ ∧ ghC τ = ghC σ
theorem SmC.rf {σ : CsC} : SmC σ σ := ⟨fun _ _ _ => ⟨rfl, rfl, rfl⟩, ⟨rfl, rfl, rfl⟩, rfl, rfl, rfl⟩
theorem SmC.tr {σ τ υ : CsC} (h : SmC σ τ) (g : SmC τ υ) : SmC σ υ := ⟨fun a k hk => ⟨(g.1 a k hk).1.trans (h.1 a k hk).1, (g.1 a k hk).2.1.trans (h.1 a k hk).2.1, (g.1 a k hk).2.2.trans (h.1 a k hk).2.2⟩, ⟨g.2.1.1.trans h.2.1.1, g.2.1.2.1.trans h.2.1.2.1, g.2.1.2.2.trans h.2.1.2.2⟩, g.2.2.1.trans h.2.2.1, g.2.2.2.1.trans h.2.2.2.1, g.2.2.2.2.trans h.2.2.2.2⟩
theorem SmC.pI {σ : CsC} {a k : Nat} {v : Int32} (hk : 360 ≤ k) : SmC σ (pIC σ a k v) := ⟨fun b j hj => ⟨fI_pI (Or.inl (by omega)), rfl, rfl⟩, ⟨rfl, rfl, rfl⟩, rfl, rfl, rfl⟩
theorem SmC.pR {σ : CsC} {a k : Nat} {v : Option Nat} (hk : 360 ≤ k) : SmC σ (pRC σ a k v) := ⟨fun b j hj => ⟨rfl, rfl, fR_pR (Or.inl (by omega))⟩, ⟨rfl, rfl, rfl⟩, rfl, rfl, rfl⟩
section
variable {N : Int → Int} {E E' A B V J F : Nat → Nat} {σ τ : CsC} {z : ZS} {a lo hi o : Nat} {l : List (Int × Int × List Int)}
theorem ZD.sm (h : ZD N E A B V σ z) (m : SmC σ τ) : ZD N E A B V τ z := by
  obtain ⟨f, ⟨e1, e2, e3⟩, c, -⟩ := m
  obtain ⟨h1, _, ⟨h3, h3'⟩, ⟨l1, l2, l3, l4⟩, ⟨h5, h5'⟩, ⟨h6, h6'⟩, h7, h8⟩ := h
  have li : ∀ {a n : Nat} {F : Nat → Nat}, LiC σ a n F → LiC τ a n F := fun {a n F} q => q.cg (f a 1 (by decide)).2.2 e3 (f a 2 (by decide)).1 (Nat.le_of_eq c.symm)
  exact ⟨h1.cg (fun a k _ hk => (f a k (by omega)).2.2) (Nat.le_of_eq c.symm), trivial, ⟨by rw [e1]; exact h3, by rw [e2]; exact h3'⟩, ⟨li l1, li l2, li l3, li l4⟩, ⟨fun i hi => ⟨(h5 i hi).1.cg (fun k hk => f _ k (by omega)), (h5 i hi).2⟩, fun i hi => ⟨(h5' i hi).1, ChC.cg (fun a _ => (f _ 75 (by decide)).2.2) (h5' i hi).2⟩⟩, ⟨fun j hj => ⟨(h6 j hj).1.cg (fun k hk => f _ k (by omega)), (h6 j hj).2⟩, h6'⟩, fun v hv => (h7 v hv).cg (fun k hk => (f _ k (by omega)).1), h8⟩
theorem MhC.sm (h : MhC N E B J F σ z) (m : SmC σ τ) : MhC N E B J F τ z := fun k hk => by
  obtain ⟨h1, h2, h3, h4⟩ := h k hk
  refine ⟨?_, ?_, ?_, h4⟩
  · rw [(m.1 _ 181 (by decide)).2.1]; exact h1
  · rw [(m.1 _ 184 (by decide)).1]; exact h2
  · rw [(m.1 _ 186 (by decide)).2.2]; exact h3
theorem MlC.sm (m : SmC σ τ) (h : MlC σ a lo hi l) : MlC τ a lo hi l := by
  obtain ⟨f, ⟨e1, e2, e3⟩, c, tg, gh⟩ := m
  refine MlC.fr ⟨Nat.le_of_eq c.symm, fun o _ ht _ _ => ⟨by rw [tg]; exact ht, (f o 183 (by decide)).2.2, (f o 180 (by decide)).1, (f o 182 (by decide)).1, (f o 185 (by decide)).1⟩, fun r _ ht hg _ _ => ⟨by rw [tg]; exact ht, by rw [gh]; exact hg, by rw [e1]⟩⟩ _ (fun j _ => ?_) h
  unfold elC
  rw [(f a 1 (by decide)).2.2, e3]
theorem TyC.sm {c : Nat} (h : TyC σ a c) (hc : c ≠ 2) (m : SmC σ τ) : TyC τ a c := ⟨by rw [m.2.2.1]; exact h.1, by rw [m.2.2.2.1]; exact h.2.1, fun q => absurd q hc⟩
/-- out, in of a program -/
def OiP (σ : CsC) (P : Nat) : Prop := ∃ o i, (fRC σ P 215 = some o ∧ fRC σ P 216 = some i) ∧ (MkC σ (koY, 5, [4]) o ∧ MkC σ (kiY, 3, []) i) ∧ TyC σ o 6 ∧ TyC σ i 6
/-- what programs' out, in need that stays -/
def OiF (σ τ : CsC) : Prop := (cnC σ ≤ cnC τ ∧ ∀ a, a < cnC σ → tgC τ a = tgC σ a) ∧ (∀ a, a < cnC σ → tgC σ a < 8 → fLC τ a 181 = fLC σ a 181 ∧ fIC τ a 182 = fIC σ a 182 ∧ fIC τ a 185 = fIC σ a 185 ∧ fRC τ a 183 = fRC σ a 183 ∧ fRC τ a 215 = fRC σ a 215 ∧ fRC τ a 216 = fRC σ a 216) ∧ ∀ a, a < cnC σ → tgC σ a = 100 → ghC σ a = 7 → eIC τ a = eIC σ a
theorem MkC.of {m : MtT} (H : HI0 σ) (t : TyC σ o 6) (h : MkC σ m o) (f : OiF σ τ) : MkC τ m o := by
  obtain ⟨h1, h2, h3, r, ⟨h4, h5, h6⟩, h7⟩ := h
  have q := f.2.1 o t.1 (by rw [t.2.1]; decide)
  obtain ⟨b, _, e1, e2, _, e3⟩ := cg183 H t
  obtain rfl : r = b := Option.some.inj (h4.symm.trans e1)
  have e := f.2.2 r e2.1 e2.2.1 e3
  exact ⟨by rw [q.1]; exact h1, by rw [q.2.1]; exact h2, by rw [q.2.2.1]; exact h3, r, ⟨q.2.2.2.1.trans h4, Nat.lt_of_lt_of_le h5 f.1.1, h6⟩, fun i hi => by rw [e]; exact h7 i hi⟩
theorem TyC.oi (t : TyC σ o 6) (f : OiF σ τ) : TyC τ o 6 := ⟨Nat.lt_of_lt_of_le t.1 f.1.1, (f.1.2 o t.1).trans t.2.1, fun q => absurd q (by decide)⟩
theorem OiP.of {P : Nat} (h : OiP σ P) (H : HI0 σ) (t : TyC σ P 7) (f : OiF σ τ) : OiP τ P := by
  obtain ⟨o, i, ⟨a1, a2⟩, ⟨a3, a4⟩, a5, a6⟩ := h
  have q := f.2.1 P t.1 (by rw [t.2.1]; decide)
  exact ⟨o, i, ⟨q.2.2.2.2.1.trans a1, q.2.2.2.2.2.trans a2⟩, ⟨MkC.of H a5 a3 f, MkC.of H a6 a4 f⟩, a5.oi f, a6.oi f⟩
theorem OiF.sm (m : SmC σ τ) : OiF σ τ := ⟨⟨Nat.le_of_eq m.2.2.1.symm, fun a _ => by rw [m.2.2.2.1]⟩, fun a _ _ => ⟨(m.1 a 181 (by decide)).2.1, (m.1 a 182 (by decide)).1, (m.1 a 185 (by decide)).1, (m.1 a 183 (by decide)).2.2, (m.1 a 215 (by decide)).2.2, (m.1 a 216 (by decide)).2.2⟩, fun a _ _ _ => by rw [m.2.1.1]⟩
theorem OiF.rp {p0 p1 t : Nat} {K : Nat → Nat} (h : RpC p0 p1 t K σ τ) (t0 : TyC σ p0 8) : OiF σ τ := ⟨h.1, fun a ha ht => by
  have na : a ≠ p0 := fun q => by rw [q, t0.2.1] at ht; omega
  have q := (h.2.2.2 a ha).1 na
  exact ⟨(q 181 (by decide) (by decide) rfl).2.1, (q 182 (by decide) (by decide) rfl).1, (q 185 (by decide) (by decide) rfl).1, (q 183 (by decide) (by decide) rfl).2.2, (q 215 (by decide) (by decide) rfl).2.2, (q 216 (by decide) (by decide) rfl).2.2⟩, fun a ha ht hg => (h.2.2.2 a ha).2.1 ht hg⟩
/-- a frame and the kinds of rows that stay -/
theorem OiF.fx {M M' : List Nat} (f : FrE M σ τ) (e : ExC M' σ τ) (hM : [999, 181, 182, 183, 185, 215, 216].all (fun k => !M.elem k) = true) (hm : M'.elem 995 = false) : OiF σ τ := ⟨⟨e.1, fun a ha => (e.2.2 a ha).1.1⟩, fun a ha _ => by
  have q := (f.2 (nel hM rfl) a ha).1
  exact ⟨(q 181 (nel hM rfl)).2.1, (q 182 (nel hM rfl)).1, (q 185 (nel hM rfl)).1, (q 183 (nel hM rfl)).2.2, (q 215 (nel hM rfl)).2.2, (q 216 (nel hM rfl)).2.2⟩, fun a ha ht hg => (e.2.1.2.2 a ha (by rw [ht, hg]; exact prC.p hm)).1⟩
end

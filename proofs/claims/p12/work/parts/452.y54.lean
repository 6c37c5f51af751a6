/-! which things codes name: by S's -/
def ThP (P : Int → Prop) : List ItZ → Int × Int × Int × Int × Int → Prop := fun _ y => thO y.1 = true → P y.2.1
def TaB (P : Int → Prop) (l l' : List ItZ) : Prop := l <:+ l' ∧ AlB (ThP P) l l'
section
variable {P Q : Int → Prop} {l l' l'' m : List ItZ} {o a b t : Int}
theorem TaB.rf : TaB P l l := ⟨List.suffix_rfl, alb_rf⟩
theorem TaB.tr (h : TaB P l l') (g : TaB P l' l'') : TaB P l l'' := ⟨h.1.trans g.1, (alb_tr h.1 g.1).mpr ⟨h.2, g.2⟩⟩
theorem TaB.mo (h : TaB P l l') (q : ∀ x, P x → Q x) : TaB Q l l' := ⟨h.1, fun y m a b o => q _ (h.2 y m a b o)⟩
theorem TaB.r {y : Int × Int × Int × Int × Int} (h : TaB P l l') (q : thO y.1 = true → P y.2.1) : TaB P l (.inr y :: l') := ⟨h.1.trans (List.suffix_cons _ _), (alb_e h.1).mpr ⟨h.2, q⟩⟩
theorem TaB.ci (h : TaB P l l') (q : thO o = true → P a) : TaB P l (cIy o a b t :: l') := h.r q
theorem TaB.ce (h : TaB P l l') (q : thO o = true → P a) : TaB P l (cEy o a b t m :: l') := h.r q
theorem TaB.c0 (h : TaB P l l') (q : thO o = false) : TaB P l (cIy o a b t :: l') := h.r (fun z => absurd (q.symm.trans z) (by decide))
theorem TaB.e0 (h : TaB P l l') (q : thO o = false) : TaB P l (cEy o a b t m :: l') := h.r (fun z => absurd (q.symm.trans z) (by decide))
theorem ta_xs (h : XsR l l') : TaB P l l' := ⟨h.ig, alb_xs h⟩
theorem TaB.x {r : XrZ} {lv : Int} (h : TaB P l l') (g : ExX lv l' l'' r) : TaB P l l'' := h.tr (ta_xs g.xs)
theorem TaB.il {x : XrZ} (h : TaB P l l') : TaB P l (.inl x :: l') := h.tr (ta_xs ⟨[x], rfl⟩)
theorem ta_in {t' : List ItZ} (h : ∀ y, Sum.inr y ∈ t' → thO y.1 = true → P y.2.1) : TaB P l (t' ++ l) := by
  induction t' with
  | nil => exact TaB.rf
  | cons x t' ih =>
    have ih := ih (fun y hy => h y (List.mem_cons_of_mem _ hy))
    cases x with
    | inl x => exact ih.il
    | inr y => exact ih.r (h y List.mem_cons_self)
theorem TaB.pg {p q : Ps} (h : TaB P l p.2.2) (g : PgD (-1) p q) (r : ∀ x : Int, (p.2.1 : Int) ≤ x → x < (q.2.1 : Int) → P x) (n : P (-1)) : TaB P l q.2.2 := by
  obtain ⟨_, _, t, e, g3⟩ := g
  refine h.tr ?_
  rw [e]
  refine ta_in (fun y hy o => ?_)
  rcases (g3 y hy).2 o with z | z
  · exact r _ z.1 z.2
  · rw [z]; exact n
end
section
variable {P : Int → Prop} {z : ZS} {lv : Int} {l : List ItZ}
theorem TaB.va {j : Nat} {h : Int × Int × Int × Int} {th : Int} {l' m : List ItZ} (g : TaB P l l') (v : VaD z j h th l' m) : TaB P l m := by
  obtain ⟨v, t, _, hv⟩ := v
  rcases hv with ⟨R, rfl⟩ | ⟨m0, r, x, hx, R, _, rfl⟩
  · exact g.c0 rfl
  · exact ((g.c0 rfl).x hx).il
theorem TaB.fx {a : Int} : ∀ {L : List Nat} {p q : Ps}, FxD z lv a L p q → TaB P l p.2.2 → TaB P l q.2.2 := by
  intro L
  induction L with
  | nil => intro p q h g; rw [show q = p from h]; exact g
  | cons j L ih =>
    intro p q ⟨_, _, t, m, r, D, hx, h⟩ g
    exact ih h ((g.x hx).e0 rfl)
theorem TaB.fi {j : Nat} {o : Int} {p q : Ps} (g : TaB P l p.2.2) (h : FiD z lv j o p q) : TaB P l q.2.2 := by
  rcases h with ⟨_, rfl⟩ | ⟨_, t, m, hv, _, rfl⟩ | ⟨L, _, _, h⟩
  · exact g
  · exact g.va hv
  · exact TaB.fx h g
theorem TaB.fc {k : Nat} {t x : Int} {l' m : List ItZ} (g : TaB P l l') (h : FcD lv k t x l' m) (hk : P (k : Int)) : TaB P l m := by
  rcases h with ⟨_, rfl⟩ | ⟨m0, r, hx, _, rfl⟩
  · exact g.ci (fun _ => hk)
  · exact (g.x hx).ce (fun _ => hk)
end
/-- codes that name things of this S lie in it -/
def CtX (z : ZS) (p q : Ps) : Prop := ∀ y l, (.inr y :: l) <:+ z.2.1 → thO y.1 = true → (p.2.1 : Int) ≤ y.2.1 → y.2.1 < (q.2.1 : Int) → p.2.2.length ≤ l.length ∧ l.length < q.2.2.length
theorem sf_lt {x : ItZ} {l m L : List ItZ} (h : (x :: l) <:+ L) (g : m <:+ L) (q : l.length < m.length) : (x :: l) <:+ m := List.suffix_of_suffix_length_le h g (by rw [List.length_cons]; omega)
section
variable {z : ZS} {p q p1 q1 : Ps} {k : Nat} {a : Nat}
theorem CtX.in_ (h : CtX z p q) (hq : q.2.2 <:+ z.2.1) (h1 : p.2.1 ≤ p1.2.1) (h2 : q1.2.1 ≤ q.2.1) (a : TaB (fun x => x < (p1.2.1 : Int) ∨ (q1.2.1 : Int) ≤ x) p.2.2 p1.2.2) (c : p1.2.2 <:+ q1.2.2) (b : TaB (fun x => x < (p1.2.1 : Int) ∨ (q1.2.1 : Int) ≤ x) q1.2.2 q.2.2) : CtX z p1 q1 := by
  intro y l hs o y1 y2
  obtain ⟨a1, a2⟩ := h y l hs o (by omega) (by omega)
  have s := sf_lt hs hq a2
  constructor
  · by_cases e : p1.2.2.length ≤ l.length
    · exact e
    · have := a.2 y l (sf_lt hs ((c.trans b.1).trans hq) (by omega)) a1 o
      omega
  · by_cases e : l.length < q1.2.2.length
    · exact e
    · have := b.2 y l s (by omega) o
      omega
theorem pq_ta {P : Int → Prop} {k : Int} {l l' : List ItZ} (h : TaB P l l') (n : ¬ P k) : pqZ a k l' = pqZ a k l ∧ dfZ k l' = dfZ k l := by
  obtain ⟨⟨t, rfl⟩, h⟩ := h
  induction t with
  | nil => exact ⟨rfl, rfl⟩
  | cons x t ih =>
    have ih := ih (fun y m a b o => h y m (a.trans (List.suffix_cons _ _)) b o)
    cases x with
    | inl x => exact ih
    | inr y =>
      have hy : thO y.1 = true → P y.2.1 := h y (t ++ l) List.suffix_rfl (by rw [List.length_append]; omega)
      refine ⟨?_, ?_⟩
      · show (if sqZ a y.1 = true ∧ y.2.1 = k then _ else pqZ a k (t ++ l)) = _
        rw [if_neg (fun q => n (by rw [← q.2]; exact hy (sq_th q.1)))]
        exact ih.1
      · show (if y.1 = 39 ∧ y.2.1 = k then _ else dfZ k (t ++ l)) = _
        rw [if_neg (fun q => n (by rw [← q.2]; exact hy (by rw [q.1]; decide)))]
        exact ih.2
theorem pq_nil {k : Int} {l : List ItZ} (h : ∀ y m, (.inr y :: m) <:+ l → thO y.1 = true → ¬ y.2.1 = k) : pqZ a k l = -2 ∧ dfZ k l = -2 := by
  have e : TaB (fun x => ¬ x = k) [] l := ⟨List.nil_suffix, fun y m a _ o => h y m a o⟩
  exact pq_ta e (fun q => q rfl)
/-- things of this S: in the whole, ahead of it -/
theorem CtX.pq (h : CtX z p q) (hq : q.2.2 <:+ z.2.1) (h1 : p.2.1 ≤ k) (h2 : k < q.2.1) : (pqZ a (k : Int) z.2.1 = pqZ a (k : Int) q.2.2 ∧ dfZ (k : Int) z.2.1 = dfZ (k : Int) q.2.2) ∧ (p.2.2 <:+ q.2.2 → pqZ a (k : Int) p.2.2 = -2 ∧ dfZ (k : Int) p.2.2 = -2) := by
  refine ⟨?_, fun c => ?_⟩
  · have e : TaB (fun x => ¬ x = (k : Int)) q.2.2 z.2.1 := ⟨hq, fun y m a b o e => by
      have := h y m a o (by omega) (by omega)
      omega⟩
    exact pq_ta e (fun q => q rfl)
  · refine pq_nil (fun y m a o e => ?_)
    have := h y m (a.trans (c.trans hq)) o (by omega) (by omega)
    have l := a.length_le
    rw [List.length_cons] at l
    omega
end
/-- S's inside of what was read, whose things lie in them -/
def StX (z : ZS) (St : SsT) : SsT := fun a p q => (St a p q ∧ q.1 ≤ snM z ∧ q.2.2 <:+ z.2.1) ∧ CtX z p q
section
variable {z : ZS} {St : SsT} {lv a : Int} {k : Nat}
theorem cs_ta {P : Int → Prop} {p p1 : Ps} (h : CsD z lv k a p p1) (hk : P (k : Int)) : TaB P p.2.2 p1.2.2 ∧ p1.1 = p.1 + 1 ∧ p1.2.1 = p.2.1 := by
  rcases h with ⟨t, m, r, R, hx, rfl⟩ | ⟨t, R, rfl⟩
  · exact ⟨((TaB.rf.x hx).ce (fun _ => hk)), rfl, rfl⟩
  · exact ⟨TaB.rf.ci (fun _ => hk), rfl, rfl⟩
theorem rw_ta {sw : Int} (hS : ∀ a p q, St a p q → PgD (-1) p q ∧ p.1 < q.1) : ∀ (L : List Nat) (p q : Ps), RwD St z lv sw k a L p q → TaB (fun x => ((p.2.1 : Int) ≤ x ∧ x < (q.2.1 : Int)) ∨ x = -1 ∨ (sw = 1 ∧ x = (k : Int))) p.2.2 q.2.2 ∧ p.1 ≤ q.1 ∧ p.2.1 ≤ q.2.1 := by
  intro L
  induction L with
  | nil => intro p q h; rw [show q = p from h]; exact ⟨TaB.rf, Nat.le_refl _, Nat.le_refl _⟩
  | cons j L ih =>
    intro p q ⟨_, _, p1, h1, h2⟩
    obtain ⟨i1, i2, i3⟩ := ih _ _ h2
    rcases h1 with ⟨es, h1⟩ | h1
    · obtain ⟨c1, c2, c3⟩ := cs_ta (P := fun x => ((p.2.1 : Int) ≤ x ∧ x < (q.2.1 : Int)) ∨ x = -1 ∨ (sw = 1 ∧ x = (k : Int))) h1 (Or.inr (Or.inr ⟨es, rfl⟩))
      exact ⟨c1.tr (i1.mo (fun x hx => by omega)), by omega, by omega⟩
    · obtain ⟨g, g1⟩ := hS _ _ _ h1
      have g2 := g.2.1
      have s : TaB (fun x => ((p.2.1 : Int) ≤ x ∧ x < (q.2.1 : Int)) ∨ x = -1 ∨ (sw = 1 ∧ x = (k : Int))) p.2.2 p1.2.2 := TaB.rf.pg g (fun x a b => Or.inl ⟨a, by omega⟩) (Or.inr (Or.inl rfl))
      exact ⟨s.tr (i1.mo (fun x hx => by omega)), by omega, by omega⟩
theorem rw_x {sw : Int} (hS : ∀ a p q, St a p q → PgD (-1) p q ∧ p.1 < q.1) : ∀ (L : List Nat) (p q : Ps), RwD St z lv sw k a L p q → (sw = 1 → k < p.2.1) → CtX z p q → q.1 ≤ snM z → q.2.2 <:+ z.2.1 → RwD (StX z St) z lv sw k a L p q := by
  intro L
  induction L with
  | nil => exact fun p q h _ _ _ _ => h
  | cons j L ih =>
    intro p q ⟨e1, e2, p1, h1, h2⟩ hk hc hz hq
    obtain ⟨i1, i2, i3⟩ := rw_ta hS _ _ _ h2
    rcases h1 with ⟨es, h1⟩ | h1
    · have c0 : p1.2.1 = p.2.1 := (cs_ta (P := fun _ => True) h1 trivial).2.2
      have k0 := hk es
      obtain ⟨c1, c2, c3⟩ := cs_ta (P := fun x => x < (p1.2.1 : Int) ∨ (q.2.1 : Int) ≤ x) h1 (Or.inl (by omega))
      exact ⟨e1, e2, p1, Or.inl ⟨es, h1⟩, ih _ _ h2 (fun e => by have := hk e; omega) (hc.in_ hq (by omega) (Nat.le_refl _) c1 i1.1 TaB.rf) hz hq⟩
    · obtain ⟨g, g1⟩ := hS _ _ _ h1
      have g2 := g.2.1
      have r : CtX z p1 q := hc.in_ hq (by omega) (Nat.le_refl _) (TaB.rf.pg g (fun x a b => Or.inl b) (Or.inl (by omega))) i1.1 TaB.rf
      have s : CtX z p p1 := hc.in_ hq (Nat.le_refl _) i3 TaB.rf g.sf (i1.mo (fun x hx => by
        rcases hx with hx | hx | ⟨hs, hx⟩
        · omega
        · omega
        · have := hk hs
          omega))
      exact ⟨e1, e2, p1, Or.inr ⟨⟨h1, by omega, i1.1.trans hq⟩, s⟩, ih _ _ h2 (fun e => by have := hk e; omega) r hz hq⟩
theorem bk_x {lv' : Int} (hS : ∀ a p q, St a p q → PgD (-1) p q ∧ p.1 < q.1) {p q : Ps} (h : BkD (RwD St z lv) z lv' a p q) (hc : CtX z p q) (hz : q.1 ≤ snM z) (hq : q.2.2 <:+ z.2.1) : BkD (RwD (StX z St) z lv) z lv' a p q := by
  obtain ⟨L, t, hr, R⟩ := h
  exact ⟨L, t, rw_x hS _ _ _ hr (fun e => absurd e (by decide)) hc hz hq, R⟩
theorem bk_ta {lv' : Int} (hS : ∀ a p q, St a p q → PgD (-1) p q ∧ p.1 < q.1) {p q : Ps} (h : BkD (RwD St z lv) z lv' a p q) : TaB (fun x => ((p.2.1 : Int) ≤ x ∧ x < (q.2.1 : Int)) ∨ x = -1) p.2.2 q.2.2 ∧ p.1 + 1 ≤ q.1 ∧ p.2.1 ≤ q.2.1 := by
  obtain ⟨L, t, hr, R⟩ := h
  obtain ⟨i1, i2, i3⟩ := rw_ta hS _ _ _ hr
  exact ⟨i1.mo (fun x hx => by
    rcases hx with hx | hx | ⟨hs, _⟩
    · exact Or.inl hx
    · exact Or.inr hx
    · exact absurd hs (by decide)), i2, i3⟩
end

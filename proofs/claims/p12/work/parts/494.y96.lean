/-! shapes of codes, S by S -/
def YcP (y : Int × Int × Int × Int × Int) (u : List ItZ) : Prop := (19 ≤ y.1 ∧ ((tkO y → 0 ≤ y.2.2.2.2) ∧ (¬ tkO y → y.2.2.2.2 < 0))) ∧ (y.1 = 38 → 0 ≤ swZ y.2.1 u) ∧ (y.1 = 42 → lbZ u ≠ [])
def CoR (l m : List ItZ) : Prop := (lbZ m = lbZ l ∧ mdZ m = mdZ l ∧ ∀ k, 0 ≤ swZ k l → 0 ≤ swZ k m) ∧ ∀ y u, (.inr y :: u) <:+ m → (.inr y :: u) <:+ l ∨ (YcP y u ∧ mdZ u = mdZ l)
section
variable {l m n : List ItZ} {o a b t v : Int} {y : Int × Int × Int × Int × Int}
theorem CoR.rf : CoR l l := ⟨⟨rfl, rfl, fun _ h => h⟩, fun _ _ h => Or.inl h⟩
theorem CoR.tr (h : CoR l m) (g : CoR m n) : CoR l n := ⟨⟨g.1.1.trans h.1.1, g.1.2.1.trans h.1.2.1, fun k q => g.1.2.2 k (h.1.2.2 k q)⟩, fun y u q => by
  rcases g.2 y u q with e | e
  · exact h.2 y u e
  · exact Or.inr ⟨e.1, e.2.trans h.1.2.1⟩⟩
theorem CoR.xs (h : XsR l m) : CoR l m := by
  obtain ⟨t, rfl⟩ := h
  induction t with
  | nil => exact CoR.rf
  | cons x t ih =>
    refine ih.tr ⟨⟨rfl, rfl, fun _ h => h⟩, fun y u q => ?_⟩
    rcases List.suffix_cons_iff.mp (show (.inr y :: u) <:+ (Sum.inl x :: (t.map Sum.inl ++ l)) from q) with e | e
    · cases (List.cons.inj e).1
    · exact Or.inl e
theorem CoR.x {lv : Int} {r : XrZ} (h : ExX lv l m r) : CoR l m := CoR.xs h.xs
/-- one code more -/
theorem CoR.cc (h : YcP y l) (h1 : ¬ y.1 = 54 ∧ ¬ y.1 = 41 ∧ ¬ y.1 = 42) (h2 : y.1 = 37 → 0 ≤ y.2.2.2.2) : CoR l (.inr y :: l) := by
  refine ⟨⟨?_, ?_, fun k q => ?_⟩, fun w u q => ?_⟩
  · show (if y.1 = 41 then (y.2.1, y.2.2.2.1) :: lbZ l else if y.1 = 42 then (lbZ l).tail else lbZ l) = lbZ l
    rw [if_neg h1.2.1, if_neg h1.2.2]
  · show (if y.1 = 54 then mdZ l + 1 else mdZ l) = mdZ l
    rw [if_neg h1.1]
  · show 0 ≤ (if y.1 = 37 ∧ y.2.1 = k then y.2.2.2.2 else swZ k l)
    by_cases e : y.1 = 37 ∧ y.2.1 = k
    · rw [if_pos e]
      exact h2 e.1
    · rw [if_neg e]
      exact q
  · rcases List.suffix_cons_iff.mp q with e | e
    · obtain ⟨e1, e2⟩ := List.cons.inj e
      cases e1
      subst e2
      exact Or.inr ⟨h, rfl⟩
    · exact Or.inl e
theorem tk_no (h : ¬ o = 21 ∧ ¬ o = 23 ∧ ¬ o = 27 ∧ ¬ o = 31 ∧ ¬ (o = 33 ∧ ¬ b = 0) ∧ ¬ o = 37 ∧ ¬ o = 38 ∧ ¬ (o = 48 ∧ ¬ a = 0) ∧ ¬ o = 49) : ¬ tkO (o, a, b, t, v) := by
  unfold tkO
  show ¬ (o = 21 ∨ o = 23 ∨ o = 27 ∨ o = 31 ∨ (o = 33 ∧ ¬ b = 0) ∨ o = 37 ∨ o = 38 ∨ (o = 48 ∧ ¬ a = 0) ∨ o = 49)
  omega
theorem CoR.cN (hv : v < 0) (h : (¬ o = 21 ∧ ¬ o = 23 ∧ ¬ o = 27 ∧ ¬ o = 31 ∧ ¬ (o = 33 ∧ ¬ b = 0) ∧ ¬ o = 37 ∧ ¬ o = 38 ∧ ¬ (o = 48 ∧ ¬ a = 0) ∧ ¬ o = 49) ∧ 19 ≤ o ∧ ¬ o = 54 ∧ ¬ o = 41 ∧ ¬ o = 42) : CoR l (.inr (o, a, b, t, v) :: l) :=
  CoR.cc ⟨⟨h.2.1, fun q => absurd q (tk_no h.1), fun _ => hv⟩, fun q => absurd q h.1.2.2.2.2.2.2.1, fun q => absurd q h.2.2.2.2⟩ h.2.2 (fun q => absurd q h.1.2.2.2.2.2.1)
theorem CoR.cI (h : (¬ o = 21 ∧ ¬ o = 23 ∧ ¬ o = 27 ∧ ¬ o = 31 ∧ ¬ (o = 33 ∧ ¬ b = 0) ∧ ¬ o = 37 ∧ ¬ o = 38 ∧ ¬ (o = 48 ∧ ¬ a = 0) ∧ ¬ o = 49) ∧ 19 ≤ o ∧ ¬ o = 54 ∧ ¬ o = 41 ∧ ¬ o = 42) : CoR l (cIy o a b t :: l) := CoR.cN (by decide) h
theorem CoR.cE (hx : 1 ≤ xcZ l) (h : o = 21 ∨ o = 23 ∨ o = 27 ∨ o = 31 ∨ (o = 33 ∧ ¬ b = 0) ∨ o = 37 ∨ o = 38 ∨ (o = 48 ∧ ¬ a = 0) ∨ o = 49) (h2 : o = 38 → 0 ≤ swZ a l) : CoR l (cEy o a b t l :: l) := by
  have p : 0 ≤ (xcZ l : Int) - 1 := by omega
  exact CoR.cc (y := (o, a, b, t, (xcZ l : Int) - 1)) ⟨⟨by show 19 ≤ o; omega, fun _ => p, fun q => absurd h q⟩, h2, fun q => absurd (show o = 42 from q) (by omega)⟩ (by show ¬ o = 54 ∧ ¬ o = 41 ∧ ¬ o = 42; omega) (fun _ => p)
/-- a label and what stands behind it -/
theorem CoR.la (g : CoR (cIy 41 a b t :: l) m) {a' b' t' : Int} : CoR l (cIy 42 a' b' t' :: m) := by
  obtain ⟨⟨g1, g2, g3⟩, g4⟩ := g
  have n41 : ¬ tkO (41, a, b, t, -1) := tk_no (by omega)
  have n42 : ¬ tkO (42, a', b', t', -1) := tk_no (by omega)
  refine ⟨⟨?_, g2, fun k q => g3 k q⟩, fun y u q => ?_⟩
  · show (lbZ m).tail = lbZ l
    rw [g1]
    rfl
  · rcases List.suffix_cons_iff.mp q with e | e
    · obtain ⟨e1, e2⟩ := List.cons.inj e
      cases e1
      subst e2
      refine Or.inr ⟨⟨⟨by show (19 : Int) ≤ 42; decide, fun q => absurd q n42, fun _ => by show (-1 : Int) < 0; decide⟩, fun q => absurd (show (42 : Int) = 38 from q) (by decide), fun _ => ?_⟩, g2⟩
      rw [g1]
      exact List.cons_ne_nil _ _
    · rcases g4 y u e with e | e
      · rcases List.suffix_cons_iff.mp e with e | e
        · obtain ⟨e1, e2⟩ := List.cons.inj e
          cases e1
          subst e2
          exact Or.inr ⟨⟨⟨by show (19 : Int) ≤ 41; decide, fun q => absurd q n41, fun _ => by show (-1 : Int) < 0; decide⟩, fun q => absurd (show (41 : Int) = 38 from q) (by decide), fun q => absurd (show (41 : Int) = 42 from q) (by decide)⟩, rfl⟩
        · exact Or.inl e
      · exact Or.inr e
end
section
variable {N : Int → Int} {M : Int} {z : ZS} {St : SsT} {Rw : RsT} {lv : Int}
theorem cor_va {j k : Nat} {h : Int × Int × Int × Int} {l m : List ItZ} (v : VaD z j h (k : Int) l m) : CoR l m := by
  obtain ⟨v, t, _, hv⟩ := v
  rcases hv with ⟨R, rfl⟩ | ⟨m0, r, x, hx, R, _, rfl⟩
  · exact CoR.cI (by omega)
  · exact ((CoR.cI (by omega)).tr (CoR.x hx)).tr (CoR.xs XsR.pu)
theorem cor_fx {a : Int} : ∀ {L : List Nat} {p q : Ps}, FxD z lv a L p q → CoR p.2.2 q.2.2 := by
  intro L
  induction L with
  | nil => intro p q h; rw [show q = p from h]; exact CoR.rf
  | cons j L ih =>
    intro p q ⟨e, _, t, m, r, D, hx, h⟩
    have g := ih h
    exact ((CoR.x hx).tr (CoR.cE hx.nn.2.2.2 (by omega) (by omega))).tr g
theorem cor_fi {j : Nat} {o : Int} {p q : Ps} (h : FiD z lv j o p q) : CoR p.2.2 q.2.2 := by
  rcases h with ⟨_, rfl⟩ | ⟨_, t, m, hv, _, rfl⟩ | ⟨L, _, _, h⟩
  · exact CoR.rf
  · exact cor_va hv
  · exact cor_fx h
theorem cor_fc {k : Nat} {t x : Int} {l m : List ItZ} (h : FcD lv k t x l m) : CoR l m := by
  rcases h with ⟨_, rfl⟩ | ⟨m0, r, hx, _, rfl⟩
  · exact CoR.cI (by omega)
  · exact (CoR.x hx).tr (CoR.cE hx.nn.2.2.2 (by omega) (by omega))
theorem cor_row {sw : Int} {k : Nat} {a : Int} (hS : ∀ a p q, St a p q → CoR p.2.2 q.2.2) : ∀ {L : List Nat} {p q : Ps}, (sw = 1 → 0 ≤ swZ k p.2.2) → RwD St z lv sw k a L p q → CoR p.2.2 q.2.2 := by
  intro L
  induction L with
  | nil => intro p q _ h; rw [show q = p from h]; exact CoR.rf
  | cons j L ih =>
    intro p q hw ⟨_, _, p1, h1, h2⟩
    have g : CoR p.2.2 p1.2.2 := by
      rcases h1 with ⟨e, ⟨t, m, r, D, hx, rfl⟩ | ⟨t, D, rfl⟩⟩ | h1
      · have w := (CoR.x hx).1.2.2 k (hw e)
        exact (CoR.x hx).tr (CoR.cE hx.nn.2.2.2 (by omega) (fun _ => w))
      · exact CoR.cI (by omega)
      · exact hS _ _ _ h1
    exact g.tr (ih (fun e => g.1.2.2 k (hw e)) h2)
theorem cor_bk {lv' : Int} {a : Int} (hR : ∀ k a L p q, Rw 0 k a L p q → CoR p.2.2 q.2.2) {p q : Ps} (h : BkD Rw z lv' a p q) : CoR p.2.2 q.2.2 := by
  obtain ⟨L, t, hr, D⟩ := h
  have g := hR _ _ _ _ _ hr
  exact g
theorem cor_st : ∀ n a p q, StD N M z n a p q → CoR p.2.2 q.2.2 := by
  intro n
  induction n with
  | zero => exact fun _ _ _ h => absurd h id
  | succ n ih =>
    intro a p q h
    have hR : ∀ k a L p q, RwD (StD N M z n) z (lvN n) 0 k a L p q → CoR p.2.2 q.2.2 := fun _ _ _ _ _ h => cor_row ih (fun e => absurd e (by decide)) h
    obtain ⟨t, q1, _, _, h, rfl⟩ := h
    refine (CoR.cI (l := p.2.2) (o := 20) (a := 0) (b := 0) (t := t) (by omega)).tr (CoR.tr (m := q1.2.2) ?_ (CoR.cI (by omega)))
    rcases h with ⟨m, r, hx, R, rfl⟩ | ⟨m, hv, rfl⟩ | ⟨R, rfl⟩ | ⟨L, hr, R⟩ | ⟨q2, hs, R, rfl⟩ | ⟨m, r, q2, hx, hs, ⟨R, rfl⟩ | ⟨t2, q3, hs2, R, rfl⟩⟩ | ⟨m, r, q2, hx, hs, R, rfl⟩ | ⟨m, r, q2, hs, hx, R, rfl⟩ | ⟨q2, q3, q4, m2, o, g, x, f1, f2, ⟨L, _, f3⟩, hs, R, rfl⟩ | ⟨m, r, L, q2, hx, hr, _, R, rfl⟩ | ⟨q2, q3, q4, o, g, v, B1, B2, B3, _, R, rfl⟩ | ⟨kd, lk, t2, hk, _, R, rfl⟩ | (⟨R, rfl⟩ | ⟨m, r, hx, ⟨R, rfl⟩ | ⟨R, rfl⟩⟩)
    · exact (CoR.x hx).tr (CoR.cE hx.nn.2.2.2 (by omega) (by omega))
    · exact cor_va hv
    · exact CoR.rf
    · exact hR _ _ _ _ _ hr
    · exact CoR.la (ih _ _ _ hs)
    · exact (((CoR.x hx).tr (CoR.cE hx.nn.2.2.2 (by omega) (by omega))).tr (ih _ _ _ hs)).tr (CoR.cI (by omega))
    · have g1 := ih _ _ _ hs
      have g2 := ih _ _ _ hs2
      exact (((((CoR.x hx).tr (CoR.cE hx.nn.2.2.2 (by omega) (by omega))).tr g1).tr (CoR.cI (by omega))).tr g2).tr (CoR.cI (by omega))
    · exact (((CoR.cI (by omega)).tr ((CoR.x hx).tr (CoR.cE hx.nn.2.2.2 (by omega) (by omega)))).tr (ih _ _ _ hs)).tr (CoR.cI (by omega))
    · exact (((CoR.cI (by omega)).tr (ih _ _ _ hs)).tr (CoR.cI (by omega))).tr ((CoR.x hx).tr (CoR.cE hx.nn.2.2.2 (by omega) (by omega)))
    · have g1 := cor_fi f1
      have g2 := cor_fx f3
      have g3 := ih _ _ _ hs
      have g4 := cor_fc f2
      exact ((((((g1.tr (CoR.cI (by omega))).tr g4).tr (CoR.cI (by omega))).tr g2).tr (CoR.cI (by omega))).tr g3).tr (CoR.cI (by omega))
    · have c := CoR.cE (l := m) (o := 37) (a := (p.2.1 : Int)) (b := 0) (t := t) hx.nn.2.2.2 (by omega) (by omega)
      have w : 0 ≤ swZ (p.2.1 : Int) (cEy 37 (p.2.1 : Int) 0 t m :: m) := by
        show 0 ≤ (if (37 : Int) = 37 ∧ (p.2.1 : Int) = (p.2.1 : Int) then (xcZ m : Int) - 1 else swZ (p.2.1 : Int) m)
        rw [if_pos ⟨rfl, rfl⟩]
        exact hx.nn.2.1
      have g := cor_row (sw := 1) ih (fun _ => w) hr
      exact (((CoR.x hx).tr c).tr g).tr (CoR.cI (by omega))
    · have g1 := cor_bk hR B1
      have g2 : CoR q2.2.2 q3.2.2 := by
        rcases B2 with ⟨_, _, e⟩ | ⟨_, hv, t2, B⟩
        · rw [e]; exact CoR.rf
        · exact CoR.tr (CoR.cN (by omega) (by omega)) (cor_bk hR B)
      have g3 : CoR q3.2.2 q4.2.2 := by
        rcases B3 with ⟨_, e⟩ | ⟨_, t2, B⟩
        · rw [e]; exact CoR.rf
        · exact CoR.tr (CoR.cI (by omega)) (cor_bk hR B)
      exact ((((CoR.cI (by omega)).tr g1).tr g2).tr g3).tr (CoR.cI (by omega))
    · exact CoR.cI (by omega)
    · exact CoR.cI (by omega)
    · exact (CoR.x hx).tr (CoR.cE hx.nn.2.2.2 (by omega) (by omega))
    · exact (CoR.x hx).tr (CoR.cE hx.nn.2.2.2 (by omega) (by omega))
theorem cor_pr : ∀ (L : List Nat) (M : Nat) (p q : Ps), PrD N z L M p q → mdZ p.2.2 = M → lbZ p.2.2 = [] → lbZ q.2.2 = [] ∧ ∀ y u, (.inr y :: u) <:+ q.2.2 → (.inr y :: u) <:+ p.2.2 ∨ (YcP y u ∧ mdZ u < M + L.length) := by
  intro L
  induction L with
  | nil => intro M p q h hm hl; rw [show q = p from h]; exact ⟨hl, fun y u h => Or.inl h⟩
  | cons j L ih =>
    intro M p q ⟨_, p1, ⟨q1, t, B, e⟩, h2⟩ hm hl
    have g : CoR p.2.2 q1.2.2 := cor_bk (Rw := RwD (StD N M z 20) z (lvN 20)) (fun _ _ _ _ _ h => cor_row (cor_st 20) (fun e => absurd e (by decide)) h) (p := (p.1, p.2.1 + 1, p.2.2)) B
    obtain ⟨⟨g1, g2, g3⟩, g4⟩ := g
    have m1 : mdZ p1.2.2 = M + 1 := by
      rw [e]
      show (if (54 : Int) = 54 then mdZ q1.2.2 + 1 else mdZ q1.2.2) = M + 1
      rw [if_pos rfl, g2, hm]
    have l1 : lbZ p1.2.2 = [] := by
      rw [e]
      show lbZ q1.2.2 = []
      rw [g1, hl]
    obtain ⟨i1, i2⟩ := ih (M + 1) p1 q h2 m1 l1
    refine ⟨i1, fun y u hy => ?_⟩
    rw [List.length_cons]
    rcases i2 y u hy with c | c
    · rw [e] at c
      rcases List.suffix_cons_iff.mp c with c | c
      · obtain ⟨e1, e2⟩ := List.cons.inj c
        cases e1
        subst e2
        exact Or.inr ⟨⟨⟨by show (19 : Int) ≤ 54; decide, fun q => absurd q (tk_no (by omega)), fun _ => by show (-1 : Int) < 0; decide⟩, fun q => absurd (show (54 : Int) = 38 from q) (by decide), fun q => absurd (show (54 : Int) = 42 from q) (by decide)⟩, by omega⟩
      · rcases g4 y u c with c | c
        · exact Or.inl c
        · exact Or.inr ⟨c.1, by omega⟩
    · exact Or.inr ⟨c.1, by omega⟩
theorem cor_all {L : List Nat} (h : PrD N z L 0 (0, 0, []) (psM z)) : lbZ z.2.1 = [] ∧ ∀ y u, (.inr y :: u) <:+ z.2.1 → YcP y u ∧ mdZ u < L.length := by
  obtain ⟨a, b⟩ := cor_pr L 0 (0, 0, []) (psM z) h rfl rfl
  refine ⟨a, fun y u hy => ?_⟩
  rcases b y u hy with c | c
  · exact absurd (c.subset List.mem_cons_self) List.not_mem_nil
  · exact ⟨c.1, by omega⟩
end

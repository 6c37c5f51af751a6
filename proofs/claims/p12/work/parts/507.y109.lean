/-! what each S tells of itself; how many S's there are -/
def SjP (z : ZS) (nm j : Nat) : Prop := (0 ≤ xjS z j → xjS z j < (xnM z : Int) ∧ (xth z (xjS z j).toNat).1.1 ≤ 10) ∧ (kjS z j = 6 → bjS z j = (j : Int) + 1) ∧ (kjS z j = 61 → ∃ l, RwZ z (bjS z j) l ∧ l.Nodup) ∧ (kjS z j = 66 → 0 ≤ ljS z j ∧ ljS z j < (nm : Int))
def SjR (z : ZS) (nm : Nat) (p q : Ps) : Prop := (p.1 ≤ q.1 ∧ q.1 + p.2.2.length ≤ p.1 + q.2.2.length ∧ p.2.2 <:+ q.2.2) ∧ (q.2.2 <:+ z.2.1 → q.1 ≤ snM z → ∀ j, p.1 ≤ j → j < q.1 → SjP z nm j)
section
variable {z : ZS} {nm : Nat} {p q r : Ps} {l m : List ItZ} {n k k' j : Nat}
theorem sf_le {l m : List ItZ} (h : l <:+ m) : l.length ≤ m.length := h.length_le
theorem SjR.rf : SjR z nm p p := ⟨⟨Nat.le_refl _, Nat.le_refl _, List.suffix_rfl⟩, fun _ _ j a b => by omega⟩
theorem SjR.tr (h : SjR z nm p q) (g : SjR z nm q r) : SjR z nm p r := by
  obtain ⟨⟨h1, h2, h3⟩, h4⟩ := h
  obtain ⟨⟨g1, g2, g3⟩, g4⟩ := g
  refine ⟨⟨Nat.le_trans h1 g1, by omega, h3.trans g3⟩, fun a b j c d => ?_⟩
  by_cases e : j < q.1
  · exact h4 (g3.trans a) (Nat.le_trans g1 b) j c e
  · exact g4 a b j (by omega) d
/-- codes, exps that are laid between -/
theorem SjR.c (h : l <:+ m) : SjR z nm (n, k, l) (n, k', m) := ⟨⟨Nat.le_refl _, by have := sf_le h; show n + l.length ≤ n + m.length; omega, h⟩, fun _ _ j a b => by have a : n ≤ j := a; have b : j < n := b; omega⟩
/-- an S begins: it has a code of its own -/
theorem SjR.hd (h0 : l <:+ m) (hl : l.length + 1 ≤ m.length) (g : SjR z nm (n + 1, k', m) q) (hj : q.2.2 <:+ z.2.1 → q.1 ≤ snM z → SjP z nm n) : SjR z nm (n, k, l) q := by
  obtain ⟨⟨g1, g2, g3⟩, g4⟩ := g
  have g1 : n + 1 ≤ q.1 := g1
  have g2 : q.1 + m.length ≤ n + 1 + q.2.2.length := g2
  refine ⟨⟨by show n ≤ q.1; omega, by show q.1 + l.length ≤ n + q.2.2.length; omega, h0.trans g3⟩, fun a b j c d => ?_⟩
  have c : n ≤ j := c
  by_cases e : j = n
  · rw [e]
    exact hj a b
  · exact g4 a b j (by show n + 1 ≤ j; omega) d
theorem sj_no {kd t lv a b o g x lk th : Int} (R : ReD z j (kd, t, lv, a) (b, o, g, x, lk, th)) (hk : ¬ kd = 6 ∧ ¬ kd = 61 ∧ ¬ kd = 66) (hx : 0 ≤ x → x < (xnM z : Int) ∧ (xth z x.toNat).1.1 ≤ 10) : SjP z nm j := by
  unfold SjP
  rw [R.kj, R.xj]
  exact ⟨hx, fun e => absurd e hk.1, fun e => absurd e hk.2.1, fun e => absurd e hk.2.2⟩
theorem no_x : (0 : Int) ≤ -1 → (-1 : Int) < (xnM z : Int) ∧ (xth z (-1 : Int).toNat).1.1 ≤ 10 := fun q => absurd q (by decide)
theorem ex_x {lv : Int} {r : XrZ} (h : ExX lv l m r) (g : m <:+ z.2.1) : 0 ≤ (xcZ m : Int) - 1 → (xcZ m : Int) - 1 < (xnM z : Int) ∧ (xth z ((xcZ m : Int) - 1).toNat).1.1 ≤ 10 := fun _ => by
  obtain ⟨n1, n2, n3, n4⟩ := h.nn
  have u := xc_suf g
  have u : xcZ m ≤ xnM z := u
  obtain ⟨m0, _, _, ⟨_, _, k⟩, _⟩ := id h
  refine ⟨by omega, ?_⟩
  rw [n1, show xth z (xcZ m - 1) = r from h.at g]
  exact k
end
section
variable {N : Int → Int} {M : Int} {z : ZS} {nm : Nat} {St : SsT} {Rw : RsT} {lv : Int}
theorem sj_va {j k : Nat} {kd t lv' a : Int} {l m : List ItZ} (v : VaD z j (kd, t, lv', a) (k : Int) l m) (hk : ¬ kd = 6 ∧ ¬ kd = 61 ∧ ¬ kd = 66) : SjR z nm (j, k, l) (j + 1, k, m) := by
  obtain ⟨v, t, _, hv⟩ := v
  rcases hv with ⟨R, rfl⟩ | ⟨m0, r, x, hx, R, _, rfl⟩
  · exact SjR.hd (List.suffix_cons _ _) (by show l.length + 1 ≤ l.length + 1; omega) SjR.rf (fun _ _ => sj_no R hk no_x)
  · have e := sf_le hx.sf
    have e : l.length + 1 ≤ m0.length := e
    refine SjR.hd (m := .inl x :: m0) (((List.suffix_cons _ _).trans hx.sf).trans (List.suffix_cons _ _)) (by show l.length + 1 ≤ m0.length + 1; omega) SjR.rf (fun a _ => sj_no R hk (ex_x hx ?_))
    exact (List.suffix_cons _ _).trans a
theorem sj_fx {a : Int} : ∀ {L : List Nat} {p q : Ps}, FxD z lv a L p q → SjR z nm p q := by
  intro L
  induction L with
  | nil => intro p q h; rw [show q = p from h]; exact SjR.rf
  | cons j L ih =>
    intro p q ⟨e, _, t, m, r, D, hx, h⟩
    have g := ih h
    have s := sf_le hx.sf
    subst e
    obtain ⟨⟨g1, g2, g3⟩, g4⟩ := id g
    exact SjR.hd (m := cEy 21 (acZ r) 0 r.1.2.2.1 m :: m) (hx.sf.trans (List.suffix_cons _ _)) (by show p.2.2.length + 1 ≤ m.length + 1; omega) g (fun a _ => sj_no D (by omega) (ex_x hx ((List.suffix_cons _ _).trans (g3.trans a))))
theorem sj_fi {j : Nat} {o : Int} {p q : Ps} (h : FiD z lv j o p q) : SjR z nm p q := by
  rcases h with ⟨_, rfl⟩ | ⟨_, t, m, hv, _, rfl⟩ | ⟨L, _, _, h⟩
  · exact SjR.rf
  · exact sj_va hv (by omega)
  · exact sj_fx h
theorem sf_fc {k : Nat} {t x : Int} {l m : List ItZ} (h : FcD lv k t x l m) : l <:+ m ∧ (m <:+ z.2.1 → 0 ≤ x → x < (xnM z : Int) ∧ (xth z x.toNat).1.1 ≤ 10) := by
  rcases h with ⟨rfl, rfl⟩ | ⟨m0, r, hx, rfl, rfl⟩
  · exact ⟨List.suffix_cons _ _, fun _ => no_x⟩
  · exact ⟨hx.sf.trans (List.suffix_cons _ _), fun a => ex_x hx ((List.suffix_cons _ _).trans a)⟩
/-- rows: their S's, one behind the other -/
theorem sj_row {sw : Int} {k : Nat} {a : Int} (hS : ∀ a p q, St a p q → SjR z nm p q ∧ p.1 < q.1) : ∀ {L : List Nat} {p q : Ps}, RwD St z lv sw k a L p q → SjR z nm p q ∧ (q.1 ≤ snM z → RwZ z (hdI L) L ∧ L.Nodup ∧ ∀ j ∈ L, p.1 ≤ j) := by
  intro L
  induction L with
  | nil =>
    intro p q h
    rw [show q = p from h]
    exact ⟨SjR.rf, fun _ => ⟨by show (-1 : Int) < 0; decide, List.nodup_nil, fun _ h => absurd h List.not_mem_nil⟩⟩
  | cons j L ih =>
    intro p q ⟨ej, en, p1, h1, h2⟩
    have g : SjR z nm p p1 ∧ p.1 < p1.1 := by
      rcases h1 with ⟨_, ⟨t, m, r, D, hx, rfl⟩ | ⟨t, D, rfl⟩⟩ | h1
      · have s := sf_le hx.sf
        refine ⟨SjR.hd (m := cEy 38 k ((m.length : Int) - 1) t m :: m) (hx.sf.trans (List.suffix_cons _ _)) (by show p.2.2.length + 1 ≤ m.length + 1; omega) SjR.rf (fun a _ => sj_no D (by omega) (ex_x hx ((List.suffix_cons _ _).trans a))), Nat.lt_succ_self _⟩
      · exact ⟨SjR.hd (m := cIy 39 k 0 t :: p.2.2) (List.suffix_cons _ _) (by show p.2.2.length + 1 ≤ p.2.2.length + 1; omega) SjR.rf (fun _ _ => sj_no D (by omega) no_x), Nat.lt_succ_self _⟩
      · exact hS _ _ _ h1
    obtain ⟨i1, i2⟩ := ih h2
    refine ⟨g.1.tr i1, fun hq => ?_⟩
    obtain ⟨r1, r2, r3⟩ := i2 hq
    have i0 := i1.1.1
    refine ⟨⟨rfl, by omega, by rw [en]; exact r1⟩, List.nodup_cons.mpr ⟨fun m => by have := r3 j m; omega, r2⟩, fun i hi => ?_⟩
    rcases List.mem_cons.mp hi with e | e
    · omega
    · have := r3 i e
      omega
theorem sj_bk {lv' : Int} {a : Int} (hR : ∀ k a L p q, Rw 0 k a L p q → SjR z nm p q) {n k : Nat} {l l0 : List ItZ} {q : Ps} (h0 : l0 <:+ l) (hl : l0.length + 1 ≤ l.length) (h : BkD Rw z lv' a (n, k, l) q) : SjR z nm (n, k, l0) q := by
  obtain ⟨L, t, hr, D⟩ := h
  exact SjR.hd h0 hl (hR _ _ _ _ _ hr) (fun _ _ => sj_no D (by omega) no_x)
theorem sj_st (hM : 0 ≤ M ∧ M < (nm : Int)) : ∀ n a p q, StD N M z n a p q → SjR z nm p q ∧ p.1 < q.1 := by
  intro n
  induction n with
  | zero => exact fun _ _ _ h => absurd h id
  | succ n ih =>
    intro a p q h
    have hR : ∀ k a L p q, RwD (StD N M z n) z (lvN n) 0 k a L p q → SjR z nm p q := fun _ _ _ _ _ h => (sj_row ih h).1
    have ih1 : ∀ a p q, StD N M z n a p q → SjR z nm p q := fun a p q h => (ih a p q h).1
    obtain ⟨t, q1, _, ⟨hlt, _⟩, h, rfl⟩ := h
    have hlt : p.1 < q1.1 := hlt
    have e20 : p.2.2 <:+ (cIy 20 0 0 t :: p.2.2) := List.suffix_cons _ _
    have l20 : p.2.2.length + 1 ≤ (cIy 20 0 0 t :: p.2.2).length := Nat.le_refl _
    refine ⟨SjR.tr (q := q1) ?_ (SjR.c (n := q1.1) (k := q1.2.1) (l := q1.2.2) (List.suffix_cons _ _)), hlt⟩
    have hd : ∀ {m : List ItZ} {k' : Nat} {q : Ps}, (cIy 20 0 0 t :: p.2.2) <:+ m → SjR z nm (p.1 + 1, k', m) q → (q.2.2 <:+ z.2.1 → q.1 ≤ snM z → SjP z nm p.1) → SjR z nm p q := fun {m k' q} h1 g hj => SjR.hd (n := p.1) (k := p.2.1) (l := p.2.2) (e20.trans h1) (by have := sf_le h1; omega) g hj
    rcases h with ⟨m, r, hx, R, rfl⟩ | ⟨m, hv, rfl⟩ | ⟨R, rfl⟩ | ⟨L, hr, R⟩ | ⟨q2, hs, R, rfl⟩ | ⟨m, r, q2, hx, hs, ⟨R, rfl⟩ | ⟨t2, q3, hs2, R, rfl⟩⟩ | ⟨m, r, q2, hx, hs, R, rfl⟩ | ⟨m, r, q2, hs, hx, R, rfl⟩ | ⟨q2, q3, q4, m2, o, g, x, f1, f2, ⟨L, _, f3⟩, hs, R, rfl⟩ | ⟨m, r, L, q2, hx, hr, _, R, rfl⟩ | ⟨q2, q3, q4, o, g, v, B1, B2, B3, _, R, rfl⟩ | ⟨kd, lk, t2, hk, _, R, rfl⟩ | (⟨R, rfl⟩ | ⟨m, r, hx, ⟨R, rfl⟩ | ⟨R, rfl⟩⟩)
    · exact hd (hx.sf.trans (List.suffix_cons _ _)) SjR.rf (fun a _ => sj_no R (by omega) (ex_x hx ((List.suffix_cons _ _).trans a)))
    · exact (SjR.c (n := p.1) (k := p.2.1) (k' := p.2.1) e20).tr (sj_va hv (by omega))
    · exact hd List.suffix_rfl SjR.rf (fun _ _ => sj_no R (by omega) no_x)
    · exact hd List.suffix_rfl (hR _ _ _ _ _ hr) (fun _ _ => sj_no R (by omega) no_x)
    · refine hd (List.suffix_cons _ _) ((ih1 _ _ _ hs).tr (SjR.c (n := q2.1) (k := q2.2.1) (l := q2.2.2) (List.suffix_cons _ _))) (fun _ _ => ?_)
      unfold SjP
      rw [R.kj, R.xj, R.bj]
      exact ⟨no_x, fun _ => by omega, fun e => absurd e (by decide), fun e => absurd e (by decide)⟩
    · have g := ih1 _ _ _ hs
      refine hd (hx.sf.trans (List.suffix_cons _ _)) (g.tr (SjR.c (n := q2.1) (k := q2.2.1) (l := q2.2.2) (List.suffix_cons _ _))) (fun a _ => sj_no R (by omega) (ex_x hx ?_))
      exact (List.suffix_cons _ _).trans (g.1.2.2.trans ((List.suffix_cons _ _).trans a))
    · have g := ih1 _ _ _ hs
      have g2 := ih1 _ _ _ hs2
      refine hd (hx.sf.trans (List.suffix_cons _ _)) ((g.tr (SjR.c (n := q2.1) (k := q2.2.1) (l := q2.2.2) (List.suffix_cons _ _))).tr (g2.tr (SjR.c (n := q3.1) (k := q3.2.1) (l := q3.2.2) (List.suffix_cons _ _)))) (fun a _ => sj_no R (by omega) (ex_x hx ?_))
      exact (List.suffix_cons _ _).trans (g.1.2.2.trans ((List.suffix_cons _ _).trans (g2.1.2.2.trans ((List.suffix_cons _ _).trans a))))
    · have g := ih1 _ _ _ hs
      refine hd (((List.suffix_cons _ _).trans hx.sf).trans (List.suffix_cons _ _)) (g.tr (SjR.c (n := q2.1) (k := q2.2.1) (l := q2.2.2) (List.suffix_cons _ _))) (fun a _ => sj_no R (by omega) (ex_x hx ?_))
      exact (List.suffix_cons _ _).trans (g.1.2.2.trans ((List.suffix_cons _ _).trans a))
    · have g := ih1 _ _ _ hs
      refine hd (List.suffix_cons _ _) (g.tr (SjR.c (n := q2.1) (k := q2.2.1) (l := q2.2.2) (((List.suffix_cons _ _).trans hx.sf).trans (List.suffix_cons _ _)))) (fun a _ => sj_no R (by omega) (ex_x hx ?_))
      exact (List.suffix_cons _ _).trans a
    · have g1 := sj_fi (nm := nm) f1
      have g2 := sj_fx (nm := nm) f3
      have g3 := ih1 _ _ _ hs
      obtain ⟨c1, c2⟩ := sf_fc (z := z) f2
      have w1 : SjR z nm q2 (q2.1, q2.2.1, cIy 34 p.2.1 0 t :: m2) := SjR.c (n := q2.1) (k := q2.2.1) (l := q2.2.2) (((List.suffix_cons _ _).trans c1).trans (List.suffix_cons _ _))
      have w2 : SjR z nm q3 (q3.1, q3.2.1, cIy 35 p.2.1 0 t :: q3.2.2) := SjR.c (n := q3.1) (k := q3.2.1) (l := q3.2.2) (List.suffix_cons _ _)
      have w3 : SjR z nm q4 (q4.1, q4.2.1, cIy 36 p.2.1 0 t :: q4.2.2) := SjR.c (n := q4.1) (k := q4.2.1) (l := q4.2.2) (List.suffix_cons _ _)
      have tail := (g2.tr w2).tr (g3.tr w3)
      refine hd List.suffix_rfl ((g1.tr w1).tr tail) (fun a _ => sj_no R (by omega) (c2 ?_))
      exact (List.suffix_cons _ _).trans (tail.1.2.2.trans a)
    · obtain ⟨r1, r2⟩ := sj_row ih hr
      have w : SjR z nm q2 (q2.1, q2.2.1, cIy 40 p.2.1 0 t :: q2.2.2) := SjR.c (n := q2.1) (k := q2.2.1) (l := q2.2.2) (List.suffix_cons _ _)
      refine hd (hx.sf.trans (List.suffix_cons _ _)) (r1.tr w) (fun a b => ?_)
      unfold SjP
      rw [R.kj, R.xj, R.bj]
      refine ⟨ex_x hx ((List.suffix_cons _ _).trans (r1.1.2.2.trans ((List.suffix_cons _ _).trans a))), fun e => absurd e (by decide), fun _ => ?_, fun e => absurd e (by decide)⟩
      have b : q2.1 ≤ snM z := b
      exact ⟨L, (r2 b).1, (r2 b).2.1⟩
    · have g1 : SjR z nm (p.1 + 1, p.2.1 + 1, cIy 20 0 0 t :: p.2.2) q2 := sj_bk hR (List.suffix_cons _ _) (Nat.le_refl _) B1
      have g2 : SjR z nm q2 q3 := by
        rcases B2 with ⟨_, _, e⟩ | ⟨_, hv, t2, B⟩
        · rw [e]; exact SjR.rf
        · exact sj_bk (n := q2.1) (k := q2.2.1) (l0 := q2.2.2) hR (List.suffix_cons _ _) (Nat.le_refl _) B
      have g3 : SjR z nm q3 q4 := by
        rcases B3 with ⟨_, e⟩ | ⟨_, t2, B⟩
        · rw [e]; exact SjR.rf
        · exact sj_bk (n := q3.1) (k := q3.2.1) (l0 := q3.2.2) hR (List.suffix_cons _ _) (Nat.le_refl _) B
      exact hd List.suffix_rfl (((g1.tr g2).tr g3).tr (SjR.c (n := q4.1) (k := q4.2.1) (l := q4.2.2) (List.suffix_cons _ _))) (fun _ _ => sj_no R (by omega) no_x)
    · exact hd (List.suffix_cons _ _) SjR.rf (fun _ _ => sj_no R (by omega) no_x)
    · refine hd (List.suffix_cons _ _) SjR.rf (fun _ _ => ?_)
      unfold SjP
      rw [R.kj, R.xj, R.lj]
      exact ⟨no_x, fun e => absurd e (by decide), fun e => absurd e (by decide), fun _ => hM⟩
    · refine hd (hx.sf.trans (List.suffix_cons _ _)) SjR.rf (fun a _ => ?_)
      unfold SjP
      rw [R.kj, R.xj, R.lj]
      exact ⟨ex_x hx ((List.suffix_cons _ _).trans a), fun e => absurd e (by decide), fun e => absurd e (by decide), fun _ => hM⟩
    · exact hd (hx.sf.trans (List.suffix_cons _ _)) SjR.rf (fun a _ => sj_no R (by omega) (ex_x hx ((List.suffix_cons _ _).trans a)))
theorem sj_pr : ∀ (L : List Nat) (M : Nat) (p q : Ps), PrD N z L M p q → M + L.length ≤ nm → SjR z nm p q := by
  intro L
  induction L with
  | nil => intro M p q h _; rw [show q = p from h]; exact SjR.rf
  | cons j L ih =>
    intro M p q ⟨_, p1, ⟨q1, t, B, e⟩, h2⟩ hm
    rw [List.length_cons] at hm
    have g := ih (M + 1) p1 q h2 (by omega)
    obtain ⟨L', t2, hr, D⟩ := B
    have hr : SjR z nm (p.1 + 1, p.2.1 + 1, p.2.2) q1 := (sj_row (sj_st (M := (M : Int)) ⟨by omega, by omega⟩ 20) hr).1
    obtain ⟨⟨a1, a2, a3⟩, a4⟩ := hr
    have a1 : p.1 + 1 ≤ q1.1 := a1
    have a2 : q1.1 + p.2.2.length ≤ p.1 + 1 + q1.2.2.length := a2
    refine SjR.tr (q := p1) ?_ g
    rw [e]
    refine ⟨⟨by show p.1 ≤ q1.1; omega, by show q1.1 + p.2.2.length ≤ p.1 + (q1.2.2.length + 1); omega, a3.trans (List.suffix_cons _ _)⟩, fun u v i b c => ?_⟩
    have c : i < q1.1 := c
    by_cases ei : i = p.1
    · rw [ei]
      exact sj_no D (by omega) no_x
    · exact a4 ((List.suffix_cons _ _).trans u) v i (by show p.1 + 1 ≤ i; omega) c
theorem sj_all {L : List Nat} (h : PrD N z L 0 (0, 0, []) (psM z)) (hL : L.length = nm) : snM z ≤ z.2.1.length ∧ ∀ j, j < snM z → SjP z nm j := by
  obtain ⟨⟨_, a, _⟩, b⟩ := sj_pr (nm := nm) L 0 (0, 0, []) (psM z) h (by omega)
  have a : snM z + 0 ≤ 0 + z.2.1.length := a
  exact ⟨by omega, fun j hj => b List.suffix_rfl (Nat.le_refl _) j (Nat.zero_le _) hj⟩
end

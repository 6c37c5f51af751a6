/-! the reference's flow: rows of S's, cases; switch -/
section
variable {σ τ Y W : RS} {C : CxT} {z : ZS} {T : TbT} {l l' l'' m : List ItZ} {k j lo mid hi b : Nat} {M : Int32} {A : Prop} {u v : Int64} {N : Int → Int} {ms : MfT} {lv a t e : Int} {r : XrZ} {St : SsT} {R S : ReG}
theorem OutF.tr (hT : TkI z) (hz : hi ≤ snM z) (h1 : lo ≤ mid) (h2 : mid ≤ hi) (n1 : l.length ≤ l'.length) (n2 : l'.length ≤ l''.length) (h : OutF τ C z T M lo mid b l l' σ R Y) (g : OutF τ C z T M mid hi b l' l'' Y S W) : OutF τ C z T M lo hi b l l'' σ (apG R S) W := by
  obtain ⟨a1, a2, a3, a4, a5⟩ := h
  obtain ⟨b1, b2, b3, b4, b5⟩ := g
  exact ⟨b1, b2, (a3.wd (Int.le_refl _) (by omega)).ap (b3.wd (by omega) (Int.le_refl _)), a4.tr b4, a5.tr hT hz h1 h2 b5⟩
theorem OutF.pre (q : NxT k σ Y) (hb : b ≤ k) (h1 : lo ≤ mid) (n1 : l.length ≤ l'.length) (g : OutF τ C z T M mid hi b l' l'' Y S W) : OutF τ C z T M lo hi b l l'' σ S W := by
  obtain ⟨b1, b2, b3, b4, b5⟩ := g
  rw [q.2.1] at b3
  exact ⟨b1, b2, b3.wd (by omega) (Int.le_refl _), (q.1.fz.mo hb).tr b4, (b5.qb q.1).wd h1 (Nat.le_refl _)⟩
theorem OutF.nil (h : BgF τ C z T M lo l σ) {al : Bool} {mm : Int64} (hw : Bw σ (al = true) mm mm) : OutF τ C z T M lo lo b l l σ (al, mm, [], []) σ := ⟨h, hw, JsH.rf, FzT.rf, LgF.sa (fun _ => ⟨rfl, rfl, rfl⟩)⟩
theorem OutF.mo {c : Nat} (h : OutF τ C z T M lo hi b l l' σ R Y) (q : c ≤ b) : OutF τ C z T M lo hi c l l' σ R Y := ⟨h.1, h.2.1, h.2.2.1, h.2.2.2.1.mo q, h.2.2.2.2⟩
/-- rows of S's -/
theorem fw_row (H : GxF N C z T ms) (hP : ∀ a p q, St a p q → PgD (-1) p q ∧ p.1 < q.1) (hS : FwSo τ C N z T (StX z St)) : FwRo τ C N z T (RwD (StX z St) z lv) := by
  intro a L
  induction L with
  | nil =>
    intro p q h hz hq f M σ al mm hf ha hB hw
    rw [show q = p from h, show hdI [] = -1 from rfl, d_r0 (by decide)]
    exact Or.inr ⟨_, σ, rfl, OutF.nil hB hw⟩
  | cons j L ih =>
    intro p q ⟨e1, e2, p1, h1, h2⟩ hz hq f M σ al mm hf ha hB hw
    subst e1
    rcases h1 with ⟨es, _⟩ | h1
    · exact absurd es (by decide)
    obtain ⟨g, g1⟩ := hP _ _ _ h1.1.1
    have hP' : ∀ a p q, StX z St a p q → PgD (-1) p q ∧ p.1 < q.1 := fun a p q h => hP a p q h.1.1
    obtain ⟨i1, i2, i3⟩ := rw_ta hP' _ _ _ h2
    obtain ⟨f, rfl⟩ : ∃ k, f = k + 1 := ⟨f - 1, by omega⟩
    rw [show hdI (p.1 :: L) = (p.1 : Int) from rfl, d_r1, e2]
    rcases hS _ _ _ h1 f M σ al mm (by omega) ha hB hw with ⟨c1, c2⟩ | ⟨R, Y, c1, c2⟩
    · exact Or.inl ⟨c1, by rw [c2]; rfl⟩
    rw [c1, Option.bind_some]
    rcases ih _ _ h2 hz hq f M Y R.1 R.2.1 (by omega) (by omega) c2.1 c2.2.1 with ⟨d1, d2⟩ | ⟨S, W, d1, d2⟩
    · exact Or.inl ⟨d1, by rw [d2]; rfl⟩
    · exact Or.inr ⟨apG R S, W, by rw [d1]; rfl, OutF.tr H.2.2.2.1 hz (by omega) i2 g.sf.length_le i1.1.length_le c2 (d2.mo g.2.1)⟩
/-- a case, a default -/
theorem cs_go (H : GxF N C z T ms) (hok : AlB (okS C N T) [] z.2.1) (hl0 : 0 ≤ lv) {p p1 : Ps} (h : CsD z lv k a p p1) (hq : p1.2.2 <:+ z.2.1) (hA : AtF τ C z T M p.2.2 σ) (hh : HdR p.2.2) (hw : Bw σ A u u) : ∃ Y, AtF τ C z T M p1.2.2 Y ∧ Bw Y True (u &&& aL σ 96 k) (u &&& aL σ 96 k) ∧ NxT k σ Y ∧ aL Y 96 k = aL σ 96 k ∧ HdR p1.2.2 ∧ p.2.2.length ≤ p1.2.2.length ∧ (kjS z p.1 = 62 ∨ kjS z p.1 = 63) ∧ ∀ d : Bool, (0 ≤ dfZ (k : Int) p.2.2 ↔ d = true) → (0 ≤ dfZ (k : Int) p1.2.2 ↔ (d || decide (kjS z p.1 = 63)) = true) := by
  rcases h with ⟨t, m, r, D, hx, rfl⟩ | ⟨t, D, rfl⟩
  · have hm : m <:+ z.2.1 := (List.suffix_cons _ _).trans hq
    have o := (hok (38, (k : Int), (m.length : Int) - 1, t, (xcZ m : Int) - 1) m hq (Nat.zero_le _)).2.2.2.1 rfl
    have oc : ¬ (T.1 (xcZ m - 1)).2.1 = 0 := by
      have := o.1.1
      unfold opT at this
      rw [hx.nn.1] at this
      exact this
    obtain ⟨e, x1, x2⟩ := cst_ex H.1.1 hx hl0 hh hm oc u
    rcases ex_go H hA hh hx hl0 hm hw k with ⟨_, c2⟩ | ⟨Y, e', y1, A1, w1, n1, ra⟩
    · have c2 : exD z T ((xcZ m : Int) - 1) u = none := c2
      rw [x1] at c2
      cases c2
    · rw [x1] at y1
      cases y1
      obtain ⟨Y2, r2, w2, n2, s2⟩ := go_38 A1.2.1.1 hq A1.1.1 A1.1.2 w1
      have r9 := (ra k).2.1
      rw [x2, r9] at w2
      rw [r9] at s2
      have lx := hx.sf.length_le
      have dq : dfZ (k : Int) (cEy 38 k ((m.length : Int) - 1) t m :: m) = dfZ (k : Int) p.2.2 := by
        show (if (38 : Int) = 39 ∧ (k : Int) = (k : Int) then _ else dfZ (k : Int) m) = _
        rw [if_neg (fun q => absurd q.1 (by decide))]
        exact (pq_ta (a := 0) (ta_xs (P := fun _ => False) hx.xs) id).2
      refine ⟨Y2, A1.mv r2 n2.1.1 n2.2.2 (Nat.le_succ _), w2, n1.tr n2, s2, hd_r, by rw [List.length_cons]; omega, Or.inl D.kj, fun d hd => ?_⟩
      show 0 ≤ dfZ (k : Int) (cEy 38 k ((m.length : Int) - 1) t m :: m) ↔ _
      rw [dq, hd, decide_eq_false (by have := D.kj; omega), Bool.or_false]
  · obtain ⟨Y2, r2, w2, n2, s2⟩ := go_39 hA.2.1.1 hq hA.1.1 hA.1.2 hw
    rw [an_id] at w2
    refine ⟨Y2, hA.mv r2 n2.1.1 n2.2.2 (Nat.le_succ _), w2, n2, s2, hd_r, by rw [List.length_cons]; omega, Or.inr D.kj, fun d hd => ?_⟩
    rw [decide_eq_true D.kj, Bool.or_true]
    refine iff_of_true ?_ rfl
    show 0 ≤ (if (39 : Int) = 39 ∧ (k : Int) = (k : Int) then (p.2.2.length : Int) else _)
    rw [if_pos ⟨rfl, rfl⟩]
    omega
/-- rows of a switch -/
theorem fw_rows (H : GxF N C z T ms) (hok : AlB (okS C N T) [] z.2.1) (hl0 : 0 ≤ lv) (hP : ∀ a p q, St a p q → PgD (-1) p q ∧ p.1 < q.1) (hkd : ∀ a p q, St a p q → ¬ kjS z p.1 = 62 ∧ ¬ kjS z p.1 = 63) (hS : FwSo τ C N z T (StX z St)) : FwRs τ C N z T (RwD (StX z St) z lv) := by
  intro k a L
  induction L with
  | nil =>
    intro p q h hk hz hq f M σ al d mm hf ha hB hw hd
    rw [show q = p from h, show hdI [] = -1 from rfl, d_s0 (by decide)]
    exact Or.inr ⟨_, σ, rfl, OutF.nil hB hw, rfl, hd⟩
  | cons j L ih =>
    intro p q ⟨e1, e2, p1, h1, h2⟩ hk hz hq f M σ al d mm hf ha hB hw hd
    subst e1
    have hP' : ∀ a p q, StX z St a p q → PgD (-1) p q ∧ p.1 < q.1 := fun a p q h => hP a p q h.1.1
    obtain ⟨i1, i2, i3⟩ := rw_ta hP' _ _ _ h2
    have hq1 : p1.2.2 <:+ z.2.1 := i1.1.trans hq
    rcases h1 with ⟨_, h1⟩ | h1
    · have c0 := (cs_ta (P := fun _ => True) h1 trivial).2
      obtain ⟨f, rfl⟩ : ∃ k, f = k + 1 := ⟨f - 1, by omega⟩
      obtain ⟨Y, A1, w1, n1, s1, hd1, ln, kd, dd⟩ := cs_go H hok hl0 h1 hq1 hB.1 hB.2.1 hw
      rw [show hdI (p.1 :: L) = (p.1 : Int) from rfl, d_s1 kd, e2]
      have B1 := hB.mv (lo' := p1.1) A1 n1 hd1 ln (by omega)
      rcases ih _ _ h2 (by omega) hz hq f M Y true (d || decide (kjS z p.1 = 63)) (mm &&& aL σ 96 k) (by omega) (by omega) B1 (w1.cg (iff_of_true trivial rfl)) (dd d hd) with ⟨d1, d2⟩ | ⟨S, W, d1, d2, d3, d4⟩
      · rw [s1] at d2
        exact Or.inl ⟨d1, d2⟩
      · rw [s1] at d1 d3
        exact Or.inr ⟨S, W, d1, OutF.pre n1 (Nat.le_refl _) (by omega) ln d2, d3, d4⟩
    · obtain ⟨g, g1⟩ := hP _ _ _ h1.1.1
      have kd := hkd _ _ _ h1.1.1
      obtain ⟨f, rfl⟩ : ∃ k, f = k + 1 := ⟨f - 1, by omega⟩
      rw [show hdI (p.1 :: L) = (p.1 : Int) from rfl, d_s2 (by omega), e2]
      rcases hS _ _ _ h1 f M σ al mm (by omega) ha hB hw with ⟨c1, c2⟩ | ⟨R, Y, c1, c2⟩
      · exact Or.inl ⟨c1, by rw [c2]; rfl⟩
      rw [c1, Option.bind_some]
      have s1 : aL Y 96 k = aL σ 96 k := (c2.2.2.2.1.2 k hk).2.1
      have dq : dfZ (k : Int) p1.2.2 = dfZ (k : Int) p.2.2 := (pq_ta (a := 0) (TaB.pg (P := fun x => ¬ x = (k : Int)) TaB.rf g (fun x c1 c2 => by omega) (by omega)) (fun q => q rfl)).2
      have g2 := g.2.1
      rcases ih _ _ h2 (by omega) hz hq f M Y R.1 d R.2.1 (by omega) (by omega) c2.1 c2.2.1 (by rw [dq]; exact hd) with ⟨d1, d2⟩ | ⟨S, W, d1, d2, d3, d4⟩
      · rw [s1] at d2
        exact Or.inl ⟨d1, by rw [d2]; rfl⟩
      · rw [s1] at d1 d3
        exact Or.inr ⟨(S.1, apG R S.2), W, by rw [d1]; rfl, OutF.tr H.2.2.2.1 hz (by omega) i2 g.sf.length_le i1.1.length_le (c2.mo (by omega)) d2, d3, d4⟩
/-- switch -/
theorem fw_sw (H : GxF N C z T ms) (hok : AlB (okS C N T) [] z.2.1) {Lr : List Nat} {q1 : Ps} {t1 t2 b1 b2 : Int} {lv' : Int} (hP : ∀ a p q, St a p q → PgD (-1) p q ∧ p.1 < q.1) (hkd : ∀ a p q, St a p q → ¬ kjS z p.1 = 62 ∧ ¬ kjS z p.1 = 63) (hS : FwSo τ C N z T (StX z St)) (hx : ExX lv l m r) (hl0 : 0 ≤ lv) (hl1 : 0 ≤ lv') (hr : RwD (StX z St) z lv' 1 k j Lr (j + 1, k + 1, cEy 37 k b1 t1 m :: m) q1) (h62 : ∀ i L', Lr = i :: L' → kjS z i = 62 ∨ kjS z i = 63) (hm : (cIy 40 k b2 t2 :: q1.2.2) <:+ z.2.1) (hk : kjS z j = 61) (hb : bjS z j = hdI Lr) (xj : xjS z j = (xcZ m : Int) - 1) (hj : j < snM z) (hz : q1.1 ≤ snM z) (hth : thS z j = (k : Int)) (hd0 : dfZ (k : Int) l = -2) (hdz : dfZ (k : Int) z.2.1 = dfZ (k : Int) q1.2.2) : FwI τ C N z T j q1.1 k l (cIy 40 k b2 t2 :: q1.2.2) := by
  intro f M σ mm hf hB hO hw
  rw [i_61 hk]
  unfold swD'
  rw [xj, hb]
  have hq : q1.2.2 <:+ z.2.1 := (List.suffix_cons _ _).trans hm
  have hP' : ∀ a p q, StX z St a p q → PgD (-1) p q ∧ p.1 < q.1 := fun a p q h => hP a p q h.1.1
  obtain ⟨ta, lt, _⟩ := rw_ta hP' _ _ _ hr
  have lt : j + 1 ≤ q1.1 := lt
  have sf : (cEy 37 k b1 t1 m :: m) <:+ q1.2.2 := ta.1
  have hm1 : m <:+ z.2.1 := (List.suffix_cons _ _).trans (sf.trans hq)
  have A0 := hB.1
  have ln := sf.length_le
  rw [List.length_cons] at ln
  have lx := hx.sf.length_le
  rcases ex_go H A0 hB.2.1 hx hl0 hm1 hw k with ⟨c1, c2⟩ | ⟨Y1, e, e1, A1, w1, n1, _⟩
  · exact Or.inl ⟨c1, by rw [c2]; rfl⟩
  obtain ⟨Y2, r2, w2, n2, s2⟩ := go_37 (k := k) A1.2.1.1 (sf.trans hq) A1.1.1 A1.1.2 w1
  have A2 := A1.mv (l' := cEy 37 k b1 t1 m :: m) r2 n2.1.1 n2.2.2 (Nat.le_succ _)
  have n12 := n1.tr n2
  have B2 := hB.mv (lo' := j + 1) A2 n12 hd_r (by rw [List.length_cons]; omega) (Nat.le_refl _)
  rw [e1, Option.bind_some]
  have dq : dfZ (k : Int) (cEy 37 k b1 t1 m :: m) = dfZ (k : Int) l := by
    show (if (37 : Int) = 39 ∧ (k : Int) = (k : Int) then _ else dfZ (k : Int) m) = _
    rw [if_neg (fun q => absurd q.1 (by decide))]
    exact (pq_ta (a := 0) (ta_xs (P := fun _ => False) hx.xs) id).2
  have d0 : ¬ 0 ≤ dfZ (k : Int) (cEy 37 k b1 t1 m :: m) := by rw [dq, hd0]; decide
  have CH : CmH z j k := ⟨H.2.2.1, hj, by unfold OwK; omega, hth⟩
  -- the rows: either nothing, or they begin with a case
  have rows : (BdF τ ∧ (dF N z T f).2.1 (hdI Lr) (e.1 &&& e.2) false allB false = none) ∨ ∃ Q Y3, (dF N z T f).2.1 (hdI Lr) (e.1 &&& e.2) false allB false = some Q ∧ AtF τ C z T M q1.2.2 Y3 ∧ (∃ A u, Bw Y3 A u u ∧ (u &&& (if Q.1 = true then allB else e.1 &&& e.2)) = (if Q.1 = true then Q.2.2.1 else Q.2.2.1 &&& (e.1 &&& e.2)) ∧ ((A ∨ ¬ Q.1 = true) ↔ (Q.2.1 || !Q.1) = true)) ∧ JsH z (l.length : Int) (q1.2.2.length : Int) (jnS σ) Y3 Q.2.2.2.1 ∧ FzT k σ Y3 ∧ LgF z (j + 1) q1.1 σ Y3 Q.2.2.2.2 ∧ aL Y3 96 k = e.1 &&& e.2 ∧ (0 ≤ dfZ (k : Int) q1.2.2 ↔ Q.1 = true) := by
    cases Lr with
    | nil =>
      have hr : q1 = (j + 1, k + 1, cEy 37 k b1 t1 m :: m) := hr
      rw [show hdI [] = -1 from rfl, d_s0 (by decide)]
      subst hr
      refine Or.inr ⟨(false, false, allB, [], []), Y2, rfl, A2, ⟨True, _, w2, ?_, ?_⟩, ?_, n12.1.fz, n12.1.lf, s2, iff_of_false d0 (by decide)⟩
      · show (e.1 &&& e.2) &&& (if false = true then allB else e.1 &&& e.2) = (if false = true then allB else allB &&& (e.1 &&& e.2))
        rw [if_neg (by decide), if_neg (by decide), an_id, al_an]
      · exact iff_of_true (Or.inl trivial) rfl
      · exact JsH.rf.q n12.2.1
    | cons i Lr =>
      obtain ⟨i1, i2, p1, h1, h2⟩ := hr
      have i1 : i = j + 1 := i1
      subst i1
      have kd := h62 _ _ rfl
      have h1 : CsD z lv' k (j : Int) (j + 1, k + 1, cEy 37 k b1 t1 m :: m) p1 := by
        rcases h1 with ⟨_, h1⟩ | h1
        · exact h1
        · have := hkd _ _ _ h1.1.1
          have this : ¬ kjS z (j + 1) = 62 ∧ ¬ kjS z (j + 1) = 63 := this
          omega
      obtain ⟨ta2, lt2, _⟩ := rw_ta hP' _ _ _ h2
      have c0 := (cs_ta (P := fun _ => True) h1 trivial).2
      have c1 : p1.1 = j + 1 + 1 := c0.1
      have c2 : p1.2.1 = k + 1 := c0.2
      obtain ⟨Y, A3, w3, n3, s3, hd3, ln3, _, dd⟩ := cs_go H hok hl1 h1 (ta2.1.trans hq) A2 hd_r w2
      have dd := dd false (iff_of_false d0 (by decide))
      rw [s2, an_id] at w3
      rw [s2] at s3
      have B3 := B2.mv (lo' := p1.1) A3 n3 hd3 ln3 (by omega)
      obtain ⟨f, rfl⟩ : ∃ k, f = k + 1 := ⟨f - 1, by omega⟩
      rw [show hdI ((j + 1) :: Lr) = ((j + 1 : Nat) : Int) from rfl, d_s1 kd, i2, al_an]
      rcases fw_rows H hok hl1 hP hkd hS k j Lr _ _ h2 (by omega) hz hq f M Y true (false || decide (kjS z (j + 1) = 63)) (e.1 &&& e.2) (by omega) (by omega) B3 (w3.cg (iff_of_true trivial rfl)) dd with ⟨d1, d2⟩ | ⟨Q, W, d1, d2, d3, d4⟩
      · rw [s3] at d2
        exact Or.inl ⟨d1, d2⟩
      · rw [s3] at d1 d3
        have ln3 : m.length + 1 ≤ p1.2.2.length := by have := ln3; rw [List.length_cons] at this; exact this
        obtain ⟨D1, D2, D3, D4, D5⟩ := OutF.pre (lo := j + 1) (l := l) (n12.tr n3) (Nat.le_refl _) (by omega) (by omega) d2
        refine Or.inr ⟨Q, W, d1, D1.1, ⟨_, _, D2, ?_, ?_⟩, D3, D4, D5, d3, d4⟩
        · by_cases c : Q.1 = true
          · rw [if_pos c, if_pos c, an_al]
          · rw [if_neg c, if_neg c]
        · rw [or_tt, Bool.not_eq_true']
          exact or_congr Iff.rfl (by cases Q.1 <;> decide)
  rcases rows with ⟨c1, c2⟩ | ⟨Q, Y3, e3, A3, ⟨A, u, w3, bb, aa⟩, J3, F3, G3, s3, d3⟩
  · exact Or.inl ⟨c1, by rw [c2]; rfl⟩
  obtain ⟨Y4, r4, w4, f4, J4⟩ := go_40 A3.2.1.1 hm A3.1.1 A3.1.2 w3 CH hO J3
  have h59 : 0 ≤ aI Y3 59 k ↔ Q.1 = true := by
    have kt := (A3.2.1.2.2.2 (40, (k : Int), b2, t2, -1) q1.2.2 hm (show thO 40 = true by decide)).1.2
    have kt : (k : Int) < (tnM z : Int) := kt
    rw [le0_i, A3.2.1.2.2.1 k (by omega), hdz]
    exact d3
  have fin : (u &&& u &&& cmB (j : Int) false Q.2.2.2.1) &&& (if 0 ≤ aI Y3 59 k then allB else aL Y3 96 k) = (if Q.1 = true then Q.2.2.1 else Q.2.2.1 &&& (e.1 &&& e.2)) &&& cmB (j : Int) false Q.2.2.2.1 := by
    rw [an_id, ifc h59, s3, an_as, an_co (a := cmB (j : Int) false Q.2.2.2.1), ← an_as, bb]
  rw [fin] at w4
  refine Or.inr ⟨((Q.2.1 || !Q.1) || cmA (j : Int) false Q.2.2.2.1, (if Q.1 = true then Q.2.2.1 else Q.2.2.1 &&& (e.1 &&& e.2)) &&& cmB (j : Int) false Q.2.2.2.1, cmR (j : Int) false Q.2.2.2.1, Q.2.2.2.2), Y4, by rw [e3]; rfl, A3.mv r4 f4.1.1 f4.2 (Nat.le_succ _), w4.cg ?_, J4.jk.wd (Int.le_refl _) (by rw [List.length_cons]; omega), F3.q f4.1 (Nat.le_refl _), G3.q f4.1⟩
  rw [h59, aa]
  exact or_tt.symm
end

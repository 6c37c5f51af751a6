/-! the reference's flow: blocks, NAMES:, if, while, do -/
section
variable {i k : Int} {o on : Bool}
theorem cmB_ne {J : List JmZ} (h : ¬ (i = k ∧ o = on)) : cmB i o (cmR k on J) = cmB i o J := by
  induction J with
  | nil => rfl
  | cons x J ih =>
    show cmB i o (if x.1 = k ∧ x.2.1 = on then cmR k on J else x :: cmR k on J) = (if x.1 = i ∧ x.2.1 = o then x.2.2.2 &&& cmB i o J else cmB i o J)
    by_cases c : x.1 = k ∧ x.2.1 = on
    · rw [if_pos c, ih, if_neg (fun q => h ⟨q.1.symm.trans c.1, q.2.symm.trans c.2⟩)]
    · rw [if_neg c]
      show (if x.1 = i ∧ x.2.1 = o then x.2.2.2 &&& cmB i o (cmR k on J) else cmB i o (cmR k on J)) = _
      rw [ih]
end
section
variable {σ τ Y W : RS} {C : CxT} {z : ZS} {T : TbT} {l l' m L : List ItZ} {k j lo mid hi b : Nat} {M : Int32} {A : Prop} {u v : Int64} {N : Int → Int} {ms : MfT} {lv a t e : Int} {r : XrZ} {St : SsT} {Rw : RsT} {J0 : List JfZ} {J : List JmZ} {c0 c1 : Int}
theorem jtr_ar {y : Int × Int × Int × Int × Int} : ∀ {L : List ItZ}, JtR σ T L → (.inr y :: l) <:+ L → keR σ T l.length y := by
  intro L
  induction L with
  | nil => intro _ h; exact absurd (List.eq_nil_of_suffix_nil h) (by intro q; cases q)
  | cons w L ih =>
    intro h hs
    have h2 : JtR σ T L := by
      cases w with
      | inl x => exact h.2
      | inr y => exact h.2
    rcases List.suffix_cons_iff.mp hs with e | e
    · obtain ⟨e1, e2⟩ := List.cons.inj e
      subst e1
      subst e2
      exact h.1.2
    · exact ih h2 e
/-- a condition: whether it is always, never true -/
theorem al_v (H : GxF N C z T ms) (E : EnF σ C z T) {o a b t : Int} {l0 : List ItZ} (hx : ExX lv l0 m r) (hs : (cEy o a b t m :: m) <:+ z.2.1) (ho : o = 27 ∨ o = 31 ∨ (o = 33 ∧ ¬ b = 0)) (xj : xjS z j = (xcZ m : Int) - 1) (hk : kjS z j = 58 ∨ kjS z j = 59 ∨ kjS z j = 60) (hj : j < snM z) : (alR σ (plI m) = 0 ↔ (!(alwT z T j 1)) = true) ∧ (neR σ (plI m) = 0 ↔ (!(alwT z T j 0)) = true) := by
  have hm : m <:+ z.2.1 := (List.suffix_cons _ _).trans hs
  obtain ⟨n1, n2, _, n4⟩ := hx.nn
  have at' := hx.at hm
  have xr : xth z (xcZ m - 1) = r := at'
  have xm := xc_sf hm
  have xm : xcZ m ≤ xnM z := xm
  obtain ⟨m1, _, _, ⟨_, r0, r1⟩, _⟩ := id hx
  have va := H.1.1.1.2 (xcZ m - 1) (by omega) (by rw [xr]; exact r1)
  have sk := (skk_cd (by omega)).mp (H.1.2 j hj) (by rw [xj]; exact n2)
  rw [xj, n1] at sk
  have ke := jtr_ar (y := (o, a, b, t, (xcZ m : Int) - 1)) E.1.2.1 hs
  have ko : o = 23 ∨ o = 27 ∨ o = 31 ∨ (o = 33 ∧ ¬ b = 0) := by omega
  obtain ⟨k1, k2⟩ := ke.1 ko
  have k1 : ¬ aI σ 84 m.length = 0 ↔ ((T.1 ((xcZ m : Int) - 1).toNat).1 = 0 ∧ ¬ (T.1 ((xcZ m : Int) - 1).toNat).2.1 = 0) := k1
  have k2 : ¬ (T.1 ((xcZ m : Int) - 1).toNat).2.1 = 0 → aL σ 85 m.length = (T.1 ((xcZ m : Int) - 1).toNat).2.2.1 := k2
  rw [n1] at k1 k2
  have pn := (pl_lt E.1 hs).2.2
  have ew : ∀ v, alwT z T j v = (decide (¬ (T.1 (xcZ m - 1)).2.1 = 0) && decide ((T.1 (xcZ m - 1)).2.2.1 = (Int32.ofInt v).toInt64)) := fun v => by
    unfold alwT
    rw [if_neg (by rw [xj]; omega), xj, n1]
  have i1 : (Int32.ofInt 1).toInt64 = 1 := by decide
  have i0 : (Int32.ofInt 0).toInt64 = 0 := by decide
  unfold alR neR
  rw [pn, ew, ew, i1, i0]
  by_cases c : (T.1 (xcZ m - 1)).2.1 = 0
  · have e0 : aI σ 84 m.length = 0 := by
      by_cases d : aI σ 84 m.length = 0
      · exact d
      · exact absurd c (k1.mp d).2
    rw [if_neg (fun q => q.1 e0), if_neg (fun q => q.1 e0), decide_eq_false (fun q => q c), Bool.false_and, Bool.false_and]
    exact ⟨iff_of_true rfl rfl, iff_of_true rfl rfl⟩
  · have e0 := k1.mpr ⟨sk, c⟩
    rw [k2 c, decide_eq_true c, Bool.true_and, Bool.true_and]
    rcases (va.2 c).2 sk with q | q
    · rw [q, if_neg (fun w => w.2 rfl), if_pos ⟨e0, rfl⟩]
      exact ⟨iff_of_true rfl rfl, iff_of_false (fun w => by cases w) (fun w => by cases w)⟩
    · rw [q, if_pos ⟨e0, by decide⟩, if_neg (fun w => absurd w.2 (by decide))]
      exact ⟨iff_of_false (fun w => by cases w) (fun w => by cases w), iff_of_true rfl rfl⟩
theorem OutF.i {b' : Nat} {R : ReG} (h : OutF τ C z T M lo hi b l l' σ R Y) (q : b' ≤ b) : OutI τ C z T M lo hi b' l l' σ R Y := ⟨h.1.1, h.2.1, h.2.2.1.jk, h.2.2.2.1.mo q, h.2.2.2.2⟩
theorem en_pq (E : EnF σ C z T) {a : Nat} {y : Int × Int × Int × Int × Int} (hs : (.inr y :: l) <:+ z.2.1) (hy : y.2.1 = (k : Int)) (ho : thO y.1 = true) (h1 : 52 ≤ a) (h2 : a ≤ 58) : (aI σ a k).toInt = pqZ a (k : Int) z.2.1 := E.2.1 a h1 h2 k (by have := (E.2.2.2 y l hs ho).1; omega)
theorem lt0_i {v : Int32} : v < 0 ↔ v.toInt < 0 := ⟨fun h => Int32.lt_iff_toInt_lt.mp h, fun h => Int32.lt_iff_toInt_lt.mpr h⟩
theorem le0_i {v : Int32} : 0 ≤ v ↔ 0 ≤ v.toInt := ⟨fun h => Int32.le_iff_toInt_le.mp h, fun h => Int32.le_iff_toInt_le.mpr h⟩
theorem or_tt {a b : Bool} : (a || b) = true ↔ a = true ∨ b = true := by cases a <;> cases b <;> decide
/-- a block -/
theorem fw_bl (hR : FwRo τ C N z T Rw) {q : Ps} {Lr : List Nat} (hr : Rw 0 0 j Lr (j + 1, k + 1, l) q) (hk : kjS z j = 2) (hb : bjS z j = hdI Lr) (hz : q.1 ≤ snM z) (hq : q.2.2 <:+ z.2.1) : FwI τ C N z T j q.1 k l q.2.2 := by
  intro f M σ mm hf hB hO hw
  rw [i_2 hk]
  unfold rwD'
  rw [hb]
  rcases hR j Lr _ _ hr hz hq f M σ true mm (by show 2 * (q.1 - (j + 1)) ≤ f; omega) (by show (j : Int) < ((j + 1 : Nat) : Int); omega) hB (hw.cg (iff_of_true trivial rfl)) with c | ⟨R, Y, e, h⟩
  · exact Or.inl c
  · exact Or.inr ⟨R, Y, e, h.i (Nat.le_succ _)⟩
/-- NAME: -/
theorem fw_la (H : GxF N C z T ms) (hS : FwSo τ C N z T St) {q1 : Ps} {t1 t2 b1 b2 : Int} (hs : St j (j + 1, k + 1, cIy 41 k b1 t1 :: l) q1) (hm : (cIy 42 k b2 t2 :: q1.2.2) <:+ z.2.1) (sf : (cIy 41 k b1 t1 :: l) <:+ q1.2.2) (hk : kjS z j = 6) (hb : bjS z j = ((j + 1 : Nat) : Int)) (hj : j < snM z) (hth : thS z j = (k : Int)) : FwI τ C N z T j q1.1 k l (cIy 42 k b2 t2 :: q1.2.2) := by
  intro f M σ mm hf hB hO hw
  rw [i_6 hk]
  unfold laD'
  rw [bdD_e hb]
  have hq : q1.2.2 <:+ z.2.1 := (List.suffix_cons _ _).trans hm
  have A0 := hB.1
  have ln := sf.length_le
  rw [List.length_cons] at ln
  obtain ⟨Y1, r1, b1, w1, n1, _⟩ := go_no (k := k) A0.2.1.1 (sf.trans hq) A0.1.1 A0.1.2 (by show (41 : Int) = 26 ∨ (41 : Int) = 29 ∨ (41 : Int) = 32 ∨ (41 : Int) = 34 ∨ (41 : Int) = 41; decide) hw
  have B1 := hB.mv (lo' := j + 1) (A0.mv ⟨r1, b1⟩ n1.1.1 n1.2.2 (Nat.le_succ _)) n1 hd_r (Nat.le_succ _) (Nat.le_refl _)
  rcases hS _ _ _ hs f M Y1 true mm (by show 2 * (q1.1 - (j + 1)) ≤ f + 1; omega) (by show (j : Int) < ((j + 1 : Nat) : Int); omega) B1 (w1.cg (iff_of_true trivial rfl)) with ⟨c1, c2⟩ | ⟨R, Y2, e, B2, w2, J2, F2, G2⟩
  · have c2 : (dF N z T f).2.2 (j + 1) true mm = none := c2
    exact Or.inl ⟨c1, by rw [c2]; rfl⟩
  · have e : (dF N z T f).2.2 (j + 1) true mm = some R := e
    have A2 := B2.1
    have J2' : JsH z (l.length : Int) (q1.2.2.length : Int) (jnS σ) Y2 R.2.2.1 := by
      rw [n1.2.1] at J2
      exact J2.wd (by show (l.length : Int) ≤ (((cIy 41 k _ t1 :: l).length : Nat) : Int); rw [List.length_cons]; omega) (Int.le_refl _)
    obtain ⟨Y3, r3, w3, f3, J3⟩ := go_42 A2.2.1.1 hm A2.1.1 A2.1.2 w2 ⟨H.2.2.1, hj, Or.inr (Or.inl hk), hth⟩ hO J2'
    rw [an_id] at w3
    refine Or.inr ⟨(R.1 || cmA (j : Int) false R.2.2.1, R.2.1 &&& cmB (j : Int) false R.2.2.1, cmR (j : Int) false R.2.2.1, R.2.2.2), Y3, by rw [e]; rfl, A2.mv r3 f3.1.1 f3.2 (Nat.le_succ _), w3.cg or_tt.symm, J3.jk.wd (Int.le_refl _) (by rw [List.length_cons]; omega), ((n1.1.fz).tr (F2.mo (Nat.le_succ _))).q f3.1 (Nat.le_refl _), (G2.q f3.1).qb n1.1⟩
/-- if -/
theorem fw_if1 (H : GxF N C z T ms) (hS : FwSo τ C N z T St) {q1 : Ps} {t1 t2 b1 b2 : Int} (hx : ExX lv l m r) (hl0 : 0 ≤ lv) (hs : St j (j + 1, k + 1, cEy 23 k b1 t1 m :: m) q1) (hm : (cIy 25 k b2 t2 :: q1.2.2) <:+ z.2.1) (sf : (cEy 23 k b1 t1 m :: m) <:+ q1.2.2) (hk : kjS z j = 56) (hb : bjS z j = ((j + 1 : Nat) : Int)) (ho : ojS z j = -1) (xj : xjS z j = (xcZ m : Int) - 1) (hpq : pqZ 56 (k : Int) z.2.1 < 0) : FwI τ C N z T j q1.1 k l (cIy 25 k b2 t2 :: q1.2.2) := by
  intro f M σ mm hf hB hO hw
  rw [i_56 hk]
  unfold ifD'
  rw [xj]
  have hq : q1.2.2 <:+ z.2.1 := (List.suffix_cons _ _).trans hm
  have hm1 : m <:+ z.2.1 := (List.suffix_cons _ _).trans (sf.trans hq)
  have A0 := hB.1
  have ln := sf.length_le
  rw [List.length_cons] at ln
  have lx := hx.sf.length_le
  rcases ex_go H A0 hB.2.1 hx hl0 hm1 hw k with ⟨c1, c2⟩ | ⟨Y1, e, e1, A1, w1, n1, _⟩
  · exact Or.inl ⟨c1, by rw [c2]; rfl⟩
  obtain ⟨Y2, r2, w2, n2, s2⟩ := go_23 (k := k) A1.2.1.1 (sf.trans hq) A1.1.1 A1.1.2 w1
  have A2 := A1.mv (l' := cEy 23 k b1 t1 m :: m) r2 n2.1.1 n2.2.2 (Nat.le_succ _)
  have B2 := hB.mv (lo' := j + 1) A2 (n1.tr n2) hd_r (by rw [List.length_cons]; omega) (Nat.le_refl _)
  rw [e1, Option.bind_some, bdD_e hb]
  rcases hS _ _ _ hs f M Y2 true e.1 (by show 2 * (q1.1 - (j + 1)) ≤ f + 1; omega) (by show (j : Int) < ((j + 1 : Nat) : Int); omega) B2 (w2.cg (iff_of_true trivial rfl)) with ⟨c1, c2⟩ | ⟨R, Y3, e3, B3, w3, J3, F3, G3⟩
  · have c2 : (dF N z T f).2.2 (j + 1) true e.1 = none := c2
    exact Or.inl ⟨c1, by rw [c2]; rfl⟩
  · have e3 : (dF N z T f).2.2 (j + 1) true e.1 = some R := e3
    have A3 := B3.1
    have he : aI Y3 56 k < 0 := lt0_i.mpr (by rw [en_pq A3.2.1 (a := 56) hm rfl (by decide : thO 25 = true) (by omega) (by omega)]; exact hpq)
    obtain ⟨Y4, r4, w4, n4⟩ := go_25a A3.2.1.1 hm A3.1.1 A3.1.2 w3 he
    rw [an_id, (F3.2 k (Nat.lt_succ_self _)).2.2.2.1, s2] at w4
    refine Or.inr ⟨(true, R.2.1 &&& e.2, R.2.2.1, R.2.2.2), Y4, by rw [e3, Option.bind_some, if_pos (by rw [ho]; decide)], A3.mv r4 n4.1.1 n4.2.2 (Nat.le_succ _), w4.cg (iff_of_true trivial rfl), ?_, (((n1.tr n2).1.fz).tr (F3.mo (Nat.le_succ _))).q n4.1 (Nat.le_refl _), (G3.q n4.1).qb (n1.tr n2).1⟩
    rw [(n1.tr n2).2.1] at J3
    exact (J3.jk.q n4.2.1).wd (by show (l.length : Int) ≤ (((cEy 23 k _ t1 m :: m).length : Nat) : Int); rw [List.length_cons]; omega) (by rw [List.length_cons]; omega)
theorem fw_if2 (H : GxF N C z T ms) (hS : FwSo τ C N z T St) {q1 q2 : Ps} {t1 t2 t3 b1 b2 b3 : Int} (hx : ExX lv l m r) (hl0 : 0 ≤ lv) (hs : St j (j + 1, k + 1, cEy 23 k b1 t1 m :: m) q1) (hs2 : St j (q1.1, q1.2.1, cIy 24 k b3 t3 :: q1.2.2) q2) (hm : (cIy 25 k b2 t2 :: q2.2.2) <:+ z.2.1) (sf : (cEy 23 k b1 t1 m :: m) <:+ q1.2.2) (sf2 : (cIy 24 k b3 t3 :: q1.2.2) <:+ q2.2.2) (hk : kjS z j = 56) (hb : bjS z j = ((j + 1 : Nat) : Int)) (ho : ojS z j = (q1.1 : Int)) (xj : xjS z j = (xcZ m : Int) - 1) (hpq : 0 ≤ pqZ 56 (k : Int) z.2.1) (hle : j + 1 < q1.1 ∧ q1.1 < q2.1 ∧ k + 1 ≤ q1.2.1) (hz : q2.1 ≤ snM z) : FwI τ C N z T j q2.1 k l (cIy 25 k b2 t2 :: q2.2.2) := by
  intro f M σ mm hf hB hO hw
  rw [i_56 hk]
  unfold ifD'
  rw [xj]
  have hq2 : q2.2.2 <:+ z.2.1 := (List.suffix_cons _ _).trans hm
  have hq : q1.2.2 <:+ z.2.1 := (List.suffix_cons _ _).trans (sf2.trans hq2)
  have hm1 : m <:+ z.2.1 := (List.suffix_cons _ _).trans (sf.trans hq)
  have A0 := hB.1
  have ln := sf.length_le
  rw [List.length_cons] at ln
  have ln2 := sf2.length_le
  rw [List.length_cons] at ln2
  have lx := hx.sf.length_le
  rcases ex_go H A0 hB.2.1 hx hl0 hm1 hw k with ⟨c1, c2⟩ | ⟨Y1, e, e1, A1, w1, n1, _⟩
  · exact Or.inl ⟨c1, by rw [c2]; rfl⟩
  obtain ⟨Y2, r2, w2, n2, s2⟩ := go_23 (k := k) A1.2.1.1 (sf.trans hq) A1.1.1 A1.1.2 w1
  have A2 := A1.mv (l' := cEy 23 k b1 t1 m :: m) r2 n2.1.1 n2.2.2 (Nat.le_succ _)
  have B2 := hB.mv (lo' := j + 1) A2 (n1.tr n2) hd_r (by rw [List.length_cons]; omega) (Nat.le_refl _)
  rw [e1, Option.bind_some, bdD_e hb]
  rcases hS _ _ _ hs f M Y2 true e.1 (by show 2 * (q1.1 - (j + 1)) ≤ f + 1; omega) (by show (j : Int) < ((j + 1 : Nat) : Int); omega) B2 (w2.cg (iff_of_true trivial rfl)) with ⟨c1, c2⟩ | ⟨R, Y3, e3, B3, w3, J3, F3, G3⟩
  · have c2 : (dF N z T f).2.2 (j + 1) true e.1 = none := c2
    exact Or.inl ⟨c1, by rw [c2]; rfl⟩
  have e3 : (dF N z T f).2.2 (j + 1) true e.1 = some R := e3
  have A3 := B3.1
  obtain ⟨Y4, r4, w4, n4, s4, s4'⟩ := go_24 (k := k) A3.2.1.1 (sf2.trans hq2) A3.1.1 A3.1.2 w3
  have A4 := A3.mv (l' := cIy 24 k b3 t3 :: q1.2.2) r4 n4.1.1 n4.2.2 (Nat.le_succ _)
  have B4 := B3.mv (lo' := q1.1) A4 n4 hd_r (Nat.le_succ _) (Nat.le_refl _)
  rw [(F3.2 k (Nat.lt_succ_self _)).2.2.2.1, s2] at w4
  rw [e3, Option.bind_some, if_neg (by rw [ho]; omega), ho, Int.toNat_natCast]
  rcases hS _ _ _ hs2 f M Y4 true e.2 (by show 2 * (q2.1 - q1.1) ≤ f + 1; omega) (by show (j : Int) < ((q1.1 : Nat) : Int); omega) B4 (w4.cg (iff_of_true trivial rfl)) with ⟨c1, c2⟩ | ⟨S, Y5, e5, B5, w5, J5, F5, G5⟩
  · have c2 : (dF N z T f).2.2 q1.1 true e.2 = none := c2
    exact Or.inl ⟨c1, by rw [c2]; rfl⟩
  have e5 : (dF N z T f).2.2 q1.1 true e.2 = some S := e5
  have A5 := B5.1
  have he : ¬ aI Y5 56 k < 0 := fun q => by
    have q := lt0_i.mp q
    rw [en_pq A5.2.1 (a := 56) hm rfl (by decide : thO 25 = true) (by omega) (by omega)] at q
    omega
  obtain ⟨Y6, r6, w6, n6⟩ := go_25b A5.2.1.1 hm A5.1.1 A5.1.2 w5 he
  have rk := F5.2 k (by show k < q1.2.1; omega)
  rw [an_id, rk.2.1, s4, an_id, an_co] at w6
  have J35 : JsH z (l.length : Int) (q2.2.2.length : Int) (jnS σ) Y5 (R.2.2.1 ++ S.2.2.1) := by
    rw [(n1.tr n2).2.1] at J3
    rw [n4.2.1] at J5
    exact (J3.wd (by show (l.length : Int) ≤ (((cEy 23 k _ t1 m :: m).length : Nat) : Int); rw [List.length_cons]; omega) (by omega)).ap (J5.wd (by show (l.length : Int) ≤ (((cIy 24 k _ t3 :: q1.2.2).length : Nat) : Int); rw [List.length_cons]; omega) (Int.le_refl _))
  refine Or.inr ⟨(S.1 || R.1, R.2.1 &&& S.2.1, R.2.2.1 ++ S.2.2.1, R.2.2.2 ++ S.2.2.2), Y6, by rw [e5]; rfl, A5.mv r6 n6.1.1 n6.2.2 (Nat.le_succ _), w6.cg ?_, (J35.jk.q n6.2.1).wd (Int.le_refl _) (by rw [List.length_cons]; omega), (((((n1.tr n2).1.fz).tr (F3.mo (Nat.le_succ _))).q n4.1 (Nat.le_refl _)).tr (F5.mo (by show k ≤ q1.2.1; omega))).q n6.1 (Nat.le_refl _), ((G3.qb (n1.tr n2).1).tr H.2.2.2.1 hz (Nat.le_of_lt hle.1) (Nat.le_of_lt hle.2.1) ((G5.qb n4.1))).q n6.1⟩
  rw [rk.1, s4']
  exact or_tt.symm
/-- while -/
theorem fw_wh (H : GxF N C z T ms) (hS : FwSo τ C N z T St) {q1 : Ps} {t0 t1 t2 b0 b1 b2 : Int} (hx : ExX lv (cIy 26 k b0 t0 :: l) m r) (hl0 : 0 ≤ lv) (hs : St j (j + 1, k + 1, cEy 27 k b1 t1 m :: m) q1) (hm : (cIy 28 k b2 t2 :: q1.2.2) <:+ z.2.1) (sf : (cEy 27 k b1 t1 m :: m) <:+ q1.2.2) (hk : kjS z j = 58) (hb : bjS z j = ((j + 1 : Nat) : Int)) (xj : xjS z j = (xcZ m : Int) - 1) (hj : j < snM z) (hth : thS z j = (k : Int)) : FwI τ C N z T j q1.1 k l (cIy 28 k b2 t2 :: q1.2.2) := by
  intro f M σ mm hf hB hO hw
  rw [i_58 (Or.inl hk)]
  unfold whD'
  rw [if_neg (by omega), xj, Option.bind_some]
  dsimp only
  have hq : q1.2.2 <:+ z.2.1 := (List.suffix_cons _ _).trans hm
  have hm1 : m <:+ z.2.1 := (List.suffix_cons _ _).trans (sf.trans hq)
  have A0 := hB.1
  have ln := sf.length_le
  rw [List.length_cons] at ln
  have lx := hx.sf.length_le
  rw [List.length_cons] at lx
  obtain ⟨Y0, r0, b0', w0, n0, _⟩ := go_no (k := k) A0.2.1.1 (hx.sf.trans hm1) A0.1.1 A0.1.2 (by show (26 : Int) = 26 ∨ (26 : Int) = 29 ∨ (26 : Int) = 32 ∨ (26 : Int) = 34 ∨ (26 : Int) = 41; decide) hw
  have A1 := A0.mv (l' := cIy 26 k b0 t0 :: l) ⟨r0, b0'⟩ n0.1.1 n0.2.2 (Nat.le_succ _)
  rcases ex_go H A1 hd_r hx hl0 hm1 w0 k with ⟨c1, c2⟩ | ⟨Y1, e, e1, A1, w1, n1, _⟩
  · exact Or.inl ⟨c1, by rw [c2]; rfl⟩
  have av := al_v H A1.2.1 hx (sf.trans hq) (Or.inl rfl) xj (Or.inl hk) hj
  obtain ⟨Y2, r2, w2, n2, s2, s2'⟩ := go_27 (k := k) A1.2.1.1 (sf.trans hq) A1.1.1 A1.1.2 w1 av
  have A2 := A1.mv (l' := cEy 27 k b1 t1 m :: m) r2 n2.1.1 n2.2.2 (Nat.le_succ _)
  have n02 := (n0.tr n1).tr n2
  have B2 := hB.mv (lo' := j + 1) A2 n02 hd_r (by rw [List.length_cons]; omega) (Nat.le_refl _)
  rw [e1, Option.bind_some, bdD_e hb]
  rcases hS _ _ _ hs f M Y2 (!(alwT z T j 0)) e.1 (by show 2 * (q1.1 - (j + 1)) ≤ f + 1; omega) (by show (j : Int) < ((j + 1 : Nat) : Int); omega) B2 w2 with ⟨c1, c2⟩ | ⟨R, Y3, e3, B3, w3, J3, F3, G3⟩
  · have c2 : (dF N z T f).2.2 (j + 1) (!(alwT z T j 0)) e.1 = none := c2
    exact Or.inl ⟨c1, by rw [c2]; rfl⟩
  have e3 : (dF N z T f).2.2 (j + 1) (!(alwT z T j 0)) e.1 = some R := e3
  have A3 := B3.1
  have J3' : JsH z (l.length : Int) (q1.2.2.length : Int) (jnS σ) Y3 R.2.2.1 := by
    rw [n02.2.1] at J3
    exact J3.wd (by show (l.length : Int) ≤ (((cEy 27 k _ t1 m :: m).length : Nat) : Int); rw [List.length_cons]; omega) (Int.le_refl _)
  have rk := F3.2 k (Nat.lt_succ_self _)
  obtain ⟨Y4, r4, w4, f4, J4⟩ := go_28 A3.2.1.1 hm A3.1.1 A3.1.2 w3 ⟨H.2.2.1, hj, by unfold OwK; omega, hth⟩ hO J3' (P1 := (!(alwT z T j 1)) = true) (by rw [rk.2.2.1]; exact s2')
  rw [rk.2.2.2.1, s2, cmB_ne (fun q => by cases q.2), cmA_ne (fun q => by cases q.2)] at w4
  refine Or.inr ⟨(!(alwT z T j 1) || cmA (j : Int) false R.2.2.1, (if (xcZ m : Int) - 1 < 0 then allB else e.2) &&& cmB (j : Int) false R.2.2.1, cmR (j : Int) false (cmR (j : Int) true R.2.2.1), R.2.2.2), Y4, by rw [e3, Option.bind_some, if_neg (show ¬ kjS z j = 60 by omega)]; rfl, A3.mv r4 f4.1.1 f4.2 (Nat.le_succ _), ?_, J4.jk.wd (Int.le_refl _) (by rw [List.length_cons]; omega), ((n02.1.fz).tr (F3.mo (Nat.le_succ _))).q f4.1 (Nat.le_refl _), (G3.q f4.1).qb n02.1⟩
  show Bw Y4 ((!(alwT z T j 1) || cmA (j : Int) false R.2.2.1) = true) ((if (xcZ m : Int) - 1 < 0 then allB else e.2) &&& cmB (j : Int) false R.2.2.1) ((if (xcZ m : Int) - 1 < 0 then allB else e.2) &&& cmB (j : Int) false R.2.2.1)
  rw [if_neg (by have := hx.nn.2.1; omega)]
  exact w4.cg or_tt.symm
/-- do -/
theorem fw_do (H : GxF N C z T ms) (hS : FwSo τ C N z T St) {q1 : Ps} {t0 t1 t2 b0 b1 b2 : Int} (hs : St j (j + 1, k + 1, cIy 29 k b0 t0 :: l) q1) (hx : ExX lv (cIy 30 k b1 t1 :: q1.2.2) m r) (hl0 : 0 ≤ lv) (hm : (cEy 31 k b2 t2 m :: m) <:+ z.2.1) (sf : (cIy 29 k b0 t0 :: l) <:+ q1.2.2) (hk : kjS z j = 59) (hb : bjS z j = ((j + 1 : Nat) : Int)) (xj : xjS z j = (xcZ m : Int) - 1) (hj : j < snM z) (hth : thS z j = (k : Int)) : FwI τ C N z T j q1.1 k l (cEy 31 k b2 t2 m :: m) := by
  intro f M σ mm hf hB hO hw
  rw [i_59 hk]
  unfold doD'
  rw [xj, bdD_e hb]
  have hm1 : m <:+ z.2.1 := (List.suffix_cons _ _).trans hm
  have h30 : (cIy 30 k b1 t1 :: q1.2.2) <:+ z.2.1 := hx.sf.trans hm1
  have hq : q1.2.2 <:+ z.2.1 := (List.suffix_cons _ _).trans h30
  have A0 := hB.1
  have ln := sf.length_le
  rw [List.length_cons] at ln
  have lx := hx.sf.length_le
  rw [List.length_cons] at lx
  obtain ⟨Y0, r0, b0', w0, n0, _⟩ := go_no (k := k) A0.2.1.1 (sf.trans hq) A0.1.1 A0.1.2 (by show (29 : Int) = 26 ∨ (29 : Int) = 29 ∨ (29 : Int) = 32 ∨ (29 : Int) = 34 ∨ (29 : Int) = 41; decide) hw
  have A1 := A0.mv (l' := cIy 29 k b0 t0 :: l) ⟨r0, b0'⟩ n0.1.1 n0.2.2 (Nat.le_succ _)
  have B1 := hB.mv (lo' := j + 1) A1 n0 hd_r (Nat.le_succ _) (Nat.le_refl _)
  rcases hS _ _ _ hs f M Y0 true mm (by show 2 * (q1.1 - (j + 1)) ≤ f + 1; omega) (by show (j : Int) < ((j + 1 : Nat) : Int); omega) B1 (w0.cg (iff_of_true trivial rfl)) with ⟨c1, c2⟩ | ⟨R, Y3, e3, B3, w3, J3, F3, G3⟩
  · have c2 : (dF N z T f).2.2 (j + 1) true mm = none := c2
    exact Or.inl ⟨c1, by rw [c2]; rfl⟩
  have e3 : (dF N z T f).2.2 (j + 1) true mm = some R := e3
  have A3 := B3.1
  have J3' : JsH z (l.length : Int) (q1.2.2.length : Int) (jnS σ) Y3 R.2.2.1 := by
    rw [n0.2.1] at J3
    exact J3.wd (by show (l.length : Int) ≤ (((cIy 29 k _ t0 :: l).length : Nat) : Int); rw [List.length_cons]; omega) (Int.le_refl _)
  have CH : CmH z j k := ⟨H.2.2.1, hj, by unfold OwK; omega, hth⟩
  obtain ⟨Y4, r4, w4, f4, J4, s4⟩ := go_30 A3.2.1.1 h30 A3.1.1 A3.1.2 w3 CH hO J3'
  rw [an_id] at w4
  have A4 := A3.mv (l' := cIy 30 k b1 t1 :: q1.2.2) r4 f4.1.1 f4.2 (Nat.le_succ _)
  rw [e3, Option.bind_some]
  rcases ex_go H A4 hd_r hx hl0 hm1 w4 k with ⟨c1, c2⟩ | ⟨Y5, e, e5, A5, w5, n5, ra⟩
  · exact Or.inl ⟨c1, by rw [c2]; rfl⟩
  have av := al_v H A5.2.1 hx hm (Or.inr (Or.inl rfl)) xj (Or.inr (Or.inl hk)) hj
  obtain ⟨Y6, r6, w6, f6, J6⟩ := go_31 A5.2.1.1 hm A5.1.1 A5.1.2 w5 CH hO (J4.q n5.2.1) av.1
  rw [cmB_ne (fun q => by cases q.2), cmA_ne (fun q => by cases q.2)] at w6
  refine Or.inr ⟨(((R.1 || cmA (j : Int) true R.2.2.1) && !(alwT z T j 1)) || cmA (j : Int) false R.2.2.1, e.2 &&& cmB (j : Int) false R.2.2.1, cmR (j : Int) false (cmR (j : Int) true R.2.2.1), R.2.2.2), Y6, by rw [e5]; rfl, A5.mv r6 f6.1.1 f6.2 (Nat.le_succ _), w6.cg ?_, J6.jk.wd (Int.le_refl _) (by show (q1.2.2.length : Int) ≤ (((cEy 31 k _ t2 m :: m).length : Nat) : Int); rw [List.length_cons]; omega), (((((n0.1.fz).tr (F3.mo (Nat.le_succ _))).q f4.1 (Nat.le_refl _)).q n5.1 (Nat.le_refl _))).q f6.1 (Nat.le_refl _), ((((G3.q f4.1).q n5.1).q f6.1).qb n0.1)⟩
  rw [(ra k).1, s4]
  show _ ↔ (((R.1 || cmA (j : Int) true R.2.2.1) && !(alwT z T j 1)) || cmA (j : Int) false R.2.2.1) = true
  rw [or_tt, Bool.and_eq_true, or_tt]
end

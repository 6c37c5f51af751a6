/-! ranges of exps are apart -/
def RgT (lo hi : Int) (t : List XrZ) : Prop := (∀ x ∈ t, x.1.1 ≤ 10 → lo ≤ x.1.2.2.1 ∧ x.1.2.2.1 ≤ x.1.2.2.2 ∧ x.1.2.2.2 < hi) ∧ t.Pairwise (fun x y => x.1.1 ≤ 10 → y.1.1 ≤ 10 → ¬ (x.1.2.2.1 = y.1.2.2.1 ∧ x.1.2.2.2 = y.1.2.2.2))
section
variable {lo mid hi : Int} {t u : List XrZ} {x : XrZ}
theorem RgT.nil : RgT lo hi [] := ⟨fun _ h => absurd h List.not_mem_nil, List.Pairwise.nil⟩
theorem RgT.wd {lo' hi' : Int} (h : RgT lo hi t) (h1 : lo' ≤ lo) (h2 : hi ≤ hi') : RgT lo' hi' t := ⟨fun x a b => by have := h.1 x a b; omega, h.2⟩
theorem RgT.ap (h : RgT lo mid t) (g : RgT mid hi u) (h1 : lo ≤ mid) (h2 : mid ≤ hi) : RgT lo hi (u ++ t) := by
  refine ⟨fun x a b => ?_, List.pairwise_append.mpr ⟨g.2, h.2, fun x a y b kx ky e => ?_⟩⟩
  · rcases List.mem_append.mp a with a | a
    · have := g.1 x a b; omega
    · have := h.1 x a b; omega
  · have p := g.1 x a kx
    have q := h.1 y b ky
    omega
theorem RgT.pu (h : RgT lo hi t) (hx : x.1.1 ≤ 10 → (lo ≤ x.1.2.2.1 ∧ x.1.2.2.1 ≤ x.1.2.2.2 ∧ x.1.2.2.2 < hi) ∧ ∀ y ∈ t, y.1.1 ≤ 10 → ¬ (x.1.2.2.1 = y.1.2.2.1 ∧ x.1.2.2.2 = y.1.2.2.2)) : RgT lo hi (x :: t) := by
  refine ⟨fun y a b => ?_, List.pairwise_cons.mpr ⟨fun y a kx ky => (hx kx).2 y a ky, h.2⟩⟩
  rcases List.mem_cons.mp a with e | a
  · rw [e] at b ⊢
    exact (hx b).1
  · exact h.1 y a b
end
/-- from z to z' an exp is read, or a piece of one -/
def EgW (z z' : ZS) : Prop := (zAt z.1 ≤ zAt z'.1 ∧ GpY z.1 z'.1) ∧ (zFt z'.1 = 0 → ∃ t : List XrZ, z'.2.1 = t.map Sum.inl ++ z.2.1 ∧ RgT (zAt z.1) (zAt z'.1) t)
abbrev EgM (f : ZS → ZS) : Prop := ∀ z, EgW z (f z) ∧ (zFt (f z).1 = 0 → zAt z.1 < zAt (f z).1)
section
variable {z z1 z2 : ZS} {x : XrZ} {N : Int → Int}
theorem EgW.rf : EgW z z := ⟨⟨Int.le_refl _, GpY.rf⟩, fun _ => ⟨[], rfl, RgT.nil⟩⟩
theorem EgW.tr (h : EgW z z1) (g : EgW z1 z2) : EgW z z2 := by
  refine ⟨⟨Int.le_trans h.1.1 g.1.1, h.1.2.tr g.1.2⟩, fun f => ?_⟩
  obtain ⟨t, e, p⟩ := h.2 (g.1.2.z f)
  obtain ⟨u, e', p'⟩ := g.2 f
  exact ⟨u ++ t, by rw [e', e, List.map_append, List.append_assoc], p.ap p' h.1.1 g.1.1⟩
theorem EgW.m {s' : SpC} (l : zAt z.1 ≤ zAt s') (g : GpY z.1 s') : EgW z (s', z.2) := ⟨⟨l, g⟩, fun _ => ⟨[], rfl, RgT.nil⟩⟩
theorem EgW.ac : EgW z (accM z) := EgW.m mv_acc.2 (gd_acc _)
theorem EgW.xp {c : Int} : EgW z (xpM c z) := EgW.m mv_xp.2 (gd_xp _)
theorem EgW.ra {c : Int} : EgW z (raiM c z) := EgW.m mv_rai.2 (gd_rai _)
theorem EgW.ty : EgW z (typM z) := EgW.m mv_typ.2 (gd_typ _)
/-- a mark -/
theorem EgW.pm (h : EgW z z1) (k : ¬ x.1.1 ≤ 10) : EgW z (puM x z1) := ⟨h.1, fun f => by
  obtain ⟨t, e, p⟩ := h.2 f
  exact ⟨x :: t, by show Sum.inl x :: z1.2.1 = _; rw [e]; rfl, p.pu (fun q => absurd q k)⟩⟩
/-- a record around what was read from a later place on: its first token is none of theirs -/
theorem EgW.pf (h : EgW z z1) (g : EgW z1 z2) (k1 : x.1.2.2.1 = zAt z.1) (e0 : ∃ t : List XrZ, z1.2.1 = t.map Sum.inl ++ z.2.1 ∧ ∀ y ∈ t, ¬ y.1.1 ≤ 10) (hl : zFt z2.1 = 0 → zAt z.1 < zAt z1.1) (kl : zFt z2.1 = 0 → x.1.2.2.1 ≤ x.1.2.2.2 ∧ x.1.2.2.2 < zAt z2.1) : EgW z (puM x z2) := ⟨(h.tr g).1, fun f => by
  obtain ⟨u, e', p'⟩ := g.2 f
  obtain ⟨t, e, pt⟩ := e0
  have l := hl f
  have k := kl f
  have pz : RgT (zAt z.1) (zAt z2.1) (u ++ t) := by
    refine ⟨fun y hy ky => ?_, List.pairwise_append.mpr ⟨p'.2, ?_, fun a _ y b _ ky => absurd ky (pt y b)⟩⟩
    · rcases List.mem_append.mp hy with q | q
      · have := p'.1 y q ky
        omega
      · exact absurd ky (pt y q)
    · clear e e'
      induction t with
      | nil => exact List.Pairwise.nil
      | cons a t ih => exact List.pairwise_cons.mpr ⟨fun y _ kx => absurd kx (pt a List.mem_cons_self), ih (fun y hy => pt y (List.mem_cons_of_mem _ hy))⟩
  refine ⟨x :: (u ++ t), by show Sum.inl x :: z2.2.1 = _; rw [e', e, List.map_cons, List.map_append, List.cons_append, List.append_assoc], RgT.pu pz (fun _ => ⟨⟨by omega, k⟩, fun y hy ky q => ?_⟩)⟩
  rcases List.mem_append.mp hy with m | m
  · have := p'.1 y m ky
    omega
  · exact pt y m ky⟩
theorem no_mk : ∃ t : List XrZ, z.2.1 = t.map Sum.inl ++ z.2.1 ∧ ∀ y ∈ t, ¬ y.1.1 ≤ 10 := ⟨[], rfl, fun _ h => absurd h List.not_mem_nil⟩
theorem EgW.lf (h : EgW z z1) (e0 : z1.2.1 = z.2.1) (k1 : x.1.2.2.1 = zAt z.1) (kl : zFt z1.1 = 0 → x.1.2.2.1 ≤ x.1.2.2.2 ∧ x.1.2.2.2 < zAt z1.1) : EgW z (puM x z1) := ⟨h.1, fun f => by
  have k := kl f
  exact ⟨[x], by show Sum.inl x :: z1.2.1 = _; rw [e0]; rfl, RgT.pu RgT.nil (fun _ => ⟨⟨by omega, k⟩, fun y hy => absurd hy List.not_mem_nil⟩)⟩⟩
/-- firsts of operators that wait go down to lo -/
def WdQ (lo : Int) : WtZ → Int → Prop
  | [], f => f = lo
  | w :: W, f => w.2.1 < f ∧ WdQ lo W w.2.1
theorem WdQ.le {lo : Int} : ∀ {W : WtZ} {f : Int}, WdQ lo W f → lo ≤ f := by
  intro W
  induction W with
  | nil => intro f h; exact Int.le_of_eq (show f = lo from h).symm
  | cons w W ih => intro f h; have := ih h.2; have := h.1; omega
/-- in the midst of a chain that began at lo: base, what is laid -/
def ChI (lo : Int) (B : List ItZ) (W : WtZ) (r : Int × Int) (z : ZS) : Prop := ∃ t : List XrZ, z.2.1 = t.map Sum.inl ++ B ∧ RgT lo (zAt z.1) t ∧ (∀ x ∈ t, x.1.1 ≤ 10 → x.1.2.2.2 = zAt z.1 - 1 → r.1 ≤ x.1.2.2.1) ∧ WdQ lo W r.1 ∧ r.1 < zAt z.1
theorem ch_cl {lo : Int} {B : List ItZ} {p : Int} : ∀ (W : WtZ) (r : Int × Int) (z : ZS), ChI lo B W r z → ChI lo B (cswZ p W) (csrZ p W r) (clM p W z) := by
  intro W
  induction W with
  | nil => exact fun r z h => h
  | cons w W ih =>
    obtain ⟨sg, f, st, a, mq⟩ := w
    intro r z h
    rw [cswZ, csrZ, clM]
    split
    · refine ih _ _ ?_
      obtain ⟨t, e, p1, p2, ⟨w1, w2⟩, p4⟩ := h
      have w1 : f < r.1 := w1
      have w2 : WdQ lo W f := w2
      have lf := w2.le
      refine ⟨chnZ sg f st a mq (xnM z) z.1 :: t, by show Sum.inl _ :: z.2.1 = _; rw [e]; rfl, p1.pu (fun _ => ⟨?_, fun y hy ky q => ?_⟩), fun y hy ky q => ?_, w2, ?_⟩
      · show lo ≤ f ∧ f ≤ zAt z.1 - 1 ∧ zAt z.1 - 1 < zAt z.1
        omega
      · have q1 : f = y.1.2.2.1 := q.1
        have q2 : zAt z.1 - 1 = y.1.2.2.2 := q.2
        have := p2 y hy ky q2.symm
        omega
      · rcases List.mem_cons.mp hy with e2 | hy
        · rw [e2]
          exact Int.le_refl f
        · have q : y.1.2.2.2 = zAt z.1 - 1 := q
          have := p2 y hy ky q
          show f ≤ y.1.2.2.1
          omega
      · show f < zAt z.1
        omega
    · exact h
theorem csw_00 : ∀ {W : WtZ}, cswZ 0 W = [] := by
  intro W
  induction W with
  | nil => rfl
  | cons w W ih =>
    obtain ⟨sg, f, st, a, mq⟩ := w
    rw [cswZ, if_pos str_0, ih]
theorem fk_1 : (fkM z).1 = z.1 := by
  unfold fkM
  split <;> rfl
theorem ch_chl {O : ZS → ZS} (hO : EgM O) {lo : Int} {B : List ItZ} : ∀ (f : Nat) (W : WtZ) (r : Int × Int) (z : ZS), ((zAt z.1 ≤ zAt (chlM O f W r z).1 ∧ GpY z.1 (chlM O f W r z).1) ∧ (zFt (chlM O f W r z).1 = 0 → ChI lo B W r z → ∃ q : Int × Int, ChI lo B [] q (chlM O f W r z))) := by
  intro f
  induction f with
  | zero =>
    intro W r z
    have e : (chlM O 0 W r z).1 = z.1 := cl_1 W z
    refine ⟨by rw [e]; exact ⟨Int.le_refl _, GpY.rf⟩, fun _ h => ⟨csrZ 0 W r, ?_⟩⟩
    have := ch_cl (p := 0) W r z h
    rw [csw_00] at this
    exact this
  | succ f ih =>
    intro W r z
    rw [chlM]
    split
    · obtain ⟨⟨i1, i2⟩, i3⟩ := ih (wnZ (csrZ (strZ (codY z.1)) W r) (clM (strZ (codY z.1)) W z) :: cswZ (strZ (codY z.1)) W) (zAt z.1 + 1, (xnM (fkM (clM (strZ (codY z.1)) W z)) : Int)) (O (accM (fkM (clM (strZ (codY z.1)) W z))))
      have a1 : (fkM (clM (strZ (codY z.1)) W z)).1 = z.1 := fk_1.trans (cl_1 W z)
      have a2 : (accM (fkM (clM (strZ (codY z.1)) W z))).1 = accY z.1 := congrArg accY a1
      obtain ⟨⟨⟨o1, o2⟩, o3⟩, o4⟩ := hO (accM (fkM (clM (strZ (codY z.1)) W z)))
      rw [a2] at o1 o2 o3 o4
      have m := (mv_acc (s := z.1)).2
      refine ⟨⟨by omega, ((gd_acc z.1).tr o2).tr i2⟩, fun ft h => i3 ft ?_⟩
      have f1 := i2.z ft
      have f0 := o2.z f1
      have l0 := o4 f1
      have la : zAt z.1 < zAt (accY z.1) := ac_lt f0
      obtain ⟨u, eu, pu⟩ := o3 f1
      obtain ⟨t, et, p1, p2, p3, p4⟩ := ch_cl (p := strZ (codY z.1)) W r z h
      rw [cl_1] at p1 p2 p4
      have ek : ∃ v : List XrZ, (fkM (clM (strZ (codY z.1)) W z)).2.1 = (v ++ t).map Sum.inl ++ B ∧ RgT lo (zAt z.1) (v ++ t) := by
        unfold fkM
        split
        · exact ⟨[frkZ _ _], by show Sum.inl _ :: (clM (strZ (codY z.1)) W z).2.1 = _; rw [et]; rfl, p1.pu (fun q => absurd (show (11 : Int) ≤ 10 from q) (by decide))⟩
        · exact ⟨[], et, p1⟩
      obtain ⟨v, ev, pv⟩ := ek
      have lo_le := p3.le
      refine ⟨u ++ (v ++ t), ?_, ?_, fun x hx kx q => ?_, ⟨?_, p3⟩, ?_⟩
      · rw [eu]
        show u.map Sum.inl ++ (fkM (clM (strZ (codY z.1)) W z)).2.1 = _
        have e5 : (u ++ (v ++ t)).map (Sum.inl : XrZ → ItZ) = u.map Sum.inl ++ (v ++ t).map Sum.inl := List.map_append
        rw [ev, e5, List.append_assoc]
      · exact RgT.ap (mid := zAt (accY z.1)) (pv.wd (Int.le_refl _) (by omega)) pu (by omega) (by omega)
      · show zAt z.1 + 1 ≤ x.1.2.2.1
        rcases List.mem_append.mp hx with hx | hx
        · have := pu.1 x hx kx
          omega
        · have := pv.1 x hx kx
          omega
      · show (csrZ (strZ (codY z.1)) W r).1 < zAt z.1 + 1
        omega
      · show zAt z.1 + 1 < zAt (O (accM (fkM (clM (strZ (codY z.1)) W z)))).1
        omega
    · have e : (clM 0 W z).1 = z.1 := cl_1 W z
      refine ⟨by rw [e]; exact ⟨Int.le_refl _, GpY.rf⟩, fun _ h => ⟨csrZ 0 W r, ?_⟩⟩
      have := ch_cl (p := 0) W r z h
      rw [csw_00] at this
      exact this
def EgS (z z' : ZS) : Prop := EgW z z' ∧ (zFt z'.1 = 0 → zAt z.1 < zAt z'.1)
theorem EgS.mk (w : EgW z z1) (l : zAt (accY z.1) ≤ zAt z1.1) (g : GpY (accY z.1) z1.1) : EgS z z1 := ⟨w, fun f => by
  have := ac_lt (g.z f)
  omega⟩
theorem eg_chc {O E C : ZS → ZS} (hO : EgM O) (hE : EgM E) (hC : EgM C) : EgM (chcM O E C) := by
  intro z
  obtain ⟨⟨⟨o1, o2⟩, o3⟩, o4⟩ := hO z
  obtain ⟨⟨c1, c2⟩, c3⟩ := ch_chl hO (lo := zAt z.1) (B := z.2.1) 501 [] (rbM z) (O z)
  show EgW z (ch2M E C (rbM z) (chlM O 501 [] (rbM z) (O z))) ∧ (zFt (ch2M E C (rbM z) (chlM O 501 [] (rbM z) (O z))).1 = 0 → zAt z.1 < zAt (ch2M E C (rbM z) (chlM O 501 [] (rbM z) (O z))).1)
  generalize chlM O 501 [] (rbM z) (O z) = y at c1 c2 c3 ⊢
  have base : zFt y.1 = 0 → zAt z.1 < zAt y.1 ∧ ∃ t : List XrZ, y.2.1 = t.map Sum.inl ++ z.2.1 ∧ RgT (zAt z.1) (zAt y.1) t := fun f => by
    have f1 := c2.z f
    have l := o4 f1
    obtain ⟨t, e, p⟩ := o3 f1
    obtain ⟨q, u, e2, p2, _⟩ := c3 f ⟨t, e, p, fun x hx kx _ => (p.1 x hx kx).1, rfl, l⟩
    exact ⟨by omega, u, e2, p2⟩
  have bw : EgW z y := ⟨⟨by omega, o2.tr c2⟩, fun f => (base f).2⟩
  unfold ch2M
  split
  · unfold ch3M cheM
    have w1 : EgW y (E (accM (puM (thnZ (xnM y) y.1) y))) := ((EgW.rf.pm (by show ¬ (12 : Int) ≤ 10; decide)).tr EgW.ac).tr (hE _).1
    have la : zFt (E (accM (puM (thnZ (xnM y) y.1) y))).1 = 0 → zAt y.1 < zAt (E (accM (puM (thnZ (xnM y) y.1) y))).1 := fun f => by
      obtain ⟨⟨⟨e1, e2⟩, _⟩, _⟩ := hE (accM (puM (thnZ (xnM y) y.1) y))
      have : zAt y.1 < zAt (accY y.1) := ac_lt (e2.z f)
      have e1 : zAt (accY y.1) ≤ _ := e1
      omega
    generalize E (accM (puM (thnZ (xnM y) y.1) y)) = v at w1 la ⊢
    have w2 : EgW y (C (xpM 6 (puM (elsZ (xnM y) (xnM v) v.1) v))) := ((w1.pm (by show ¬ (13 : Int) ≤ 10; decide)).tr EgW.xp).tr (hC _).1
    have lb : zFt (C (xpM 6 (puM (elsZ (xnM y) (xnM v) v.1) v))).1 = 0 → zAt y.1 + 1 < zAt (C (xpM 6 (puM (elsZ (xnM y) (xnM v) v.1) v))).1 := fun f => by
      obtain ⟨⟨⟨e1, e2⟩, _⟩, _⟩ := hC (xpM 6 (puM (elsZ (xnM y) (xnM v) v.1) v))
      have fx : zFt (xpY 6 v.1) = 0 := e2.z f
      have a := xp_lt fx
      have b := la ((gd_xp v.1).z fx)
      have e1 : zAt (xpY 6 v.1) ≤ _ := e1
      omega
    generalize C (xpM 6 (puM (elsZ (xnM y) (xnM v) v.1) v)) = x at w2 lb ⊢
    refine ⟨⟨(bw.tr w2).1, fun f => ?_⟩, fun f => ?_⟩
    · obtain ⟨u, eu, pu⟩ := w2.2 f
      have fy := w2.1.2.z f
      obtain ⟨lz, t, et, pt⟩ := base fy
      have l2 := lb f
      refine ⟨chrZ (rbM z).1 (rbM z).2 _ _ _ (xnM x) x.1 :: (u ++ t), by show Sum.inl _ :: x.2.1 = _; rw [eu, et, List.map_cons, List.map_append, List.cons_append, List.append_assoc], RgT.pu (pt.ap pu bw.1.1 w2.1.1) (fun _ => ⟨?_, fun w hw kw q => ?_⟩)⟩
      · show zAt z.1 ≤ zAt z.1 ∧ zAt z.1 ≤ zAt x.1 - 1 ∧ zAt x.1 - 1 < zAt x.1
        omega
      · have q1 : zAt z.1 = w.1.2.2.1 := q.1
        have q2 : zAt x.1 - 1 = w.1.2.2.2 := q.2
        rcases List.mem_append.mp hw with m | m
        · have := pu.1 w m kw
          omega
        · have := pt.1 w m kw
          omega
    · have fy := w2.1.2.z f
      have := (base fy).1
      have := lb f
      show zAt z.1 < zAt x.1
      omega
  · exact ⟨bw, fun f => (base f).1⟩
theorem eg_xps {O E C : ZS → ZS} (hO : EgM O) (hE : EgM E) (hC : EgM C) : EgM (xpsM N O E C) := by
  intro z
  unfold xpsM
  split
  · split
    · unfold asgM aseM
      have tk : (tkM N z).1 = z.1 ∧ EgW z (tkM N z) ∧ ∃ t : List XrZ, (tkM N z).2.1 = t.map Sum.inl ++ z.2.1 ∧ ∀ y ∈ t, ¬ y.1.1 ≤ 10 := by
        unfold tkM
        split
        · exact ⟨rfl, EgW.rf, no_mk⟩
        · exact ⟨rfl, EgW.rf.pm (by show ¬ (14 : Int) ≤ 10; decide), [_], rfl, fun y hy => by rw [List.mem_singleton.mp hy]; show ¬ (14 : Int) ≤ 10; decide⟩
      obtain ⟨t1, t2, t, t3, t4⟩ := tk
      have w1 : EgW z (accM (accM (tkM N z))) := (t2.tr EgW.ac).tr EgW.ac
      obtain ⟨w2, w3⟩ := hE (accM (accM (tkM N z)))
      have e1 : (accM (accM (tkM N z))).1 = accY (accY z.1) := by show accY (accY (tkM N z).1) = _; rw [t1]
      have la : zFt (E (accM (accM (tkM N z)))).1 = 0 → zAt z.1 < zAt (accM (accM (tkM N z))).1 := fun f => by
        have f0 := w2.1.2.z f
        rw [e1] at f0 ⊢
        have a := ac_lt f0
        have b := ac_lt ((gd_acc _).z f0)
        omega
      refine ⟨EgW.pf w1 w2 rfl ⟨t, t3, t4⟩ la (fun f => ?_), fun f => ?_⟩
      · have := la f
        have := w3 f
        show zAt z.1 ≤ zAt (E (accM (accM (tkM N z)))).1 - 1 ∧ zAt (E (accM (accM (tkM N z)))).1 - 1 < zAt (E (accM (accM (tkM N z)))).1
        omega
      · have := la f
        have := w3 f
        show zAt z.1 < zAt (E (accM (accM (tkM N z)))).1
        omega
    · exact eg_chc hO hE hC z
  · exact eg_chc hO hE hC z
/-- a call's arguments: where its end is read -/
theorem eg_clp {E : ZS → ZS} (hE : EgM E) {r : Int × Int} : ∀ (f : Nat) (l : List Int) (z : ZS), ∃ (l' : List Int) (zc : ZS), clpM E r f l z = puM (calZ r.1 r.2 l' zc.1) (xpM 1 zc) ∧ EgW z zc := by
  intro f
  induction f with
  | zero => exact fun l z => ⟨l, z, rfl, EgW.rf⟩
  | succ f ih =>
    intro l z
    rw [clpM]
    split
    · obtain ⟨l', zc, e, w⟩ := ih (l ++ [(xnM (E (accM z)) : Int) - 1]) (E (accM z))
      exact ⟨l', zc, e, (EgW.ac.tr (hE _).1).tr w⟩
    · exact ⟨l, z, rfl, EgW.rf⟩
theorem eg_opr {m : Nat} {E : ZS → ZS} {J : Int → ZS → ZS} (hE : EgM E) (hJ : ∀ g, EgM (J g)) (g : Int) : EgM (oprM N m E J g) := by
  intro z
  have md : EgS z (oprM N m E J g z) := by
    unfold oprM
    split
    · obtain ⟨w2, w3⟩ := hJ (ngZ (codY z.1)) (accM z)
      refine EgS.mk (EgW.pf EgW.ac w2 rfl no_mk (fun f => ac_lt (w2.1.2.z f)) (fun f => ?_)) w2.1.1 w2.1.2
      have a := ac_lt (w2.1.2.z f)
      have b := w2.1.1
      have b : zAt (accY z.1) ≤ zAt (J (ngZ (codY z.1)) (accM z)).1 := b
      show zAt z.1 ≤ zAt (J (ngZ (codY z.1)) (accM z)).1 - 1 ∧ zAt (J (ngZ (codY z.1)) (accM z)).1 - 1 < zAt (J (ngZ (codY z.1)) (accM z)).1
      omega
    split
    · show EgS z (puM (preZ (lkM N z (zAt z.1 + 1)) (xnM z) z.1) (xpM 80 (accM z)))
      refine EgS.mk (EgW.lf (z1 := xpM 80 (accM z)) (EgW.ac.tr EgW.xp) rfl rfl (fun f => ?_)) mv_xp.2 (gd_xp _)
      have f : zFt (xpY 80 (accY z.1)) = 0 := f
      have a := xp_lt f
      have b := ac_lt ((gd_xp _).z f)
      show zAt z.1 ≤ zAt z.1 + 1 ∧ zAt z.1 + 1 < zAt (xpY 80 (accY z.1))
      omega
    split
    · unfold op2M
      split
      · obtain ⟨w2, w3⟩ := hJ 0 (xpM 1 (typM (accM z)))
        have w : EgW (accM z) (J 0 (xpM 1 (typM (accM z)))) := (EgW.ty.tr EgW.xp).tr w2
        refine EgS.mk (EgW.pf EgW.ac w rfl no_mk (fun f => ac_lt (w.1.2.z f)) (fun f => ?_)) w.1.1 w.1.2
        have a := ac_lt (w.1.2.z f)
        have b : zAt (accY z.1) ≤ zAt (J 0 (xpM 1 (typM (accM z)))).1 := w.1.1
        show zAt z.1 ≤ zAt (J 0 (xpM 1 (typM (accM z)))).1 - 1 ∧ zAt (J 0 (xpM 1 (typM (accM z)))).1 - 1 < zAt (J 0 (xpM 1 (typM (accM z)))).1
        omega
      · obtain ⟨w2, w3⟩ := hE (accM z)
        show EgS z (puM (parZ (rbM z).1 (rbM z).2 (xnM (E (accM z))) (E (accM z)).1) (xpM 1 (E (accM z))))
        have w : EgW (accM z) (xpM 1 (E (accM z))) := w2.tr EgW.xp
        refine EgS.mk (EgW.pf EgW.ac w rfl no_mk (fun f => ac_lt (w.1.2.z f)) (fun f => ?_)) w.1.1 w.1.2
        have f : zFt (xpY 1 (E (accM z)).1) = 0 := f
        have a := ac_lt (w.1.2.z f)
        have c := xp_lt f
        have b : zAt (accY z.1) ≤ zAt (E (accM z)).1 := w2.1.1
        show zAt z.1 ≤ zAt (E (accM z)).1 ∧ zAt (E (accM z)).1 < zAt (xpY 1 (E (accM z)).1)
        omega
    split
    · unfold nmeM
      split
      · unfold ca2M
        have w0 : EgW z (accM (accM z)) := EgW.ac.tr EgW.ac
        have key : ∀ (l : List Int) (zc : ZS), EgW (accM (accM z)) zc → EgS z (puM (calZ (rbM z).1 (rbM z).2 l zc.1) (xpM 1 zc)) := fun l zc w2 => by
          have w : EgW (accM z) (xpM 1 zc) := EgW.ac.tr (w2.tr EgW.xp)
          refine EgS.mk (EgW.pf EgW.ac w rfl no_mk (fun f => ac_lt (w.1.2.z f)) (fun f => ?_)) w.1.1 w.1.2
          have f : zFt (xpY 1 zc.1) = 0 := f
          have a := ac_lt (w.1.2.z f)
          have c := xp_lt f
          have b : zAt (accY (accY z.1)) ≤ zAt zc.1 := w2.1.1
          have d := (mv_acc (s := accY z.1)).2
          show zAt z.1 ≤ zAt zc.1 ∧ zAt zc.1 < zAt (xpY 1 zc.1)
          omega
        split
        · have w : EgW (accM z) (xpM 1 (raiM 3 (accM (accM z)))) := (EgW.ac.tr EgW.ra).tr EgW.xp
          exact EgS.mk (EgW.ac.tr w) w.1.1 w.1.2
        split
        · exact key [] (accM (accM z)) EgW.rf
        · obtain ⟨l', zc, e, w⟩ := eg_clp hE (r := rbM z) 501 [(xnM (E (accM (accM z))) : Int) - 1] (E (accM (accM z)))
          show EgS z (clpM E (rbM z) 501 [(xnM (E (accM (accM z))) : Int) - 1] (E (accM (accM z))))
          rw [e]
          exact key l' zc ((hE _).1.tr w)
      split
      · refine EgS.mk (EgW.lf (z1 := accM (accM z)) (EgW.ac.tr EgW.ac) rfl rfl (fun f => ?_)) mv_acc.2 (gd_acc _)
        have f : zFt (accY (accY z.1)) = 0 := f
        have a := ac_lt f
        have b := ac_lt ((gd_acc _).z f)
        show zAt z.1 ≤ zAt z.1 + 1 ∧ zAt z.1 + 1 < zAt (accY (accY z.1))
        omega
      · refine EgS.mk (EgW.lf (z1 := accM z) EgW.ac rfl rfl (fun f => ?_)) (Int.le_refl _) GpY.rf
        have f : zFt (accY z.1) = 0 := f
        have a := ac_lt f
        show zAt z.1 ≤ zAt z.1 ∧ zAt z.1 < zAt (accY z.1)
        omega
    split
    · refine EgS.mk (EgW.lf (z1 := accM z) EgW.ac rfl rfl (fun f => ?_)) (Int.le_refl _) GpY.rf
      have f : zFt (accY z.1) = 0 := f
      have a := ac_lt f
      show zAt z.1 ≤ zAt z.1 ∧ zAt z.1 < zAt (accY z.1)
      omega
    · exact ⟨EgW.ra, fun f => absurd f (ra_ft (by decide))⟩
  exact md
theorem eg_lv : ∀ n, EgM (eM N n) ∧ EgM (cM N n) ∧ ∀ g, EgM (oM N n g) := by
  intro n
  induction n with
  | zero => exact ⟨fun _ => ⟨EgW.ra, fun f => absurd f (ra_ft (by decide))⟩, fun _ => ⟨EgW.ra, fun f => absurd f (ra_ft (by decide))⟩, fun _ _ => ⟨EgW.ra, fun f => absurd f (ra_ft (by decide))⟩⟩
  | succ n ih =>
    have hO : ∀ g, EgM (oprM N n (eM N n) (oM N n) g) := fun g => eg_opr ih.1 ih.2.2 g
    exact ⟨eg_xps (hO 0) ih.1 ih.2.1, eg_chc (hO 0) ih.1 ih.2.1, hO⟩
end

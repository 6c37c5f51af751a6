/-! where STORES of variables lie; MARKS of taking have their assignment -/
def StO (z : ZS) : Prop := ∀ x l, (.inl x :: l) <:+ z.2.1 → x.1.1 = 15 → ∃ (t : List XrZ) (y : Int × Int × Int × Int × Int) (l0 : List ItZ), l = t.map Sum.inl ++ (.inr y :: l0) ∧ XdE (.inr y :: l0) l ∧ x.2.2.1.2.1 = (xcZ l : Int) - 1 ∧ (∀ w, .inl w ∈ l0 → NvI w → w.2.1.1 < (vrL (zVs z.1) x.2.1.2.1.toNat).1) ∧ ∀ w, .inl w ∈ l0 → w.1.1 = 15 → w.2.1.2.1 < x.2.1.2.1
def CpO (L : List ItZ) : Prop := ∀ x, .inl x ∈ L → x.1.1 = 14 → ∃ y, .inl y ∈ L ∧ y.1.1 = 9 ∧ y.2.1.1 = x.2.1.1 ∧ y.2.1.2.1 = x.2.1.2.1
def IvI (z : ZS) : Prop := CpO z.2.1 ∧ (∀ w, .inl w ∈ z.2.1 → NvI w → 0 ≤ w.2.1.1 ∧ w.2.1.1 < zAt z.1) ∧ (∀ w, .inl w ∈ z.2.1 → w.1.1 = 15 → 0 ≤ w.2.1.2.1 ∧ w.2.1.2.1 < (vnW z : Int)) ∧ StO z
def IvW (z0 z : ZS) : Prop := GpY z0.1 z.1 ∧ (zFt z.1 = 0 → 0 ≤ zAt z0.1 → zAt z0.1 ≤ 500 → IvI z0 → IvI z)
section
variable {N : Int → Int} {z0 z z' : ZS} {a b c : ZS} {j n k : Nat}
theorem zv_2 {s t : SpC} (h : s.2 = t.2) : zVs s = zVs t := by
  unfold zVs
  rw [h]
theorem IvW.rf : IvW z z := ⟨GpY.rf, fun _ _ _ h => h⟩
theorem IvW.tr (h : IvW a b) (g : IvW b c) : IvW a c := ⟨h.1.tr g.1, fun f p q i => by
  have m := h.1.2 q
  exact g.2 f (by omega) m.2 (h.2 (g.1.z f) p q i)⟩
theorem in_u {x : XrZ} {l : List ItZ} : ∀ {u : List (Int × Int × Int × Int × Int)}, (.inl x ∈ u.map Sum.inr ++ l ↔ .inl x ∈ l) ∧ ∀ m, (.inl x :: m) <:+ (u.map Sum.inr ++ l) → (.inl x :: m) <:+ l := by
  intro u
  induction u with
  | nil => exact ⟨Iff.rfl, fun _ h => h⟩
  | cons y u ih =>
    constructor
    · rw [← ih.1]
      constructor
      · intro h
        rcases List.mem_cons.mp (show .inl x ∈ Sum.inr y :: (u.map Sum.inr ++ l) from h) with e | e
        · cases e
        · exact e
      · exact fun h => List.mem_cons_of_mem _ h
    · intro m h
      rcases List.suffix_cons_iff.mp (show (.inl x :: m) <:+ (Sum.inr y :: (u.map Sum.inr ++ l)) from h) with e | e
      · cases (List.cons.inj e).1
      · exact ih.2 m e
theorem IvW.mv (u : List (Int × Int × Int × Int × Int)) (e : z'.2.1 = u.map Sum.inr ++ z.2.1) (g : GpY z.1 z'.1) (ev : zVs z'.1 = zVs z.1) : IvW z z' := ⟨g, fun _ _ p ⟨h1, h2, h3, h4⟩ => by
  have m := g.2 p
  have en : vnW z' = vnW z := by unfold vnW; rw [ev]
  have mi : ∀ x, .inl x ∈ z'.2.1 ↔ .inl x ∈ z.2.1 := fun x => by rw [e]; exact in_u.1
  refine ⟨fun x hx k => ?_, fun w hw k => ?_, fun w hw k => ?_, fun x l hx k => ?_⟩
  · obtain ⟨y, y1, y2⟩ := h1 x ((mi x).mp hx) k
    exact ⟨y, (mi y).mpr y1, y2⟩
  · have := h2 w ((mi w).mp hw) k
    omega
  · rw [en]
    exact h3 w ((mi w).mp hw) k
  · rw [e] at hx
    rw [ev]
    exact h4 x l (in_u.2 l hx) k⟩
theorem IvW.s {s' : SpC} (g : GpY z.1 s') (e2 : s'.2 = z.1.2) : IvW z (s', z.2) := IvW.mv [] rfl g (by show zVs s' = _; unfold zVs; rw [e2])
theorem IvW.it {y : Int × Int × Int × Int × Int} : IvW z (z.1, .inr y :: z.2.1, z.2.2) := IvW.mv [y] rfl GpY.rf rfl
theorem vrl_c {a : Int × Int × Int × Int} {l : List (Int × Int × Int × Int)} {u : Nat} : vrL (a :: l) u = if u = l.length then a else vrL l u := rfl
theorem IvW.dc {ty f h : Int} : IvW z (dcM N ty f h z) := ⟨gd_dcl _, fun e p0 p ⟨h1, h2, h3, h4⟩ => by
  have e : zFt (dclY ty f h z.1) = 0 := e
  obtain ⟨d1, d2, d3, d4⟩ := dcl_ok e
  have en : vnW (dcM N ty f h z) = vnW z + 1 := by
    show (zVs (dclY ty f h z.1)).length = _
    rw [d1]
    rfl
  refine ⟨h1, fun w hw k => ?_, fun w hw k => ?_, fun x l hx k => ?_⟩
  · have := h2 w hw k
    show _ ∧ _ < zAt (dclY ty f h z.1)
    omega
  · have := h3 w hw k
    rw [en]
    omega
  · obtain ⟨t, y, l0, a1, a2, a3, a4, a5⟩ := h4 x l hx k
    have r := h3 x (hx.subset List.mem_cons_self) k
    refine ⟨t, y, l0, a1, a2, a3, fun w hw kw => ?_, a5⟩
    show _ < (vrL (zVs (dclY ty f h z.1)) _).1
    rw [d1, vrl_c, if_neg (by have : vnW z = (zVs z.1).length := rfl; omega)]
    exact a4 w hw kw⟩
theorem sf_tx {x : XrZ} {l m : List ItZ} : ∀ {t : List XrZ}, (.inl x :: l) <:+ (t.map Sum.inl ++ m) → x ∈ t ∨ (.inl x :: l) <:+ m := by
  intro t
  induction t with
  | nil => exact fun h => Or.inr h
  | cons w t ih =>
    intro h
    rcases List.suffix_cons_iff.mp (show (Sum.inl x :: l) <:+ (Sum.inl w :: (t.map Sum.inl ++ m)) from h) with e | e
    · cases (List.cons.inj e).1
      exact Or.inl List.mem_cons_self
    · exact (ih e).imp (fun q => List.mem_cons_of_mem _ q) id
theorem in_tx {x : XrZ} {t : List XrZ} {m : List ItZ} : .inl x ∈ t.map Sum.inl ++ m ↔ x ∈ t ∨ .inl x ∈ m := by
  rw [List.mem_append]
  constructor
  · rintro (h | h)
    · obtain ⟨y, y1, y2⟩ := List.mem_map.mp h
      cases y2
      exact Or.inl y1
    · exact Or.inr h
  · rintro (h | h)
    · exact Or.inl (List.mem_map.mpr ⟨x, h, rfl⟩)
    · exact Or.inr h
theorem IvW.ee : IvW z (eM N n z) := by
  have g : GpY z.1 (eM N n z).1 := by rw [lf_e z]; exact gd_e _
  refine ⟨g, fun f p0 p ⟨h1, h2, h3, h4⟩ => ?_⟩
  obtain ⟨t, et, pt⟩ := ((ew_lv (N := N) n).1 z).2 f p
  obtain ⟨r, _, _, _, _, _, xd⟩ := ex_lay (N := N) (n := n) (z := z) f
  have kd := xd.1 t et
  have m := g.2 p
  have e2 := e_2 (N := N) (n := n) p0
  have ev : zVs (eM N n z).1 = zVs z.1 := by unfold zVs; rw [e2]
  have en : vnW (eM N n z) = vnW z := by unfold vnW; rw [ev]
  refine ⟨fun x hx k => ?_, fun w hw k => ?_, fun w hw k => ?_, fun x l hx k => ?_⟩
  · rw [et] at hx ⊢
    rcases in_tx.mp hx with q | q
    · obtain ⟨y, y1, y2, y3⟩ := pt.2.2.2 x q k
      refine ⟨y, in_tx.mpr (Or.inl y1), y2, y3, ?_⟩
      rw [pt.2.1 y y1 (by omega), pt.2.1 x q (by omega), y3]
    · obtain ⟨y, y1, y2⟩ := h1 x q k
      exact ⟨y, in_tx.mpr (Or.inr y1), y2⟩
  · rw [et] at hw
    rcases in_tx.mp hw with q | q
    · have := pt.1 w q (by unfold NvI at k; unfold NmI; omega)
      omega
    · have := h2 w q k
      omega
  · rw [et] at hw
    rw [en]
    rcases in_tx.mp hw with q | q
    · have := kd w q
      omega
    · exact h3 w q k
  · rw [et] at hx
    rw [ev]
    rcases sf_tx hx with q | q
    · have := kd x q
      omega
    · exact h4 x l q k
theorem IvW.se {f : SrZ → SrZ} : IvW z (seM j f z) := IvW.mv [] rfl GpY.rf rfl
theorem IvW.va1 {f ty : Int} (ht : 0 ≤ ty ∧ ty ≤ 4) : IvW z (va1M N j n f ty z) := by
  have q1 : IvW z (seM j (sLk (zVs z.1).length) (dcM N ty f 1 z)) := (IvW.dc (N := N) (ty := ty) (f := f) (h := 1)).tr IvW.se
  refine ⟨(RkW.va1 (N := N) ht).1.1, fun e p0 p h => ?_⟩
  have e : zFt (va2M N j n f (zVs z.1).length (zAt z.1) (seM j (sLk (zVs z.1).length) (dcM N ty f 1 z))).1 = 0 := e
  show IvI (va2M N j n f (zVs z.1).length (zAt z.1) (seM j (sLk (zVs z.1).length) (dcM N ty f 1 z)))
  unfold va2M at e ⊢
  split
  · rename_i c
    rw [if_pos c] at e
    have e : zFt (exS N j n (xpM 8 (coM 22 ((zVs z.1).length : Int) 2 (zAt z.1) (seM j (sLk (zVs z.1).length) (dcM N ty f 1 z))))).1 = 0 := e
    have q2 : IvW z (xpM 8 (coM 22 ((zVs z.1).length : Int) 2 (zAt z.1) (seM j (sLk (zVs z.1).length) (dcM N ty f 1 z)))) := (q1.tr IvW.it).tr (IvW.s (gd_xp _) mv_xp.1)
    have q3 : IvW z (exS N j n (xpM 8 (coM 22 ((zVs z.1).length : Int) 2 (zAt z.1) (seM j (sLk (zVs z.1).length) (dcM N ty f 1 z))))) := (q2.tr IvW.ee).tr IvW.se
    have ed : zFt (dclY ty f 1 z.1) = 0 := (GpY.tr (gd_xp (dclY ty f 1 z.1)) (by
      have g : GpY (xpM 8 (coM 22 ((zVs z.1).length : Int) 2 (zAt z.1) (seM j (sLk (zVs z.1).length) (dcM N ty f 1 z)))).1 (eM N n (xpM 8 (coM 22 ((zVs z.1).length : Int) 2 (zAt z.1) (seM j (sLk (zVs z.1).length) (dcM N ty f 1 z))))).1 := by rw [lf_e _]; exact gd_e _
      exact g)).z e
    obtain ⟨d1, d2, d3, d4⟩ := dcl_ok ed
    have i3 := q3.2 e p0 p h
    obtain ⟨r, m0, em, _, _, _, xd⟩ := ex_lay (N := N) (n := n) (z := xpM 8 (coM 22 ((zVs z.1).length : Int) 2 (zAt z.1) (seM j (sLk (zVs z.1).length) (dcM N ty f 1 z)))) e
    obtain ⟨t, et⟩ := (ix_lv (N := N) n).1 (xpM 8 (coM 22 ((zVs z.1).length : Int) 2 (zAt z.1) (seM j (sLk (zVs z.1).length) (dcM N ty f 1 z))))
    have pp := (q2.1.2 p)
    have e2 := e_2 (N := N) (n := n) (z := xpM 8 (coM 22 ((zVs z.1).length : Int) 2 (zAt z.1) (seM j (sLk (zVs z.1).length) (dcM N ty f 1 z)))) (by omega)
    have ev : zVs (eM N n (xpM 8 (coM 22 ((zVs z.1).length : Int) 2 (zAt z.1) (seM j (sLk (zVs z.1).length) (dcM N ty f 1 z))))).1 = (zAt z.1, ty, f, ((zMs z.1).length : Int) - 1) :: zVs z.1 := (zv_2 e2).trans ((zv_2 mv_xp.1).trans d1)
    obtain ⟨i1, i2, i4, i5⟩ := i3
    obtain ⟨h1, h2, h3, h4⟩ := h
    refine ⟨fun x hx k => ?_, fun w hw k => ?_, fun w hw k => ?_, fun x l hx k => ?_⟩
    · rcases List.mem_cons.mp hx with q | q
      · cases q
        exact absurd k (by show ¬ (15 : Int) = 14; decide)
      · obtain ⟨y, y1, y2⟩ := i1 x q k
        exact ⟨y, List.mem_cons_of_mem _ y1, y2⟩
    · rcases List.mem_cons.mp hw with q | q
      · cases q
        exact absurd k (by show ¬ ((15 : Int) = 2 ∨ (15 : Int) = 6 ∨ (15 : Int) = 9 ∨ (15 : Int) = 14); decide)
      · exact i2 w q k
    · rcases List.mem_cons.mp hw with q | q
      · cases q
        show 0 ≤ (((zVs z.1).length : Nat) : Int) ∧ (((zVs z.1).length : Nat) : Int) < (((zVs (eM N n (xpM 8 (coM 22 ((zVs z.1).length : Int) 2 (zAt z.1) (seM j (sLk (zVs z.1).length) (dcM N ty f 1 z))))).1).length : Nat) : Int)
        rw [ev, List.length_cons]
        omega
      · exact i4 w q k
    · rcases List.suffix_cons_iff.mp hx with q | q
      · obtain ⟨a1, a2⟩ := List.cons.inj q
        cases a1
        refine ⟨t, (22, ((zVs z.1).length : Int), 2, zAt z.1, -1), z.2.1, by rw [a2]; exact et, by rw [a2]; exact xd, ?_, fun w hw kw => ?_, fun w hw kw => ?_⟩
        · rw [a2]
          rfl
        · show w.2.1.1 < (vrL (zVs (eM N n (xpM 8 (coM 22 ((zVs z.1).length : Int) 2 (zAt z.1) (seM j (sLk (zVs z.1).length) (dcM N ty f 1 z))))).1) (zVs z.1).length).1
          rw [ev, vrl_c, if_pos rfl]
          exact (h2 w hw kw).2
        · exact (h3 w hw kw).2
      · exact i5 x l q k
  · rename_i c
    rw [if_neg c] at e
    exact (q1.tr IvW.it).2 e p0 p h
theorem IvW.lb : IvW z (laB n z) := IvW.mv [(41, (tnM z : Int), 0, zAt z.1, -1), (20, 0, 0, zAt z.1, -1)] rfl (GpY.tr (gd_acc _) (gd_xp _)) (by show zVs (xpY 6 (accY z.1)) = _; unfold zVs; rw [mv_xp.1, mv_acc.1])
theorem IvW.ju {c : Int} : IvW z (juM N c n z) := by
  have key : ∀ (w : ZS) (e : Nat), IvW z w → IvW z (enM (snM z) e (xpM 4 w)) := fun w e h => (h.tr (IvW.s (gd_xp _) mv_xp.1)).tr IvW.it
  refine key _ _ ?_
  show IvW z (if codY (accY z.1) = 80 then _ else _)
  have q : IvW z (accM (bgM c n z)) := IvW.mv [(20, 0, 0, zAt z.1, -1)] rfl (gd_acc z.1) (by show zVs (accY z.1) = _; unfold zVs; rw [mv_acc.1])
  split
  · exact ((q.tr IvW.se).tr IvW.it).tr (IvW.s (gd_acc _) mv_acc.1)
  · exact q.tr IvW.it
end
theorem iv_w {N : Int → Int} : WkC N IvW := ⟨fun _ => IvW.rf, fun _ _ _ => IvW.tr, fun _ _ g e => IvW.s g e, fun _ _ _ => IvW.it, fun _ _ _ _ _ h => IvW.va1 h, fun _ _ => IvW.mv [] rfl GpY.rf rfl, fun _ => IvW.mv [] rfl GpY.rf rfl, fun _ _ _ _ => IvW.se, fun _ _ _ => IvW.mv [] rfl GpY.rf rfl, fun _ _ _ => IvW.mv [] rfl GpY.rf rfl, fun _ _ _ _ _ => IvW.dc, fun _ _ _ => IvW.mv [] rfl (gd_pad _) rfl, fun _ _ => IvW.ee, fun _ _ _ => IvW.lb, fun _ _ _ _ => IvW.ju, fun z ty _ _ _ => IvW.mv [] rfl (GpY.tr (gd_met z.1) (gd_acc _)) (by show zVs (accY (metY ty z.1)) = _; unfold zVs; rw [mv_acc.1]; rfl), fun _ _ _ => IvW.it⟩
theorem iv_all {N : Int → Int} {f : Nat} {s : SpC} (h : zFt (prM N f (z0S s)).1 = 0) (hs : Z0Y s) : IvI (prM N f (z0S s)) := by
  obtain ⟨h1, h2, h3, h4⟩ := hs
  exact (Rl.pr (N := N) (R := IvW) f (z0S s) iv_w).2 h (by show 0 ≤ zAt s; omega) (by show zAt s ≤ 500; omega) ⟨fun y hy => absurd hy List.not_mem_nil, fun y hy => absurd hy List.not_mem_nil, fun y hy => absurd hy List.not_mem_nil, fun x l hx => absurd (hx.subset List.mem_cons_self) List.not_mem_nil⟩

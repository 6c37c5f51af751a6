/-! declarations name variables that are told -/
def DvI (z : ZS) : Prop := ∀ y, .inr y ∈ z.2.1 → y.1 = 22 → (y.2.2.1 = 0 ∨ y.2.2.1 = 2) ∧ 0 ≤ y.2.1 ∧ y.2.1 < (vnW z : Int)
def DvW (z0 z : ZS) : Prop := GpY z0.1 z.1 ∧ (zFt z.1 = 0 → 0 ≤ zAt z0.1 → zAt z0.1 ≤ 500 → DvI z0 → DvI z)
section
variable {N : Int → Int} {z0 z z' : ZS} {a b c : ZS} {j n k : Nat}
theorem DvW.rf : DvW z z := ⟨GpY.rf, fun _ _ _ h => h⟩
theorem DvW.tr (h : DvW a b) (g : DvW b c) : DvW a c := ⟨h.1.tr g.1, fun f p q i => by
  have m := h.1.2 q
  exact g.2 f (by omega) m.2 (h.2 (g.1.z f) p q i)⟩
theorem DvW.mv (g : GpY z.1 z'.1) (e : ∀ y, .inr y ∈ z'.2.1 → y.1 = 22 → .inr y ∈ z.2.1) (ev : vnW z ≤ vnW z') : DvW z z' := ⟨g, fun _ _ _ h => fun y hy k => by
  have := h y (e y hy k) k
  exact ⟨this.1, this.2.1, by omega⟩⟩
theorem vn_e (e : z'.1.2 = z.1.2) : vnW z' = vnW z := by unfold vnW; rw [zv_2 e]
theorem DvW.s {s' : SpC} (g : GpY z.1 s') (e2 : s'.2 = z.1.2) : DvW z (s', z.2) := DvW.mv g (fun _ h _ => h) (Nat.le_of_eq (vn_e (z' := (s', z.2)) e2).symm)
theorem DvW.it {y : Int × Int × Int × Int × Int} (h : ¬ y.1 = 22) : DvW z (z.1, .inr y :: z.2.1, z.2.2) := DvW.mv GpY.rf (fun w hw k => by
  rcases List.mem_cons.mp hw with q | q
  · cases q
    exact absurd k h
  · exact q) (Nat.le_refl _)
theorem DvW.dc {ty f h : Int} : DvW z (dcM N ty f h z) := ⟨gd_dcl _, fun e p0 p h1 => by
  have e : zFt (dclY ty f h z.1) = 0 := e
  obtain ⟨d1, d2, d3, d4⟩ := dcl_ok e
  have en : vnW (dcM N ty f h z) = vnW z + 1 := by
    show (zVs (dclY ty f h z.1)).length = _
    rw [d1]
    rfl
  intro y hy k
  have := h1 y hy k
  rw [en]
  exact ⟨this.1, this.2.1, by omega⟩⟩
theorem DvW.ee : DvW z (eM N n z) := ⟨by rw [lf_e z]; exact gd_e _, fun _ p0 _ h => by
  obtain ⟨t, et⟩ := (ix_lv (N := N) n).1 z
  intro y hy k
  rw [et] at hy
  have hy : .inr y ∈ z.2.1 := by
    rcases List.mem_append.mp hy with q | q
    · obtain ⟨w, _, w2⟩ := List.mem_map.mp q
      cases w2
    · exact q
  rw [vn_e (e_2 (N := N) (n := n) p0)]
  exact h y hy k⟩
theorem DvW.se {f : SrZ → SrZ} : DvW z (seM j f z) := DvW.mv GpY.rf (fun _ h _ => h) (Nat.le_refl _)
theorem DvW.pu {x : XrZ} : DvW z (puM x z) := DvW.mv GpY.rf (fun w hw k => by
  rcases List.mem_cons.mp hw with q | q
  · cases q
  · exact q) (Nat.le_refl _)
theorem DvW.va1 {f ty : Int} : DvW z (va1M N j n f ty z) := by
  have q1 : DvW z (seM j (sLk (zVs z.1).length) (dcM N ty f 1 z)) := (DvW.dc (N := N) (ty := ty) (f := f) (h := 1)).tr DvW.se
  have key : ∀ b : Int, b = 0 ∨ b = 2 → DvW z (coM 22 ((zVs z.1).length : Int) b (zAt z.1) (seM j (sLk (zVs z.1).length) (dcM N ty f 1 z))) := fun b hb => ⟨q1.1, fun e p0 p h => by
    have i := q1.2 e p0 p h
    have e : zFt (dclY ty f 1 z.1) = 0 := e
    obtain ⟨d1, d2, d3, d4⟩ := dcl_ok e
    have en : vnW (seM j (sLk (zVs z.1).length) (dcM N ty f 1 z)) = (zVs z.1).length + 1 := by
      show (zVs (dclY ty f 1 z.1)).length = _
      rw [d1]
      rfl
    intro y hy k
    rcases List.mem_cons.mp hy with q | q
    · cases q
      refine ⟨hb, by show (0 : Int) ≤ ((zVs z.1).length : Int); omega, ?_⟩
      show ((zVs z.1).length : Int) < ((vnW (seM j (sLk (zVs z.1).length) (dcM N ty f 1 z)) : Nat) : Int)
      rw [en]
      omega
    · exact i y q k⟩
  show DvW z (va2M N j n f (zVs z.1).length (zAt z.1) _)
  unfold va2M
  split
  · refine DvW.tr ?_ DvW.pu
    exact (((key 2 (Or.inr rfl)).tr (DvW.s (gd_xp _) mv_xp.1)).tr DvW.ee).tr DvW.se
  · exact key 0 (Or.inl rfl)
theorem DvW.lb : DvW z (laB n z) := DvW.mv (GpY.tr (gd_acc _) (gd_xp _)) (fun w hw k => by
  rcases List.mem_cons.mp hw with q | q
  · cases q
    exact absurd k (by show ¬ (41 : Int) = 22; decide)
  · rcases List.mem_cons.mp q with q | q
    · cases q
      exact absurd k (by show ¬ (20 : Int) = 22; decide)
    · exact q) (Nat.le_of_eq (vn_e (z' := laB n z) (mv_xp.1.trans mv_acc.1)).symm)
theorem DvW.ju {c : Int} (hc : c = 64 ∨ c = 65) : DvW z (juM N c n z) := by
  have key : ∀ (w : ZS) (e : Nat), DvW z w → DvW z (enM (snM z) e (xpM 4 w)) := fun w e h => (h.tr (DvW.s (gd_xp _) mv_xp.1)).tr (DvW.it (by show ¬ (45 : Int) = 22; decide))
  refine key _ _ ?_
  show DvW z (if codY (accY z.1) = 80 then _ else _)
  have q : DvW z (accM (bgM c n z)) := (DvW.it (z := z) (y := (20, 0, 0, zAt z.1, -1)) (by show ¬ (20 : Int) = 22; decide)).tr (DvW.mv (gd_acc z.1) (fun _ h _ => h) (Nat.le_of_eq (vn_e (z' := accM (bgM c n z)) mv_acc.1).symm))
  split
  · exact ((q.tr DvW.se).tr (DvW.it (by show ¬ c - 18 = 22; omega))).tr (DvW.s (gd_acc _) mv_acc.1)
  · exact q.tr (DvW.it (by show ¬ c - 18 = 22; omega))
theorem DvW.pad {ty : Int} : DvW z (padY ty z.1, z.2) := DvW.mv (gd_pad _) (fun _ h _ => h) (Nat.le_refl _)
theorem DvW.me {ty : Int} : DvW z (accM (me0M ty z)) := DvW.mv (GpY.tr (gd_met z.1) (gd_acc _)) (fun _ h _ => h) (by
  have ev : zVs (accY (metY ty z.1)) = zVs z.1 := (zv_2 mv_acc.1).trans rfl
  show (zVs z.1).length ≤ (zVs (accY (metY ty z.1))).length
  rw [ev]
  exact Nat.le_refl _)
end
theorem dv_w {N : Int → Int} : WkC N DvW := ⟨fun _ => DvW.rf, fun _ _ _ => DvW.tr, fun _ _ g e => DvW.s g e, fun _ _ h => DvW.it h.2.2.2.2, fun _ _ _ _ _ _ => DvW.va1, fun _ _ => DvW.mv GpY.rf (fun _ h _ => h) (Nat.le_refl _), fun _ => DvW.mv GpY.rf (fun _ h _ => h) (Nat.le_refl _), fun _ _ _ _ => DvW.se, fun _ _ _ => DvW.mv GpY.rf (fun _ h _ => h) (Nat.le_refl _), fun _ _ _ => DvW.mv GpY.rf (fun _ h _ => h) (Nat.le_refl _), fun _ _ _ _ _ => DvW.dc, fun _ _ _ => DvW.pad, fun _ _ => DvW.ee, fun _ _ _ => DvW.lb, fun _ _ _ h => DvW.ju h, fun _ _ _ _ _ => DvW.me, fun _ _ _ => DvW.it (by show ¬ (54 : Int) = 22; decide)⟩
theorem dv_all {N : Int → Int} {f : Nat} {s : SpC} (h : zFt (prM N f (z0S s)).1 = 0) (hs : Z0Y s) : DvI (prM N f (z0S s)) := by
  have h1 := hs.1
  exact (Rl.pr (N := N) (R := DvW) f (z0S s) dv_w).2 h (by show 0 ≤ zAt s; omega) (by show zAt s ≤ 500; omega) (fun y hy => absurd hy List.not_mem_nil)

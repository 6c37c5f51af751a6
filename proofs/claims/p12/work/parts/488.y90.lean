/-! what each record tells of itself, in all that is read; methods of variables -/
def RpI (z : ZS) : Prop := (∀ x, .inl x ∈ z.2.1 → RpX (zK z.1) (zAt z.1) x) ∧ ∀ v ∈ zVs z.1, v.2.2.2 < ((zMs z.1).length : Int)
def RqW (z0 z : ZS) : Prop := GpY z0.1 z.1 ∧ (zFt z.1 = 0 → 0 ≤ zAt z0.1 → zAt z0.1 ≤ 500 → RpI z0 → RpI z)
section
variable {N : Int → Int} {z0 z z' : ZS} {a b c : ZS} {j n k : Nat}
theorem RqW.rf : RqW z z := ⟨GpY.rf, fun _ _ _ h => h⟩
theorem RqW.tr (h : RqW a b) (g : RqW b c) : RqW a c := ⟨h.1.tr g.1, fun f p q i => by
  have m := h.1.2 q
  exact g.2 f (by omega) m.2 (h.2 (g.1.z f) p q i)⟩
/-- no record more that counts, nothing told but places -/
theorem RqW.mv (g : GpY z.1 z'.1) (e : ∀ x, .inl x ∈ z'.2.1 → x.1.1 = 15 ∨ .inl x ∈ z.2.1) (e2 : z'.1.2 = z.1.2) : RqW z z' := ⟨g, fun _ _ p h => by
  have m := g.2 p
  have ek : zK z'.1 = zK z.1 := by unfold zK; rw [e2]
  refine ⟨fun x hx => ?_, ?_⟩
  · rw [ek]
    rcases e x hx with q | q
    · exact rp_o (by omega) (fun r => by omega)
    · exact (h.1 x q).wd m.1
  · rw [zv_2 e2, zm_2 e2]
    exact h.2⟩
theorem RqW.s {s' : SpC} (g : GpY z.1 s') (e2 : s'.2 = z.1.2) : RqW z (s', z.2) := RqW.mv g (fun _ h => Or.inr h) e2
theorem RqW.it {y : Int × Int × Int × Int × Int} : RqW z (z.1, .inr y :: z.2.1, z.2.2) := RqW.mv GpY.rf (fun x h => by
  rcases List.mem_cons.mp h with e | e
  · cases e
  · exact Or.inr e) rfl
theorem RqW.pu {x : XrZ} (k : x.1.1 = 15) : RqW z (puM x z) := RqW.mv GpY.rf (fun y h => by
  rcases List.mem_cons.mp h with e | e
  · cases e
    exact Or.inl k
  · exact Or.inr e) rfl
theorem RqW.dc {ty f h : Int} : RqW z (dcM N ty f h z) := ⟨gd_dcl _, fun e p0 p ⟨h1, h2⟩ => by
  have e : zFt (dclY ty f h z.1) = 0 := e
  obtain ⟨d1, d2, d3, d4⟩ := dcl_ok e
  have m := (gd_dcl (ty := ty) (f := f) (h := h) z.1).2 p
  have ek : zK (dclY ty f h z.1) = zK z.1 := zk_n (gn_dcl _)
  refine ⟨fun x hx => ?_, fun v hv => ?_⟩
  · show RpX (zK (dclY ty f h z.1)) (zAt (dclY ty f h z.1)) x
    rw [ek]
    exact (h1 x hx).wd m.1
  · have hv : v ∈ zVs (dclY ty f h z.1) := hv
    show v.2.2.2 < ((zMs (dclY ty f h z.1)).length : Int)
    rw [d1] at hv
    rw [d2]
    rcases List.mem_cons.mp hv with q | q
    · rw [q]
      show ((zMs z.1).length : Int) - 1 < _
      omega
    · exact h2 v q⟩
theorem RqW.ee : RqW z (eM N n z) := by
  have g : GpY z.1 (eM N n z).1 := by rw [lf_e z]; exact gd_e _
  refine ⟨g, fun f p0 p h => ?_⟩
  obtain ⟨⟨_, _, ek⟩, q⟩ := (rp_lv (N := N) n).1 z p0
  obtain ⟨t, et, pt⟩ := q f
  have m := g.2 p
  have e2 := e_2 (N := N) (n := n) p0
  refine ⟨fun x hx => ?_, ?_⟩
  · rw [et] at hx
    rw [ek]
    rcases in_tx.mp hx with q | q
    · exact pt x q
    · exact (h.1 x q).wd m.1
  · rw [zv_2 e2, zm_2 e2]
    exact h.2
theorem RqW.se {f : SrZ → SrZ} : RqW z (seM j f z) := RqW.mv GpY.rf (fun _ h => Or.inr h) rfl
theorem RqW.va1 {f ty : Int} : RqW z (va1M N j n f ty z) := by
  refine ((RqW.dc (N := N) (ty := ty) (f := f) (h := 1)).tr (RqW.se (j := j) (f := sLk (zVs z.1).length))).tr ?_
  show RqW _ (va2M N j n f (zVs z.1).length (zAt z.1) _)
  unfold va2M
  split
  · refine RqW.tr ?_ (RqW.pu rfl)
    exact ((RqW.it.tr (RqW.s (gd_xp _) mv_xp.1)).tr RqW.ee).tr RqW.se
  · exact RqW.mv GpY.rf (fun x h => by
      rcases List.mem_cons.mp h with e | e
      · cases e
      · exact Or.inr e) rfl
theorem RqW.ju {c : Int} : RqW z (juM N c n z) := by
  have key : ∀ (w : ZS) (e : Nat), RqW z w → RqW z (enM (snM z) e (xpM 4 w)) := fun w e h => (h.tr (RqW.s (gd_xp _) mv_xp.1)).tr RqW.it
  refine key _ _ ?_
  show RqW z (if codY (accY z.1) = 80 then _ else _)
  have q : RqW z (accM (bgM c n z)) := (RqW.it (z := z) (y := (20, 0, 0, zAt z.1, -1))).tr (RqW.mv (gd_acc z.1) (fun _ h => Or.inr h) mv_acc.1)
  split
  · exact ((q.tr RqW.se).tr RqW.it).tr (RqW.s (gd_acc _) mv_acc.1)
  · exact q.tr RqW.it
theorem RqW.lb : RqW z (laB n z) := RqW.mv (GpY.tr (gd_acc _) (gd_xp _)) (fun x h => by
  rcases List.mem_cons.mp h with e | e
  · cases e
  · rcases List.mem_cons.mp e with e | e
    · cases e
    · exact Or.inr e) (mv_xp.1.trans mv_acc.1)
theorem RqW.pad {ty : Int} : RqW z (padY ty z.1, z.2) := ⟨gd_pad _, fun _ _ p h => by
  have m := (gd_pad (ty := ty) z.1).2 p
  have ek : zK (padY ty z.1) = zK z.1 := zk_n (gn_pad _)
  refine ⟨fun x hx => ?_, fun v hv => ?_⟩
  · show RpX (zK (padY ty z.1)) (zAt (padY ty z.1)) x
    rw [ek]
    exact (h.1 x hx).wd m.1
  · have q := h.2 v hv
    show v.2.2.2 < (((match zMs z.1 with | [] => [] | (a, b, l) :: r => (a, b, ty :: l) :: r) : List (Int × Int × List Int)).length : Int)
    cases e : zMs z.1 with
    | nil => rw [e] at q; exact q
    | cons a l => rw [e] at q; exact q⟩
theorem RqW.me {ty : Int} : RqW z (accM (me0M ty z)) := ⟨GpY.tr (gd_met z.1) (gd_acc _), fun _ p0 p h => by
  have em : zMs (accY (metY ty z.1)) = (zAt z.1, ty, []) :: zMs z.1 := (zm_2 mv_acc.1).trans rfl
  have ev : zVs (accY (metY ty z.1)) = zVs z.1 := (zv_2 mv_acc.1).trans rfl
  have e2 : (accY (metY ty z.1)).2 = (metY ty z.1).2 := mv_acc.1
  have ek : zK (accY (metY ty z.1)) = zK z.1 := by unfold zK; rw [e2]; rfl
  have m := (GpY.tr (gd_met z.1) (gd_acc (metY ty z.1))).2 p
  refine ⟨fun x hx => ?_, fun v hv => ?_⟩
  · show RpX (zK (accY (metY ty z.1))) (zAt (accY (metY ty z.1))) x
    rw [ek]
    exact (h.1 x hx).wd m.1
  · have hv : v ∈ zVs (accY (metY ty z.1)) := hv
    rw [ev] at hv
    show v.2.2.2 < ((zMs (accY (metY ty z.1))).length : Int)
    rw [em, List.length_cons]
    have := h.2 v hv
    omega⟩
end
theorem rq_w {N : Int → Int} : WkC N RqW := ⟨fun _ => RqW.rf, fun _ _ _ => RqW.tr, fun _ _ g e => RqW.s g e, fun _ _ _ => RqW.it, fun _ _ _ _ _ _ => RqW.va1, fun _ _ => RqW.mv GpY.rf (fun _ h => Or.inr h) rfl, fun _ => RqW.mv GpY.rf (fun _ h => Or.inr h) rfl, fun _ _ _ _ => RqW.se, fun _ _ _ => RqW.mv GpY.rf (fun _ h => Or.inr h) rfl, fun _ _ _ => RqW.mv GpY.rf (fun _ h => Or.inr h) rfl, fun _ _ _ _ _ => RqW.dc, fun _ _ _ => RqW.pad, fun _ _ => RqW.ee, fun _ _ _ => RqW.lb, fun _ _ _ _ => RqW.ju, fun _ _ _ _ _ => RqW.me, fun _ _ _ => RqW.it⟩
theorem rp_z0 {s : SpC} (hs : Z0Y s) : RpI (z0S s) := by
  obtain ⟨h1, h2, h3, h4⟩ := hs
  refine ⟨fun x hx => absurd hx List.not_mem_nil, fun v hv => ?_⟩
  have hv : v ∈ zVs s := hv
  rw [h4] at hv
  exact absurd hv List.not_mem_nil
theorem rp_all {N : Int → Int} {f : Nat} {s : SpC} (h : zFt (prM N f (z0S s)).1 = 0) (hs : Z0Y s) : RpI (prM N f (z0S s)) := by
  have h1 := hs.1
  exact (Rl.pr (N := N) (R := RqW) f (z0S s) rq_w).2 h (by show 0 ≤ zAt s; omega) (by show zAt s ≤ 500; omega) (rp_z0 hs)

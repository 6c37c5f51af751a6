/-! TYPES of methods -/
def TmI (s : SpC) : Prop := ∀ m ∈ zMs s, 0 ≤ m.2.1 ∧ m.2.1 ≤ 5
def TmW (z0 z : ZS) : Prop := GpY z0.1 z.1 ∧ (zFt z.1 = 0 → 0 ≤ zAt z0.1 → zAt z0.1 ≤ 500 → TmI z0.1 → TmI z.1)
section
variable {N : Int → Int} {z0 z z' : ZS} {a b c : ZS} {j n k : Nat}
theorem TmW.rf : TmW z z := ⟨GpY.rf, fun _ _ _ h => h⟩
theorem TmW.tr (h : TmW a b) (g : TmW b c) : TmW a c := ⟨h.1.tr g.1, fun f p q i => by
  have m := h.1.2 q
  exact g.2 f (by omega) m.2 (h.2 (g.1.z f) p q i)⟩
theorem TmW.mv (g : GpY z.1 z'.1) (e : zMs z'.1 = zMs z.1) : TmW z z' := ⟨g, fun _ _ _ h => by
  unfold TmI
  rw [e]
  exact h⟩
theorem zm_2 {s t : SpC} (h : s.2 = t.2) : zMs s = zMs t := by
  unfold zMs
  rw [h]
theorem TmW.s {s' : SpC} (g : GpY z.1 s') (e2 : s'.2 = z.1.2) : TmW z (s', z.2) := TmW.mv g (zm_2 e2)
theorem TmW.dc {ty f h : Int} : TmW z (dcM N ty f h z) := ⟨gd_dcl _, fun e _ _ q => by
  have e : zFt (dclY ty f h z.1) = 0 := e
  have d := (dcl_ok e).2.1
  show TmI (dclY ty f h z.1)
  unfold TmI
  rw [d]
  exact q⟩
theorem TmW.ee : TmW z (eM N n z) := ⟨by rw [lf_e z]; exact gd_e _, fun _ p0 _ q => by
  unfold TmI
  rw [zm_2 (e_2 (N := N) (n := n) p0)]
  exact q⟩
theorem TmW.se {f : SrZ → SrZ} : TmW z (seM j f z) := TmW.mv GpY.rf rfl
theorem TmW.it {y : Int × Int × Int × Int × Int} : TmW z (z.1, .inr y :: z.2.1, z.2.2) := TmW.mv GpY.rf rfl
theorem TmW.pu {x : XrZ} : TmW z (puM x z) := TmW.mv GpY.rf rfl
theorem TmW.va1 {f ty : Int} : TmW z (va1M N j n f ty z) := by
  refine ((TmW.dc (N := N) (ty := ty) (f := f) (h := 1)).tr (TmW.se (j := j) (f := sLk (zVs z.1).length))).tr ?_
  show TmW _ (va2M N j n f (zVs z.1).length (zAt z.1) _)
  unfold va2M
  split
  · refine TmW.tr ?_ TmW.pu
    exact ((TmW.it.tr (TmW.s (gd_xp _) mv_xp.1)).tr TmW.ee).tr TmW.se
  · exact TmW.mv GpY.rf rfl
theorem TmW.ju {c : Int} : TmW z (juM N c n z) := by
  have key : ∀ (w : ZS) (e : Nat), TmW z w → TmW z (enM (snM z) e (xpM 4 w)) := fun w e h => (h.tr (TmW.s (gd_xp _) mv_xp.1)).tr TmW.it
  refine key _ _ ?_
  show TmW z (if codY (accY z.1) = 80 then _ else _)
  have q : TmW z (accM (bgM c n z)) := TmW.mv (gd_acc z.1) (zm_2 mv_acc.1)
  split
  · exact ((q.tr TmW.se).tr TmW.it).tr (TmW.s (gd_acc _) mv_acc.1)
  · exact q.tr TmW.it
theorem TmW.pad {ty : Int} : TmW z (padY ty z.1, z.2) := ⟨gd_pad _, fun _ _ _ h => by
  show ∀ m ∈ ((match zMs z.1 with | [] => [] | (a, b, l) :: r => (a, b, ty :: l) :: r) : List (Int × Int × List Int)), 0 ≤ m.2.1 ∧ m.2.1 ≤ 5
  unfold TmI at h
  cases e : zMs z.1 with
  | nil => exact fun m hm => absurd hm List.not_mem_nil
  | cons a l =>
    rw [e] at h
    intro m hm
    rcases List.mem_cons.mp hm with q | q
    · rw [q]
      exact h a List.mem_cons_self
    · exact h m (List.mem_cons_of_mem _ q)⟩
theorem TmW.me {ty : Int} (ht : 0 ≤ ty ∧ ty ≤ 5) : TmW z (accM (me0M ty z)) := ⟨GpY.tr (gd_met z.1) (gd_acc _), fun _ _ _ h => by
  have em : zMs (accY (metY ty z.1)) = (zAt z.1, ty, []) :: zMs z.1 := (zm_2 mv_acc.1).trans rfl
  show TmI (accY (metY ty z.1))
  unfold TmI
  rw [em]
  intro m hm
  rcases List.mem_cons.mp hm with q | q
  · rw [q]
    exact ht
  · exact h m q⟩
end
theorem tm_w {N : Int → Int} : WkC N TmW := ⟨fun _ => TmW.rf, fun _ _ _ => TmW.tr, fun _ _ g e => TmW.s g e, fun _ _ _ => TmW.mv GpY.rf rfl, fun _ _ _ _ _ _ => TmW.va1, fun _ _ => TmW.mv GpY.rf rfl, fun _ => TmW.mv GpY.rf rfl, fun _ _ _ _ => TmW.se, fun _ _ _ => TmW.mv GpY.rf rfl, fun _ _ _ => TmW.mv GpY.rf rfl, fun _ _ _ _ _ => TmW.dc, fun _ _ _ => TmW.pad, fun _ _ => TmW.ee, fun _ _ _ => TmW.mv (GpY.tr (gd_acc _) (gd_xp _)) ((zm_2 mv_xp.1).trans (zm_2 mv_acc.1)), fun _ _ _ _ => TmW.ju, fun _ _ _ _ h => TmW.me h, fun _ _ _ => TmW.mv GpY.rf rfl⟩
theorem tm_all {N : Int → Int} {f : Nat} {s : SpC} (h : zFt (prM N f (z0S s)).1 = 0) (hs : Z0Y s) : TmI (prM N f (z0S s)).1 := by
  obtain ⟨h1, h2, h3, h4⟩ := hs
  exact (Rl.pr (N := N) (R := TmW) f (z0S s) tm_w).2 h (by show 0 ≤ zAt s; omega) (by show zAt s ≤ 500; omega) (by
    show ∀ m ∈ zMs s, _
    rw [h3]
    exact fun m hm => absurd hm List.not_mem_nil)
/-- TYPES of methods by number -/
theorem my_of {Nv : Int → Int} {Ko Ki : Int} {z : ZS} (h : TmI z.1) : MyT (CxM Nv z.1 (msM Nv Ko Ki z.1)) := fun i e he => by
  have he : msM Nv Ko Ki z.1 i = some e := he
  unfold msM at he
  split at he
  · obtain rfl := Option.some.inj he
    exact ⟨by show (0 : Int) ≤ 5; decide, by show (5 : Int) ≤ 5; decide⟩
  · split at he
    · obtain rfl := Option.some.inj he
      exact ⟨by show (0 : Int) ≤ 3; decide, by show (3 : Int) ≤ 5; decide⟩
    · cases q : mthL (zMs z.1) i with
      | none => rw [q] at he; cases he
      | some m =>
        rw [q] at he
        obtain rfl := Option.some.inj he
        exact h m (mth_mem q)

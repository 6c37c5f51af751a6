/-! tokens of NAMES (variables, methods, in exps, labels) and of jumps are apart -/
def tkL : List ItZ → List Int
  | [] => []
  | .inl x :: l => if x.1.1 = 2 ∨ x.1.1 = 6 ∨ x.1.1 = 9 ∨ x.1.1 = 10 then x.2.1.1 :: tkL l else tkL l
  | .inr y :: l => if y.1 = 41 ∨ y.1 = 46 ∨ y.1 = 47 then y.2.2.2.1 :: tkL l else tkL l
def ckZ (z : ZS) (q : Int) : Nat := (tkL z.2.1).count q + ((zVs z.1).map (fun v => v.1)).count q + ((zMs z.1).map (fun m => m.1)).count q
def NaK (K : Nat → Int) : ItZ → Prop
  | .inl x => NmI x → K x.2.1.1.toNat = 80
  | .inr y => y.1 = 41 → K y.2.2.2.1.toNat = 80
def AkI (z : ZS) : Prop := (∀ q, ckZ z q ≤ 1 ∧ (0 < ckZ z q → 0 ≤ q ∧ q < zAt z.1)) ∧ (∀ y ∈ z.2.1, NaK (zK z.1) y) ∧ ∀ q ∈ (zMs z.1).map (fun m => m.1), zK z.1 q.toNat = 80
def AkW (z0 z : ZS) : Prop := GpY z0.1 z.1 ∧ (zFt z.1 = 0 → 0 ≤ zAt z0.1 → zAt z0.1 ≤ 500 → AkI z0 → AkI z)
theorem ct_1 {q t : Int} {l : List Int} : (t :: l).count q = l.count q + if t = q then 1 else 0 := by
  rw [List.count_cons]
  by_cases e : t = q
  · rw [if_pos e, if_pos (by rw [e]; exact beq_self_eq_true q)]
  · rw [if_neg e, if_neg (fun h => e (eq_of_beq h))]
section
variable {N : Int → Int} {z0 z z' : ZS} {a b c : ZS} {j n k : Nat}
theorem AkW.rf : AkW z z := ⟨GpY.rf, fun _ _ _ h => h⟩
theorem AkW.tr (h : AkW a b) (g : AkW b c) : AkW a c := ⟨h.1.tr g.1, fun f p q i => by
  have m := h.1.2 q
  exact g.2 f (by omega) m.2 (h.2 (g.1.z f) p q i)⟩
theorem AkW.mv (g : GpY z.1 z'.1) (e2 : z'.1.2 = z.1.2) (et : tkL z'.2.1 = tkL z.2.1) (hn : ∀ K, (∀ y ∈ z.2.1, NaK K y) → ∀ y ∈ z'.2.1, NaK K y) : AkW z z' := ⟨g, fun _ _ p ⟨h1, h2, h3⟩ => by
  have m := g.2 p
  have ev : zVs z'.1 = zVs z.1 := by unfold zVs; rw [e2]
  have em : zMs z'.1 = zMs z.1 := by unfold zMs; rw [e2]
  have ez : zK z'.1 = zK z.1 := by unfold zK; rw [e2]
  have ec : ∀ q, ckZ z' q = ckZ z q := fun q => by unfold ckZ; rw [et, ev, em]
  refine ⟨fun q => ⟨by rw [ec]; exact (h1 q).1, fun h => ?_⟩, by rw [ez]; exact hn _ h2, by rw [em, ez]; exact h3⟩
  rw [ec] at h
  have := (h1 q).2 h
  omega⟩
/-- one token more -/
theorem AkW.one {t : Int} (g : GpY z.1 z'.1) (e2 : z'.1.2 = z.1.2) (et : tkL z'.2.1 = t :: tkL z.2.1) (ht : zFt z'.1 = 0 → 0 ≤ zAt z.1 → zAt z.1 ≤ 500 → zAt z.1 ≤ t ∧ t < zAt z'.1) (hn : zFt z'.1 = 0 → (∀ y ∈ z.2.1, NaK (zK z.1) y) → ∀ y ∈ z'.2.1, NaK (zK z.1) y) : AkW z z' := ⟨g, fun f p0 p ⟨h1, h2, h3⟩ => by
  have m := g.2 p
  have tt := ht f p0 p
  have ev : zVs z'.1 = zVs z.1 := by unfold zVs; rw [e2]
  have em : zMs z'.1 = zMs z.1 := by unfold zMs; rw [e2]
  have ez : zK z'.1 = zK z.1 := by unfold zK; rw [e2]
  have ec : ∀ q, ckZ z' q = ckZ z q + if t = q then 1 else 0 := fun q => by
    unfold ckZ
    rw [et, ev, em, ct_1]
    omega
  refine ⟨fun q => ?_, by rw [ez]; exact hn f h2, by rw [em, ez]; exact h3⟩
  rw [ec]
  obtain ⟨a1, a2⟩ := h1 q
  by_cases e : t = q
  · rw [if_pos e]
    have : ¬ 0 < ckZ z q := fun h => by
      have := a2 h
      omega
    omega
  · rw [if_neg e]
    refine ⟨by omega, fun h => ?_⟩
    have := a2 (by omega)
    omega⟩
theorem nak_c {K : Nat → Int} {l : List ItZ} {x : ItZ} (hx : NaK K x) (h : ∀ y ∈ l, NaK K y) : ∀ y ∈ x :: l, NaK K y := fun y hy => by
  rcases List.mem_cons.mp hy with rfl | hy
  · exact hx
  · exact h y hy
theorem AkW.s {s' : SpC} (g : GpY z.1 s') (e2 : s'.2 = z.1.2) : AkW z (s', z.2) := AkW.mv g e2 rfl (fun _ h => h)
theorem AkW.it {y : Int × Int × Int × Int × Int} (h : CdN y.1) : AkW z (z.1, .inr y :: z.2.1, z.2.2) := AkW.mv GpY.rf rfl (if_neg (by omega)) (fun _ p => nak_c (fun e => absurd e h.2.1) p)
theorem AkW.en {a t : Int} : AkW z (coM 54 a 0 t z) := AkW.mv GpY.rf rfl (if_neg (by show ¬ ((54 : Int) = 41 ∨ (54 : Int) = 46 ∨ (54 : Int) = 47); decide)) (fun _ p => nak_c (fun e => absurd e (by show ¬ (54 : Int) = 41; decide)) p)
theorem AkW.pu {x : XrZ} (h : x.1.1 = 15) : AkW z (puM x z) := AkW.mv GpY.rf rfl (if_neg (by omega)) (fun _ p => nak_c (fun e => by unfold NmI at e; omega) p)
theorem AkW.i22 {a b t : Int} : AkW z (coM 22 a b t z) := AkW.mv GpY.rf rfl (if_neg (by show ¬ ((22 : Int) = 41 ∨ (22 : Int) = 46 ∨ (22 : Int) = 47); decide)) (fun _ p => nak_c (fun e => absurd e (by show ¬ (22 : Int) = 41; decide)) p)
theorem AkW.dc {ty f h : Int} : AkW z (dcM N ty f h z) := ⟨gd_dcl _, fun e p0 p ⟨h1, h2, h3⟩ => by
  have e : zFt (dclY ty f h z.1) = 0 := e
  obtain ⟨d1, d2, d3, d4⟩ := dcl_ok e
  have ez : zK (dclY ty f h z.1) = zK z.1 := zk_n (gn_dcl _)
  have ec : ∀ q, ckZ (dcM N ty f h z) q = ckZ z q + if zAt z.1 = q then 1 else 0 := fun q => by
    show (tkL z.2.1).count q + ((zVs (dclY ty f h z.1)).map (fun v => v.1)).count q + ((zMs (dclY ty f h z.1)).map (fun m => m.1)).count q = _
    rw [d1, d2, List.map_cons, ct_1]
    unfold ckZ
    show _ + (_ + if zAt z.1 = q then 1 else 0) + _ = _
    omega
  refine ⟨fun q => ?_, ?_, ?_⟩
  · rw [ec]
    show _ ∧ (_ → 0 ≤ q ∧ q < zAt (dclY ty f h z.1))
    obtain ⟨a1, a2⟩ := h1 q
    by_cases e : zAt z.1 = q
    · rw [if_pos e]
      have : ¬ 0 < ckZ z q := fun h => by
        have := a2 h
        omega
      omega
    · rw [if_neg e]
      refine ⟨by omega, fun h => ?_⟩
      have := a2 (by omega)
      omega
  · show ∀ y ∈ z.2.1, NaK (zK (dclY ty f h z.1)) y
    rw [ez]
    exact h2
  · show ∀ q ∈ (zMs (dclY ty f h z.1)).map (fun m => m.1), zK (dclY ty f h z.1) q.toNat = 80
    rw [ez, d2]
    exact h3⟩
theorem pad_m {ty : Int} {s : SpC} : (zMs (padY ty s)).map (fun m => m.1) = (zMs s).map (fun m => m.1) := by
  show ((match zMs s with | [] => [] | (a, b, l) :: r => (a, b, ty :: l) :: r) : List (Int × Int × List Int)).map (fun m => m.1) = _
  cases zMs s with
  | nil => rfl
  | cons a l => rfl
theorem AkW.pad {ty : Int} : AkW z (padY ty z.1, z.2) := ⟨gd_pad _, fun _ _ p ⟨h1, h2, h3⟩ => by
  have ez : zK (padY ty z.1) = zK z.1 := zk_n (gn_pad _)
  have ec : ∀ q, ckZ (padY ty z.1, z.2) q = ckZ z q := fun q => by
    show (tkL z.2.1).count q + ((zVs z.1).map (fun v => v.1)).count q + ((zMs (padY ty z.1)).map (fun m => m.1)).count q = _
    rw [pad_m]
    rfl
  have m := (gd_pad (ty := ty) z.1).2 p
  refine ⟨fun q => ⟨by rw [ec]; exact (h1 q).1, fun h => ?_⟩, ?_, ?_⟩
  · rw [ec] at h
    have := (h1 q).2 h
    show 0 ≤ q ∧ q < zAt (padY ty z.1)
    omega
  · show ∀ y ∈ z.2.1, NaK (zK (padY ty z.1)) y
    rw [ez]
    exact h2
  · show ∀ q ∈ (zMs (padY ty z.1)).map (fun m => m.1), zK (padY ty z.1) q.toNat = 80
    rw [ez, pad_m]
    exact h3⟩
end

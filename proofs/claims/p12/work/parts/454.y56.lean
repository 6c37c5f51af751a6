/-! the reference's flow: each code of an S in a run -/
/-- jumps since then -/
def JsH (z : ZS) (c0 c1 : Int) (J0 : List JfZ) (σ : RS) (J : List JmZ) : Prop := ∃ K, jnS σ = J0 ++ K ∧ JrR z c0 c1 K J ∧ TgO z J
/-- S j with thing k -/
def CmH (z : ZS) (j k : Nat) : Prop := MonT z ∧ j < snM z ∧ OwK z j ∧ thS z j = (k : Int)
section
variable {σ τ υ : RS} {C : CxT} {z : ZS} {T : TbT} {l m : List ItZ} {k j : Nat} {M : Int32} {A : Prop} {u v : Int64} {b t e : Int} {J0 : List JfZ} {J : List JmZ} {c0 c1 : Int} {o : Bool}
theorem JsH.q (h : JsH z c0 c1 J0 σ J) (q : jnS τ = jnS σ) : JsH z c0 c1 J0 τ J := by
  unfold JsH
  rw [q]
  exact h
theorem TgO.cr {i : Int} (h : TgO z J) : TgO z (cmR i o J) := fun y hy => h y (cmR_m hy).1
theorem cm_v (H : CmH z j k) {K : Int32} (hK : K.toInt = (k : Int)) {c : Int} (hoj : OjR z j c J0) (hJ : JsH z c0 c1 J0 σ J) : (coF σ K (onI o) (gI σ 103).toInt.toNat).1 = cmB j o J ∧ (¬ (coF σ K (onI o) (gI σ 103).toInt.toNat).2.1 = 0 ↔ cmA j o J = true) ∧ JsH z c0 c1 J0 (coS σ K (onI o) (gI σ 103).toInt.toNat) (cmR j o J) := by
  obtain ⟨K1, e1, e2, e3⟩ := hJ
  obtain ⟨h1, h2, h3, h4⟩ := H
  obtain ⟨r1, r2, K', r3, r4⟩ := come_v h1 h2 h3 (k := K) (by rw [h4]; exact hK) (by rw [h4]; omega) (o := o) e1 hoj e2 e3
  exact ⟨r1, r2, K', r3, r4, e3.cr⟩
theorem go_21 {a : Int} (E : FxE σ C z T) (hs : (.inr (21, a, b, t, e) :: l) <:+ z.2.1) (hr : RnR τ σ (plI l) M) (hb : ¬ BdF σ) (h : Bw σ A u v) : ∃ Y, (RnR τ Y (plI (.inr (21, a, b, t, e) :: l)) M ∧ ¬ BdF Y) ∧ Bw Y A (u &&& v) (u &&& v) ∧ NxT k σ Y := by
  obtain ⟨p, nb, i, g, g2⟩ := go E hs hr hb (by show 19 ≤ (21 : Int) ∧ ¬ (21 : Int) = 20 ∧ ¬ (21 : Int) = 54; decide)
  rw [fs_e21 i.1] at nb g g2
  obtain ⟨B, F, J⟩ := fw_21 (k := k) h.la
  exact ⟨_, ⟨g rfl, nb⟩, B, nx_of F J⟩
theorem go_23 (E : FxE σ C z T) (hs : (.inr (23, (k : Int), b, t, e) :: l) <:+ z.2.1) (hr : RnR τ σ (plI l) M) (hb : ¬ BdF σ) (h : Bw σ A u v) : ∃ Y, (RnR τ Y (plI (.inr (23, (k : Int), b, t, e) :: l)) M ∧ ¬ BdF Y) ∧ Bw Y True u u ∧ NxT k σ Y ∧ aL Y 98 k = v := by
  obtain ⟨p, nb, i, g, g2⟩ := go E hs hr hb (by show 19 ≤ (23 : Int) ∧ ¬ (23 : Int) = 20 ∧ ¬ (23 : Int) = 54; decide)
  rw [fs_e23 i.1] at nb g g2
  obtain ⟨B, F, J, r⟩ := fw_23 (nT_x i.2.1) h.la
  exact ⟨_, ⟨g rfl, nb⟩, B, nx_of F J, r⟩
theorem go_24 (E : FxE σ C z T) (hs : (.inr (24, (k : Int), b, t, e) :: l) <:+ z.2.1) (hr : RnR τ σ (plI l) M) (hb : ¬ BdF σ) (h : Bw σ A u v) : ∃ Y, (RnR τ Y (plI (.inr (24, (k : Int), b, t, e) :: l)) M ∧ ¬ BdF Y) ∧ Bw Y True (aL σ 98 k) (aL σ 98 k) ∧ NxT k σ Y ∧ aL Y 96 k = u &&& v ∧ (¬ aI Y 95 k = 0 ↔ A) := by
  obtain ⟨p, nb, i, g, g2⟩ := go E hs hr hb (by show 19 ≤ (24 : Int) ∧ ¬ (24 : Int) = 20 ∧ ¬ (24 : Int) = 54; decide)
  rw [fs_e24 i.1] at nb g g2
  obtain ⟨B, F, J, r⟩ := fw_24 (nT_x i.2.1) h.la
  exact ⟨_, ⟨g rfl, nb⟩, B, nx_of F J, r⟩
theorem go_25a (E : FxE σ C z T) (hs : (.inr (25, (k : Int), b, t, e) :: l) <:+ z.2.1) (hr : RnR τ σ (plI l) M) (hb : ¬ BdF σ) (h : Bw σ A u v) (he : aI σ 56 k < 0) : ∃ Y, (RnR τ Y (plI (.inr (25, (k : Int), b, t, e) :: l)) M ∧ ¬ BdF Y) ∧ Bw Y True ((u &&& v) &&& aL σ 98 k) ((u &&& v) &&& aL σ 98 k) ∧ NxT k σ Y := by
  obtain ⟨p, nb, i, g, g2⟩ := go E hs hr hb (by show 19 ≤ (25 : Int) ∧ ¬ (25 : Int) = 20 ∧ ¬ (25 : Int) = 54; decide)
  rw [fs_e25 i.1] at nb g g2
  obtain ⟨B, F, J⟩ := fw_25a (nT_x i.2.1) h.la he
  exact ⟨_, ⟨g f2_25, nb⟩, B, nx_of F J⟩
theorem go_25b (E : FxE σ C z T) (hs : (.inr (25, (k : Int), b, t, e) :: l) <:+ z.2.1) (hr : RnR τ σ (plI l) M) (hb : ¬ BdF σ) (h : Bw σ A u v) (he : ¬ aI σ 56 k < 0) : ∃ Y, (RnR τ Y (plI (.inr (25, (k : Int), b, t, e) :: l)) M ∧ ¬ BdF Y) ∧ Bw Y (A ∨ ¬ aI σ 95 k = 0) ((u &&& v) &&& aL σ 96 k) ((u &&& v) &&& aL σ 96 k) ∧ NxT k σ Y := by
  obtain ⟨p, nb, i, g, g2⟩ := go E hs hr hb (by show 19 ≤ (25 : Int) ∧ ¬ (25 : Int) = 20 ∧ ¬ (25 : Int) = 54; decide)
  rw [fs_e25 i.1] at nb g g2
  obtain ⟨B, F, J⟩ := fw_25b (nT_x i.2.1) h.la he
  exact ⟨_, ⟨g f2_25, nb⟩, B, nx_of F J⟩
theorem go_27 (E : FxE σ C z T) (hs : (.inr (27, (k : Int), b, t, e) :: l) <:+ z.2.1) (hr : RnR τ σ (plI l) M) (hb : ¬ BdF σ) (h : Bw σ A u v) {P0 P1 : Prop} (hal : (alR σ (plI l) = 0 ↔ P1) ∧ (neR σ (plI l) = 0 ↔ P0)) : ∃ Y, (RnR τ Y (plI (.inr (27, (k : Int), b, t, e) :: l)) M ∧ ¬ BdF Y) ∧ Bw Y P0 u u ∧ NxT k σ Y ∧ aL Y 98 k = v ∧ (aI Y 97 k = 0 ↔ P1) := by
  obtain ⟨p, nb, i, g, g2⟩ := go E hs hr hb (by show 19 ≤ (27 : Int) ∧ ¬ (27 : Int) = 20 ∧ ¬ (27 : Int) = 54; decide)
  rw [fs_e27 i.1] at nb g g2
  obtain ⟨B, F, J, r1, r2⟩ := fw_27 (nT_x i.2.1) h.la
  exact ⟨_, ⟨g f2_27, nb⟩, B.cg hal.2, nx_of F J, r1, (iff_of_eq (congrArg (· = 0) r2)).trans hal.1⟩
theorem go_28 (E : FxE σ C z T) (hs : (.inr (28, (k : Int), b, t, e) :: l) <:+ z.2.1) (hr : RnR τ σ (plI l) M) (hb : ¬ BdF σ) (h : Bw σ A u v) (H : CmH z j k) {c : Int} (hoj : OjR z j c J0) (hJ : JsH z c0 c1 J0 σ J) {P1 : Prop} (hal : aI σ 97 k = 0 ↔ P1) : ∃ Y, (RnR τ Y (plI (.inr (28, (k : Int), b, t, e) :: l)) M ∧ ¬ BdF Y) ∧ Bw Y (P1 ∨ cmA j false (cmR j true J) = true) (aL σ 98 k &&& cmB j false (cmR j true J)) (aL σ 98 k &&& cmB j false (cmR j true J)) ∧ (FqT k σ Y ∧ gI Y 103 = gI σ 103) ∧ JsH z c0 c1 J0 Y (cmR j false (cmR j true J)) := by
  obtain ⟨p, nb, i, g, g2⟩ := go E hs hr hb (by show 19 ≤ (28 : Int) ∧ ¬ (28 : Int) = 20 ∧ ¬ (28 : Int) = 54; decide)
  rw [fs_e28 i.1] at nb g g2
  have hJ := hJ.q (Jq.la (u := 0) (p := p)).jn
  obtain ⟨τ1, τ2, rfl, rfl, B, F, J2⟩ := fw_28 (nT_x i.2.1) h.la
  obtain ⟨_, _, J3⟩ := cm_v (o := true) H i.2.1 hoj hJ
  obtain ⟨q1, q2, J4⟩ := cm_v (o := false) H i.2.1 hoj J3
  have q1 : (coF (coS (laS σ 0 p) (aI (laS σ 0 p) 20 (plI l).toNatClampNeg) 1 (gI (laS σ 0 p) 103).toInt.toNat) (aI (laS σ 0 p) 20 (plI l).toNatClampNeg) 0 (gI (coS (laS σ 0 p) (aI (laS σ 0 p) 20 (plI l).toNatClampNeg) 1 (gI (laS σ 0 p) 103).toInt.toNat) 103).toInt.toNat).1 = cmB j false (cmR j true J) := q1
  rw [q1] at B
  exact ⟨_, ⟨g f2_28, nb⟩, B.cg (or_congr hal q2), ⟨FqT.la.tr F, J2.1⟩, J4.q J2.jn⟩
theorem go_30 (E : FxE σ C z T) (hs : (.inr (30, (k : Int), b, t, e) :: l) <:+ z.2.1) (hr : RnR τ σ (plI l) M) (hb : ¬ BdF σ) (h : Bw σ A u v) (H : CmH z j k) {c : Int} (hoj : OjR z j c J0) (hJ : JsH z c0 c1 J0 σ J) : ∃ Y, (RnR τ Y (plI (.inr (30, (k : Int), b, t, e) :: l)) M ∧ ¬ BdF Y) ∧ Bw Y A ((u &&& v) &&& cmB j true J) ((u &&& v) &&& cmB j true J) ∧ (FqT k σ Y ∧ gI Y 103 = gI σ 103) ∧ JsH z c0 c1 J0 Y (cmR j true J) ∧ (¬ aI Y 95 k = 0 ↔ (A ∨ cmA j true J = true)) := by
  obtain ⟨p, nb, i, g, g2⟩ := go E hs hr hb (by show 19 ≤ (30 : Int) ∧ ¬ (30 : Int) = 20 ∧ ¬ (30 : Int) = 54; decide)
  rw [fs_e30 i.1] at nb g g2
  have hJ := hJ.q (Jq.la (u := 0) (p := p)).jn
  obtain ⟨τ1, rfl, B, F, J2, r⟩ := fw_30 (nT_x i.2.1) h.la
  obtain ⟨q1, q2, J4⟩ := cm_v (o := true) H i.2.1 hoj hJ
  have q1 : (coF (laS σ 0 p) (aI (laS σ 0 p) 20 (plI l).toNatClampNeg) 1 (gI (laS σ 0 p) 103).toInt.toNat).1 = cmB j true J := q1
  rw [q1] at B
  exact ⟨_, ⟨g f2_30, nb⟩, B, ⟨FqT.la.tr F, J2.1⟩, J4.q J2.jn, r.trans (or_congr Iff.rfl q2)⟩
theorem go_31 (E : FxE σ C z T) (hs : (.inr (31, (k : Int), b, t, e) :: l) <:+ z.2.1) (hr : RnR τ σ (plI l) M) (hb : ¬ BdF σ) (h : Bw σ A u v) (H : CmH z j k) {c : Int} (hoj : OjR z j c J0) (hJ : JsH z c0 c1 J0 σ J) {P1 : Prop} (hal : alR σ (plI l) = 0 ↔ P1) : ∃ Y, (RnR τ Y (plI (.inr (31, (k : Int), b, t, e) :: l)) M ∧ ¬ BdF Y) ∧ Bw Y ((¬ aI σ 95 k = 0 ∧ P1) ∨ cmA j false J = true) (v &&& cmB j false J) (v &&& cmB j false J) ∧ (FqT k σ Y ∧ gI Y 103 = gI σ 103) ∧ JsH z c0 c1 J0 Y (cmR j false J) := by
  obtain ⟨p, nb, i, g, g2⟩ := go E hs hr hb (by show 19 ≤ (31 : Int) ∧ ¬ (31 : Int) = 20 ∧ ¬ (31 : Int) = 54; decide)
  rw [fs_e31 i.1] at nb g g2
  have hJ := hJ.q (Jq.la (u := 0) (p := p)).jn
  obtain ⟨τ1, rfl, B, F, J2⟩ := fw_31 (nT_x i.2.1) h.la
  obtain ⟨q1, q2, J4⟩ := cm_v (o := false) H i.2.1 hoj hJ
  have q1 : (coF (laS σ 0 p) (aI (laS σ 0 p) 20 (plI l).toNatClampNeg) 0 (gI (laS σ 0 p) 103).toInt.toNat).1 = cmB j false J := q1
  rw [q1] at B
  exact ⟨_, ⟨g f2_31, nb⟩, B.cg (or_congr (and_congr Iff.rfl hal) q2), ⟨FqT.la.tr F, J2.1⟩, J4.q J2.jn⟩
theorem go_33 (E : FxE σ C z T) (hs : (.inr (33, (k : Int), b, t, e) :: l) <:+ z.2.1) (hr : RnR τ σ (plI l) M) (hb : ¬ BdF σ) (h : Bw σ A u v) {P0 P1 : Prop} (hal : (alR σ (plI l) = 0 ↔ P1) ∧ (neR σ (plI l) = 0 ↔ P0)) {w : Int64} {L : List ItZ} {x : ItZ} (hw : (if b = 0 then allB else v) = w) (hL : (x :: L) <:+ z.2.1) (hx : ∀ y, x = .inr y → ¬ y.1 = 54) (hd : aI σ 54 k = plI (x :: L)) : ∃ Y, (RnR τ Y (plI (x :: L)) M ∧ ¬ BdF Y) ∧ Bw Y P0 u u ∧ NxT k σ Y ∧ aL Y 98 k = w ∧ (aI Y 97 k = 0 ↔ P1) ∧ aI Y 95 k = 0 := by
  obtain ⟨p, nb, i, g, g2⟩ := go E hs hr hb (by show 19 ≤ (33 : Int) ∧ ¬ (33 : Int) = 20 ∧ ¬ (33 : Int) = 54; decide)
  rw [fs_e33 i.1] at nb g g2
  obtain ⟨B, F, J, r1, r2, r3, r4⟩ := fw_33 (nT_x i.2.1) h.la
  refine ⟨_, ⟨g2 _ (r4.trans hd) (no_54 E hL hx), nb⟩, B.cg hal.2, nx_of F J, ?_, (iff_of_eq (congrArg (· = 0) r2)).trans hal.1, r3⟩
  have eb : aI (laS σ 0 p) 21 (plI l).toNatClampNeg = 0 ↔ b = 0 := ⟨fun q => by
    have r := i.2.2.1
    rw [q] at r
    exact r.symm, fun q => i32_lit (i.2.2.1.trans q)⟩
  rw [r1, ← hw]
  exact ifc eb
theorem go_35a (E : FxE σ C z T) (hs : (.inr (35, (k : Int), b, t, e) :: l) <:+ z.2.1) (hr : RnR τ σ (plI l) M) (hb : ¬ BdF σ) (h : Bw σ A u v) (he : aI σ 95 k = 0) : ∃ Y, (RnR τ Y (plI (.inr (35, (k : Int), b, t, e) :: l)) M ∧ ¬ BdF Y) ∧ Bw Y A u v ∧ NxT k σ Y ∧ ∀ i, aI Y 95 i = aI σ 95 i ∧ aL Y 96 i = aL σ 96 i ∧ aI Y 97 i = aI σ 97 i ∧ aL Y 98 i = aL σ 98 i ∧ aL Y 99 i = aL σ 99 i := by
  obtain ⟨p, nb, i, g, g2⟩ := go E hs hr hb (by show 19 ≤ (35 : Int) ∧ ¬ (35 : Int) = 20 ∧ ¬ (35 : Int) = 54; decide)
  rw [fs_e35 i.1] at nb g g2
  rw [fw_35a (nT_x i.2.1) he] at nb g
  exact ⟨_, ⟨g rfl, nb⟩, h.la, nx_la, fun _ => ⟨rfl, rfl, rfl, rfl, rfl⟩⟩
theorem go_35b (E : FxE σ C z T) (hs : (.inr (35, (k : Int), b, t, e) :: l) <:+ z.2.1) (hr : RnR τ σ (plI l) M) (hb : ¬ BdF σ) (h : Bw σ A u v) (H : CmH z j k) {c : Int} (hoj : OjR z j c J0) (hJ : JsH z c0 c1 J0 σ J) {P1 : Prop} (hal : aI σ 97 k = 0 ↔ P1) (he : ¬ aI σ 95 k = 0) {L : List ItZ} {x : ItZ} (hL : (x :: L) <:+ z.2.1) (hx : ∀ y, x = .inr y → ¬ y.1 = 54) (hd : aI σ 55 k = plI L) : ∃ Y, (RnR τ Y (plI (x :: L)) M ∧ ¬ BdF Y) ∧ Bw Y (P1 ∨ cmA j false J = true) (aL σ 98 k &&& cmB j false J) (aL σ 98 k &&& cmB j false J) ∧ (FqT k σ Y ∧ gI Y 103 = gI σ 103) ∧ JsH z c0 c1 J0 Y (cmR j false J) := by
  obtain ⟨p, nb, i, g, g2⟩ := go E hs hr hb (by show 19 ≤ (35 : Int) ∧ ¬ (35 : Int) = 20 ∧ ¬ (35 : Int) = 54; decide)
  rw [fs_e35 i.1] at nb g g2
  have hJ := hJ.q (Jq.la (u := 0) (p := p)).jn
  obtain ⟨τ1, rfl, B, F, J2, r⟩ := fw_35b (nT_x i.2.1) h.la he
  obtain ⟨q1, q2, J4⟩ := cm_v (o := false) H i.2.1 hoj hJ
  have q1 : (coF (laS σ 0 p) (aI (laS σ 0 p) 20 (plI l).toNatClampNeg) 0 (gI (laS σ 0 p) 103).toInt.toNat).1 = cmB j false J := q1
  rw [q1] at B
  exact ⟨_, ⟨g2 _ (r.trans ((congrArg (· + 1) hd).trans (pl_s E hL))) (no_54 E hL hx), nb⟩, B.cg (or_congr hal q2), ⟨FqT.la.tr F, J2.1⟩, J4.q J2.jn⟩
theorem go_36 (E : FxE σ C z T) (hs : (.inr (36, (k : Int), b, t, e) :: l) <:+ z.2.1) (hr : RnR τ σ (plI l) M) (hb : ¬ BdF σ) (h : Bw σ A u v) (H : CmH z j k) {c : Int} (hoj : OjR z j c J0) (hJ : JsH z c0 c1 J0 σ J) {L : List ItZ} {x : ItZ} (hL : (x :: L) <:+ z.2.1) (hx : ∀ y, x = .inr y → ¬ y.1 = 54) (hd : aI σ 53 k = plI L) : ∃ Y, (RnR τ Y (plI (x :: L)) M ∧ ¬ BdF Y) ∧ Bw Y A ((u &&& v) &&& cmB j true J) ((u &&& v) &&& cmB j true J) ∧ (FqT k σ Y ∧ gI Y 103 = gI σ 103) ∧ JsH z c0 c1 J0 Y (cmR j true J) ∧ ¬ aI Y 95 k = 0 ∧ aL Y 98 k = aL σ 98 k ∧ aI Y 97 k = aI σ 97 k := by
  obtain ⟨p, nb, i, g, g2⟩ := go E hs hr hb (by show 19 ≤ (36 : Int) ∧ ¬ (36 : Int) = 20 ∧ ¬ (36 : Int) = 54; decide)
  rw [fs_e36 i.1] at nb g g2
  have hJ := hJ.q (Jq.la (u := 0) (p := p)).jn
  obtain ⟨τ1, rfl, B, F, J2, r, r2⟩ := fw_36 (nT_x i.2.1) h.la
  obtain ⟨q1, q2, J4⟩ := cm_v (o := true) H i.2.1 hoj hJ
  have q1 : (coF (laS σ 0 p) (aI (laS σ 0 p) 20 (plI l).toNatClampNeg) 1 (gI (laS σ 0 p) 103).toInt.toNat).1 = cmB j true J := q1
  rw [q1] at B
  exact ⟨_, ⟨g2 _ (r2.trans ((congrArg (· + 1) hd).trans (pl_s E hL))) (no_54 E hL hx), nb⟩, B, ⟨FqT.la.tr F, J2.1⟩, J4.q J2.jn, r⟩
theorem go_37 (E : FxE σ C z T) (hs : (.inr (37, (k : Int), b, t, e) :: l) <:+ z.2.1) (hr : RnR τ σ (plI l) M) (hb : ¬ BdF σ) (h : Bw σ A u v) : ∃ Y, (RnR τ Y (plI (.inr (37, (k : Int), b, t, e) :: l)) M ∧ ¬ BdF Y) ∧ Bw Y True (u &&& v) (u &&& v) ∧ NxT k σ Y ∧ aL Y 96 k = u &&& v := by
  obtain ⟨p, nb, i, g, g2⟩ := go E hs hr hb (by show 19 ≤ (37 : Int) ∧ ¬ (37 : Int) = 20 ∧ ¬ (37 : Int) = 54; decide)
  rw [fs_e37 i.1] at nb g g2
  obtain ⟨B, F, J, r⟩ := fw_37 (nT_x i.2.1) h.la
  exact ⟨_, ⟨g rfl, nb⟩, B, nx_of F J, r⟩
theorem go_38 (E : FxE σ C z T) (hs : (.inr (38, (k : Int), b, t, e) :: l) <:+ z.2.1) (hr : RnR τ σ (plI l) M) (hb : ¬ BdF σ) (h : Bw σ A u v) : ∃ Y, (RnR τ Y (plI (.inr (38, (k : Int), b, t, e) :: l)) M ∧ ¬ BdF Y) ∧ Bw Y True ((u &&& v) &&& aL σ 96 k) ((u &&& v) &&& aL σ 96 k) ∧ NxT k σ Y ∧ aL Y 96 k = aL σ 96 k := by
  obtain ⟨p, nb, i, g, g2⟩ := go E hs hr hb (by show 19 ≤ (38 : Int) ∧ ¬ (38 : Int) = 20 ∧ ¬ (38 : Int) = 54; decide)
  rw [fs_e38 i.1] at nb g g2
  obtain ⟨B, F, J, r⟩ := fw_38 (nT_x i.2.1) h.la
  exact ⟨_, ⟨g rfl, nb⟩, B, nx_of F J, r⟩
theorem go_39 (E : FxE σ C z T) (hs : (.inr (39, (k : Int), b, t, e) :: l) <:+ z.2.1) (hr : RnR τ σ (plI l) M) (hb : ¬ BdF σ) (h : Bw σ A u v) : ∃ Y, (RnR τ Y (plI (.inr (39, (k : Int), b, t, e) :: l)) M ∧ ¬ BdF Y) ∧ Bw Y True ((u &&& v) &&& aL σ 96 k) ((u &&& v) &&& aL σ 96 k) ∧ NxT k σ Y ∧ aL Y 96 k = aL σ 96 k := by
  obtain ⟨p, nb, i, g, g2⟩ := go E hs hr hb (by show 19 ≤ (39 : Int) ∧ ¬ (39 : Int) = 20 ∧ ¬ (39 : Int) = 54; decide)
  rw [fs_e39 i.1] at nb g g2
  obtain ⟨B, F, J, r⟩ := fw_39 (nT_x i.2.1) h.la
  exact ⟨_, ⟨g rfl, nb⟩, B, nx_of F J, r⟩
theorem go_40 (E : FxE σ C z T) (hs : (.inr (40, (k : Int), b, t, e) :: l) <:+ z.2.1) (hr : RnR τ σ (plI l) M) (hb : ¬ BdF σ) (h : Bw σ A u v) (H : CmH z j k) {c : Int} (hoj : OjR z j c J0) (hJ : JsH z c0 c1 J0 σ J) : ∃ Y, (RnR τ Y (plI (.inr (40, (k : Int), b, t, e) :: l)) M ∧ ¬ BdF Y) ∧ Bw Y ((A ∨ ¬ 0 ≤ aI σ 59 k) ∨ cmA j false J = true) (((u &&& v) &&& cmB j false J) &&& (if 0 ≤ aI σ 59 k then allB else aL σ 96 k)) (((u &&& v) &&& cmB j false J) &&& (if 0 ≤ aI σ 59 k then allB else aL σ 96 k)) ∧ (FqT k σ Y ∧ gI Y 103 = gI σ 103) ∧ JsH z c0 c1 J0 Y (cmR j false J) := by
  obtain ⟨p, nb, i, g, g2⟩ := go E hs hr hb (by show 19 ≤ (40 : Int) ∧ ¬ (40 : Int) = 20 ∧ ¬ (40 : Int) = 54; decide)
  rw [fs_e40 i.1] at nb g g2
  have hJ := hJ.q (Jq.la (u := 0) (p := p)).jn
  obtain ⟨τ1, rfl, B, F, J2⟩ := fw_40 (nT_x i.2.1) h.la
  obtain ⟨q1, q2, J4⟩ := cm_v (o := false) H i.2.1 hoj hJ
  have q1 : (coF (laS σ 0 p) (aI (laS σ 0 p) 20 (plI l).toNatClampNeg) 0 (gI (laS σ 0 p) 103).toInt.toNat).1 = cmB j false J := q1
  rw [q1] at B
  exact ⟨_, ⟨g f2_40, nb⟩, B.cg (or_congr Iff.rfl q2), ⟨FqT.la.tr F, J2.1⟩, J4.q J2.jn⟩
theorem go_42 (E : FxE σ C z T) (hs : (.inr (42, (k : Int), b, t, e) :: l) <:+ z.2.1) (hr : RnR τ σ (plI l) M) (hb : ¬ BdF σ) (h : Bw σ A u v) (H : CmH z j k) {c : Int} (hoj : OjR z j c J0) (hJ : JsH z c0 c1 J0 σ J) : ∃ Y, (RnR τ Y (plI (.inr (42, (k : Int), b, t, e) :: l)) M ∧ ¬ BdF Y) ∧ Bw Y (A ∨ cmA j false J = true) ((u &&& v) &&& cmB j false J) ((u &&& v) &&& cmB j false J) ∧ (FqT k σ Y ∧ gI Y 103 = gI σ 103) ∧ JsH z c0 c1 J0 Y (cmR j false J) := by
  obtain ⟨p, nb, i, g, g2⟩ := go E hs hr hb (by show 19 ≤ (42 : Int) ∧ ¬ (42 : Int) = 20 ∧ ¬ (42 : Int) = 54; decide)
  rw [fs_e42 i.1] at nb g g2
  have hJ := hJ.q (Jq.la (u := 0) (p := p)).jn
  obtain ⟨τ1, rfl, B, F, J2⟩ := fw_42 (k := k) h.la
  obtain ⟨q1, q2, J4⟩ := cm_v (o := false) H i.2.1 hoj hJ
  have q1 : (coF (laS σ 0 p) (aI (laS σ 0 p) 20 (plI l).toNatClampNeg) 0 (gI (laS σ 0 p) 103).toInt.toNat).1 = cmB j false J := q1
  rw [q1] at B
  exact ⟨_, ⟨g f2_42, nb⟩, B.cg (or_congr Iff.rfl q2), ⟨FqT.la.tr F, J2.1⟩, J4.q J2.jn⟩
theorem go_48 {a : Int} (E : FxE σ C z T) (hs : (.inr (48, a, b, t, e) :: l) <:+ z.2.1) (hr : RnR τ σ (plI l) M) (hb : ¬ BdF σ) (h : Bw σ A u v) : ∃ Y, (RnR τ Y (plI (.inr (48, a, b, t, e) :: l)) M ∧ ¬ BdF Y) ∧ Bw Y False allB allB ∧ NxT k σ Y := by
  obtain ⟨p, nb, i, g, g2⟩ := go E hs hr hb (by show 19 ≤ (48 : Int) ∧ ¬ (48 : Int) = 20 ∧ ¬ (48 : Int) = 54; decide)
  rw [fs_e48 i.1] at nb g g2
  obtain ⟨B, F, J⟩ := fw_48 (k := k) h.la
  exact ⟨_, ⟨g rfl, nb⟩, B, nx_of F J⟩
theorem go_49 {a : Int} (E : FxE σ C z T) (hs : (.inr (49, a, b, t, e) :: l) <:+ z.2.1) (hr : RnR τ σ (plI l) M) (hb : ¬ BdF σ) (h : Bw σ A u v) : ∃ Y, (RnR τ Y (plI (.inr (49, a, b, t, e) :: l)) M ∧ ¬ BdF Y) ∧ Bw Y False allB allB ∧ NxT k σ Y := by
  obtain ⟨p, nb, i, g, g2⟩ := go E hs hr hb (by show 19 ≤ (49 : Int) ∧ ¬ (49 : Int) = 20 ∧ ¬ (49 : Int) = 54; decide)
  rw [fs_e49 i.1] at nb g g2
  obtain ⟨B, F, J⟩ := fw_49 (k := k) h.la
  exact ⟨_, ⟨g rfl, nb⟩, B, nx_of F J⟩
theorem go_50 (E : FxE σ C z T) (hs : (.inr (50, (k : Int), b, t, e) :: l) <:+ z.2.1) (hr : RnR τ σ (plI l) M) (hb : ¬ BdF σ) (h : Bw σ A u v) : ∃ Y, (RnR τ Y (plI (.inr (50, (k : Int), b, t, e) :: l)) M ∧ ¬ BdF Y) ∧ Bw Y A u v ∧ NxT k σ Y ∧ aL Y 99 k = u &&& v := by
  obtain ⟨p, nb, i, g, g2⟩ := go E hs hr hb (by show 19 ≤ (50 : Int) ∧ ¬ (50 : Int) = 20 ∧ ¬ (50 : Int) = 54; decide)
  rw [fs_e50 i.1] at nb g g2
  obtain ⟨B, F, J, r⟩ := fw_50 (nT_x i.2.1) h.la
  exact ⟨_, ⟨g rfl, nb⟩, B, nx_of F J, r⟩
theorem go_51 (E : FxE σ C z T) (hs : (.inr (51, (k : Int), b, t, e) :: l) <:+ z.2.1) (hr : RnR τ σ (plI l) M) (hb : ¬ BdF σ) (h : Bw σ A u v) : ∃ Y, (RnR τ Y (plI (.inr (51, (k : Int), b, t, e) :: l)) M ∧ ¬ BdF Y) ∧ Bw Y True (aL σ 99 k ||| (1 <<< ((aI σ 61 k).toInt64 &&& 63))) (aL σ 99 k ||| (1 <<< ((aI σ 61 k).toInt64 &&& 63))) ∧ NxT k σ Y ∧ aL Y 96 k = u &&& v ∧ (¬ aI Y 95 k = 0 ↔ A) ∧ aL Y 99 k = aL σ 99 k := by
  obtain ⟨p, nb, i, g, g2⟩ := go E hs hr hb (by show 19 ≤ (51 : Int) ∧ ¬ (51 : Int) = 20 ∧ ¬ (51 : Int) = 54; decide)
  rw [fs_e51 i.1] at nb g g2
  obtain ⟨B, F, J, r⟩ := fw_51 (nT_x i.2.1) h.la
  exact ⟨_, ⟨g rfl, nb⟩, B, nx_of F J, r⟩
theorem go_52a (E : FxE σ C z T) (hs : (.inr (52, (k : Int), b, t, e) :: l) <:+ z.2.1) (hr : RnR τ σ (plI l) M) (hb : ¬ BdF σ) (h : Bw σ A u v) (he : ¬ 0 ≤ aI σ 57 k) : ∃ Y, (RnR τ Y (plI (.inr (52, (k : Int), b, t, e) :: l)) M ∧ ¬ BdF Y) ∧ Bw Y True (aL σ 99 k) (aL σ 99 k) ∧ NxT k σ Y ∧ aL Y 96 k = u &&& v ∧ (¬ aI Y 95 k = 0 ↔ A) := by
  obtain ⟨p, nb, i, g, g2⟩ := go E hs hr hb (by show 19 ≤ (52 : Int) ∧ ¬ (52 : Int) = 20 ∧ ¬ (52 : Int) = 54; decide)
  rw [fs_e52 i.1] at nb g g2
  obtain ⟨B, F, J, r⟩ := fw_52a (nT_x i.2.1) h.la he
  exact ⟨_, ⟨g f2_52, nb⟩, B, nx_of F J, r⟩
theorem go_52b (E : FxE σ C z T) (hs : (.inr (52, (k : Int), b, t, e) :: l) <:+ z.2.1) (hr : RnR τ σ (plI l) M) (hb : ¬ BdF σ) (h : Bw σ A u v) (he : 0 ≤ aI σ 57 k) : ∃ Y, (RnR τ Y (plI (.inr (52, (k : Int), b, t, e) :: l)) M ∧ ¬ BdF Y) ∧ Bw Y True (aL σ 99 k) (aL σ 99 k) ∧ NxT k σ Y ∧ aL Y 96 k = (u &&& v) &&& aL σ 96 k ∧ (¬ aI Y 95 k = 0 ↔ (A ∨ ¬ aI σ 95 k = 0)) := by
  obtain ⟨p, nb, i, g, g2⟩ := go E hs hr hb (by show 19 ≤ (52 : Int) ∧ ¬ (52 : Int) = 20 ∧ ¬ (52 : Int) = 54; decide)
  rw [fs_e52 i.1] at nb g g2
  obtain ⟨B, F, J, r⟩ := fw_52b (nT_x i.2.1) h.la he
  exact ⟨_, ⟨g f2_52, nb⟩, B, nx_of F J, r⟩
theorem go_53a (E : FxE σ C z T) (hs : (.inr (53, (k : Int), b, t, e) :: l) <:+ z.2.1) (hr : RnR τ σ (plI l) M) (hb : ¬ BdF σ) (h : Bw σ A u v) (he : aI σ 58 k < 0) : ∃ Y, (RnR τ Y (plI (.inr (53, (k : Int), b, t, e) :: l)) M ∧ ¬ BdF Y) ∧ Bw Y (A ∨ ¬ aI σ 95 k = 0) ((u &&& v) &&& aL σ 96 k) ((u &&& v) &&& aL σ 96 k) ∧ NxT k σ Y := by
  obtain ⟨p, nb, i, g, g2⟩ := go E hs hr hb (by show 19 ≤ (53 : Int) ∧ ¬ (53 : Int) = 20 ∧ ¬ (53 : Int) = 54; decide)
  rw [fs_e53 i.1] at nb g g2
  obtain ⟨B, F, J⟩ := fw_53a (nT_x i.2.1) h.la he
  exact ⟨_, ⟨g f2_53, nb⟩, B, nx_of F J⟩
theorem go_53b (E : FxE σ C z T) (hs : (.inr (53, (k : Int), b, t, e) :: l) <:+ z.2.1) (hr : RnR τ σ (plI l) M) (hb : ¬ BdF σ) (h : Bw σ A u v) (he : ¬ aI σ 58 k < 0) {cf ci : Int} {K Kd : List JfZ} {eb : Bool} (hn : jnS σ = J0 ++ (K ++ Kd)) (h51 : (aI σ 51 k).toInt = cf) (h58 : (aI σ 58 k).toInt = ci) (h0 : ∀ x ∈ J0, x.2.2.1.toInt < cf) (hd : ∀ x ∈ Kd, ci < x.2.2.1.toInt) (hjr : JrR z cf ci K J) (ha : A ↔ eb = true) : ∃ Y, (RnR τ Y (plI (.inr (53, (k : Int), b, t, e) :: l)) M ∧ ¬ BdF Y) ∧ Bw Y (A ∧ ¬ aI σ 95 k = 0) ((u &&& v) ||| aL σ 96 k) ((u &&& v) ||| aL σ 96 k) ∧ (FqT k σ Y ∧ gI Y 103 = gI σ 103) ∧ ∃ K', jnS Y = J0 ++ (K' ++ Kd) ∧ JrR z cf ci K' (J.map (fnJ eb (u &&& v))) := by
  obtain ⟨p, nb, i, g, g2⟩ := go E hs hr hb (by show 19 ≤ (53 : Int) ∧ ¬ (53 : Int) = 20 ∧ ¬ (53 : Int) = 54; decide)
  rw [fs_e53 i.1] at nb g g2
  obtain ⟨τ1, rfl, B, F, J2⟩ := fw_53b (nT_x i.2.1) h.la he
  have kk := nT_x i.2.1
  obtain ⟨K', e1, e2⟩ := ended_v (σ := laS σ 0 p) (k := aI (laS σ 0 p) 20 (plI l).toNatClampNeg) (e := eb) (cf := cf) (ci := ci) ((Jq.la (u := 0) (p := p)).jn.trans hn) (by rw [kk]; exact h51) (by rw [kk]; exact h58) h0 hd hjr (h.1.1.trans ha)
  have e3 : nowR (laS σ 0 p) = u &&& v := h.la.now
  rw [e3] at e2
  exact ⟨_, ⟨g f2_53, nb⟩, B, ⟨FqT.la.tr F, J2.1⟩, K', J2.jn.trans e1, e2⟩
end

/-! exps lay exps alone -/
def XsR (l l' : List ItZ) : Prop := ∃ t : List XrZ, l' = t.map Sum.inl ++ l
theorem XsR.rf {l : List ItZ} : XsR l l := ⟨[], rfl⟩
theorem XsR.pu {x : XrZ} {l : List ItZ} : XsR l (.inl x :: l) := ⟨[x], rfl⟩
theorem XsR.trans {l l' l'' : List ItZ} (h : XsR l l') (h' : XsR l' l'') : XsR l l'' := by
  obtain ⟨t, rfl⟩ := h
  obtain ⟨u, rfl⟩ := h'
  exact ⟨u ++ t, by rw [List.map_append, List.append_assoc]⟩
theorem XsR.ig {l l' : List ItZ} (h : XsR l l') : l <:+ l' := by
  obtain ⟨t, rfl⟩ := h
  exact List.suffix_append _ _
abbrev IxM (f : ZS → ZS) : Prop := ∀ z, XsR z.2.1 (f z).2.1
theorem ix_cl {p : Int} : ∀ (W : WtZ) (z : ZS), XsR z.2.1 (clM p W z).2.1 := by
  intro W
  induction W with
  | nil => intro z; exact XsR.rf
  | cons w W ih =>
    intro z
    obtain ⟨sg, f, st, a, mk_⟩ := w
    rw [clM]
    split
    · refine XsR.trans ?_ (ih _)
      exact XsR.pu
    · exact XsR.rf
theorem ix_fk {z : ZS} : XsR z.2.1 (fkM z).2.1 := by unfold fkM; split <;> first | exact XsR.rf | exact XsR.pu
theorem ix_tk {N : Int → Int} {z : ZS} : XsR z.2.1 (tkM N z).2.1 := by unfold tkM; split <;> first | exact XsR.rf | exact XsR.pu
theorem ix_chl {O : ZS → ZS} (h : IxM O) : ∀ (f : Nat) (W : WtZ) (r : Int × Int) (z : ZS), XsR z.2.1 (chlM O f W r z).2.1 := by
  intro f
  induction f with
  | zero => intro W r z; exact ix_cl W z
  | succ f ih =>
    intro W r z
    rw [chlM]
    split
    · refine XsR.trans ?_ (ih _ _ _)
      refine XsR.trans ?_ (h _)
      show XsR _ (fkM _).2.1
      exact (ix_cl W z).trans ix_fk
    · exact ix_cl W z
theorem ix_chc {O E C : ZS → ZS} (hO : IxM O) (hE : IxM E) (hC : IxM C) : IxM (chcM O E C) := by
  intro z
  show XsR _ (ch2M E C _ (chlM O 501 [] _ (O z))).2.1
  unfold ch2M
  split
  · refine XsR.trans ?_ (XsR.pu)
    refine XsR.trans ?_ (hC _)
    refine XsR.trans ?_ (XsR.pu)
    refine XsR.trans ?_ (hE _)
    refine XsR.trans ?_ (XsR.pu)
    exact (hO z).trans (ix_chl hO _ _ _ _)
  · exact (hO z).trans (ix_chl hO _ _ _ _)
theorem ix_xps {N : Int → Int} {O E C : ZS → ZS} (hO : IxM O) (hE : IxM E) (hC : IxM C) : IxM (xpsM N O E C) := by
  intro z
  unfold xpsM
  split
  · split
    · refine XsR.trans ?_ (XsR.pu)
      refine XsR.trans ?_ (hE _)
      exact ix_tk
    · exact ix_chc hO hE hC z
  · exact ix_chc hO hE hC z
theorem ix_clp {E : ZS → ZS} (hE : IxM E) (r : Int × Int) : ∀ (f : Nat) (l : List Int) (z : ZS), XsR z.2.1 (clpM E r f l z).2.1 := by
  intro f
  induction f with
  | zero => intro l z; first | exact XsR.rf | exact XsR.pu
  | succ f ih =>
    intro l z
    rw [clpM]
    split
    · show XsR _ (clpM E r f _ (E (accM z))).2.1
      exact (hE (accM z)).trans (ih _ _)
    · first | exact XsR.rf | exact XsR.pu
theorem ix_opr {N : Int → Int} {m : Nat} {E : ZS → ZS} {I : Int → ZS → ZS} (hE : IxM E) (hI : ∀ g, IxM (I g)) (g : Int) : IxM (oprM N m E I g) := by
  intro z
  unfold oprM
  split
  · exact (hI _ (accM z)).trans (XsR.pu)
  split
  · exact XsR.pu
  split
  · unfold op2M
    show XsR _ (if 50 ≤ codY (accY z.1) ∧ codY (accY z.1) ≤ 54 then _ else _ : ZS).2.1
    split
    · exact (hI 0 (xpM 1 (typM (accM z)))).trans (XsR.pu)
    · exact (hE (accM z)).trans (XsR.pu)
  split
  · unfold nmeM
    split
    · unfold ca2M
      split
      · exact XsR.rf
      split
      · exact XsR.pu
      · show XsR _ (clpM E _ 501 _ (E _)).2.1
        refine XsR.trans ?_ (ix_clp hE _ _ _ _)
        exact hE (accM (accM z))
    split
    · exact XsR.pu
    · exact XsR.pu
  split
  · exact XsR.pu
  · exact XsR.rf
theorem ix_lv {N : Int → Int} : ∀ n, IxM (eM N n) ∧ IxM (cM N n) ∧ ∀ g, IxM (oM N n g) := by
  intro n
  induction n with
  | zero => exact ⟨fun _ => XsR.rf, fun _ => XsR.rf, fun _ _ => XsR.rf⟩
  | succ n ih => exact ⟨ix_xps (ix_opr ih.1 ih.2.2 0) ih.1 ih.2.1, ix_chc (ix_opr ih.1 ih.2.2 0) ih.1 ih.2.1, fun g => ix_opr ih.1 ih.2.2 g⟩
theorem ix_e {N : Int → Int} {n : Nat} : IxM (eM N n) := (ix_lv n).1
/-! an exp's own record comes last -/
def HdZ (l : List ItZ) : Prop := ∃ x t, l = .inl x :: t ∧ x.1.1 ≤ 10
abbrev HdM (f : ZS → ZS) : Prop := ∀ z, zFt (f z).1 = 0 → HdZ (f z).2.1
theorem hd_pu {x : XrZ} {z : ZS} (hk : x.1.1 ≤ 10) : HdZ (puM x z).2.1 := ⟨x, _, rfl, hk⟩
theorem hd_cl {p : Int} : ∀ (W : WtZ) (z : ZS), HdZ z.2.1 → HdZ (clM p W z).2.1 := by
  intro W
  induction W with
  | nil => intro z h; exact h
  | cons w W ih =>
    intro z h
    obtain ⟨sg, f, st, a, mk_⟩ := w
    rw [clM]
    split
    · exact ih _ (hd_pu (show (7 : Int) ≤ 10 by decide))
    · exact h
theorem hd_chl {O : ZS → ZS} {o : SpC → SpC} (hL : LfM O o) (hG : GdY o) (hO : HdM O) : ∀ (f : Nat) (W : WtZ) (r : Int × Int) (z : ZS), HdZ z.2.1 → zFt (chlM O f W r z).1 = 0 → HdZ (chlM O f W r z).2.1 := by
  intro f
  induction f with
  | zero => intro W r z h _; exact hd_cl W z h
  | succ f ih =>
    intro W r z h hz
    rw [chlM] at hz ⊢
    by_cases hc : 20 ≤ codY z.1 ∧ codY z.1 ≤ 38
    · rw [if_pos hc] at hz ⊢
      refine ih _ _ _ ?_ hz
      rw [lf_chl hL] at hz
      exact hO _ (GpY.z (gd_chl hG f _) hz)
    · rw [if_neg hc]
      exact hd_cl W z h
theorem hd_ch2 {E C : ZS → ZS} {r : Int × Int} {z : ZS} (h : HdZ z.2.1) : HdZ (ch2M E C r z).2.1 := by
  unfold ch2M
  split
  · exact hd_pu (x := chrZ _ _ _ _ _ _ _) (show (8 : Int) ≤ 10 by decide)
  · exact h
theorem hd_chc {O E C : ZS → ZS} {o e c : SpC → SpC} (lO : LfM O o) (lE : LfM E e) (lC : LfM C c) (gO : GdY o) (gE : GdY e) (gC : GdY c) (hO : HdM O) : HdM (chcM O E C) := by
  intro z hz
  have hz1 := hz
  rw [lf_chc lO lE lC] at hz1
  unfold chcY chnY at hz1
  have hz2 : zFt (chlY o 501 (o z.1)) = 0 := by
    refine GpY.z (t := ch2Y e c (chlY o 501 (o z.1))) ?_ hz1
    unfold ch2Y
    split
    · exact (gd_acc _).tr ((gE _).tr ((gd_xp _).tr (gC _)))
    · exact GpY.rf
  have hz3 := GpY.z (gd_chl gO 501 _) hz2
  rw [← lO] at hz3
  exact hd_ch2 (hd_chl lO gO hO 501 [] (rbM z) (O z) (hO z hz3) (by rw [lf_chl lO, lO]; exact hz2))
theorem hd_xps {N : Int → Int} {O E C : ZS → ZS} {o e c : SpC → SpC} (lO : LfM O o) (lE : LfM E e) (lC : LfM C c) (gO : GdY o) (gE : GdY e) (gC : GdY c) (hO : HdM O) : HdM (xpsM N O E C) := by
  intro z hz
  unfold xpsM at hz ⊢
  split at hz
  · next h80 =>
    rw [if_pos h80]
    split at hz
    · next ha =>
      rw [if_pos ha]
      exact hd_pu (x := asrZ _ _ _ _ _ _ _) (show (9 : Int) ≤ 10 by decide)
    · next ha =>
      rw [if_neg ha]
      exact hd_chc lO lE lC gO gE gC hO z hz
  · next h80 =>
    rw [if_neg h80]
    exact hd_chc lO lE lC gO gE gC hO z hz
theorem hd_cle {r : Int × Int} {l : List Int} {z : ZS} : HdZ (cleM r l z).2.1 := hd_pu (x := calZ r.1 r.2 l z.1) (z := z) (show (10 : Int) ≤ 10 by decide)
theorem hd_clp {E : ZS → ZS} {r : Int × Int} : ∀ (f : Nat) (l : List Int) (z : ZS), HdZ (clpM E r f l z).2.1 := by
  intro f
  induction f with
  | zero => intro l z; exact hd_cle
  | succ f ih =>
    intro l z
    rw [clpM]
    split
    · exact ih _ _
    · exact hd_cle
theorem hd_opr {N : Int → Int} {m : Nat} {E : ZS → ZS} {I : Int → ZS → ZS} (g : Int) : HdM (oprM N m E I g) := by
  intro z hz
  unfold oprM at hz ⊢
  split at hz
  · next h1 =>
    rw [if_pos h1]
    exact hd_pu (x := alnZ _ _ _ _ _) (show (4 : Int) ≤ 10 by decide)
  next h1 =>
  rw [if_neg h1]
  split at hz
  · next h2 =>
    rw [if_pos h2]
    exact hd_pu (x := preZ _ (xnM z) z.1) (z := accM z) (show (6 : Int) ≤ 10 by decide)
  next h2 =>
  rw [if_neg h2]
  split at hz
  · next h3 =>
    rw [if_pos h3]
    unfold op2M
    split
    · exact hd_pu (x := casZ _ _ _ _ _) (show (5 : Int) ≤ 10 by decide)
    · exact hd_pu (x := parZ _ _ (xnM (E (accM z))) (E (accM z)).1) (z := E (accM z)) (show (3 : Int) ≤ 10 by decide)
  next h3 =>
  rw [if_neg h3]
  split at hz
  · next h4 =>
    rw [if_pos h4]
    unfold nmeM at hz ⊢
    split at hz
    · next h5 =>
      rw [if_pos h5]
      unfold ca2M at hz ⊢
      split at hz
      · have := GpY.z (gd_xp (c := 1) _) hz
        exact absurd this (raiY_z (by decide))
      next h6 =>
      rw [if_neg h6]
      split
      · exact hd_cle
      · exact hd_clp 501 _ _
    next h5 =>
    rw [if_neg h5]
    split
    · exact hd_pu (x := posZ _ (xnM z) z.1) (z := accM (accM z)) (show (6 : Int) ≤ 10 by decide)
    · exact hd_pu (x := namZ _ (xnM z) z.1) (z := accM z) (show (2 : Int) ≤ 10 by decide)
  next h4 =>
  rw [if_neg h4]
  split at hz
  · next h5 =>
    rw [if_pos h5]
    refine hd_pu (x := litZ g (xnM z) z.1) (z := accM z) ?_
    show (if codY z.1 = 81 ∨ codY z.1 = 82 then (0 : Int) else 1) ≤ 10
    split <;> decide
  · exact absurd hz (raiY_z (by decide))
theorem hd_lv {N : Int → Int} : ∀ n, HdM (eM N n) := by
  intro n
  cases n with
  | zero => exact fun z hz => absurd hz (raiY_z (by decide))
  | succ n =>
    have lo : LfM (oprM N n (eM N n) (oM N n) 0) (oprY n (eY n) (oY n)) := lf_opr lf_e (fun _ => lf_o) 0
    have go : GdY (oprY n (eY n) (oY n)) := gd_opr gd_e gd_o
    exact hd_xps lo lf_e lf_c go gd_e gd_c (hd_opr 0)
theorem hd_e {N : Int → Int} {n : Nat} : HdM (eM N n) := hd_lv n

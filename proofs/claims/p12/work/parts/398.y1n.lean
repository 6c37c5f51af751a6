/-! exps: no MARK of taking without an assignment -/
def XnR (l l' : List ItZ) : Prop := ∃ t : List XrZ, l' = t.map Sum.inl ++ l ∧ ((∀ x ∈ t, ¬ x.1.1 = 9) → ∀ x ∈ t, ¬ x.1.1 = 14)
theorem XnR.rf {l : List ItZ} : XnR l l := ⟨[], rfl, fun _ _ h => absurd h List.not_mem_nil⟩
theorem XnR.pu {x : XrZ} {l : List ItZ} (h : ¬ x.1.1 = 14) : XnR l (.inl x :: l) := ⟨[x], rfl, fun _ y q => by
  rcases List.mem_cons.mp q with e | e
  · rw [e]; exact h
  · exact absurd e List.not_mem_nil⟩
theorem XnR.a9 {x : XrZ} {l l' : List ItZ} (h : XkR l l') (hx : x.1.1 = 9) : XnR l (.inl x :: l') := by
  obtain ⟨t, rfl, _⟩ := h
  exact ⟨x :: t, rfl, fun q => absurd hx (q x List.mem_cons_self)⟩
theorem XnR.trans {l l' l'' : List ItZ} (h : XnR l l') (h' : XnR l' l'') : XnR l l'' := by
  obtain ⟨t, rfl, h1⟩ := h
  obtain ⟨u, rfl, h2⟩ := h'
  exact ⟨u ++ t, by rw [List.map_append, List.append_assoc], fun n x q => (List.mem_append.mp q).elim (h2 (fun y hy => n y (List.mem_append_left _ hy)) x) (h1 (fun y hy => n y (List.mem_append_right _ hy)) x)⟩
abbrev JnM (f : ZS → ZS) : Prop := ∀ z, XnR z.2.1 (f z).2.1
theorem nk_cl {p : Int} : ∀ (W : WtZ) (z : ZS), XnR z.2.1 (clM p W z).2.1 := by
  intro W
  induction W with
  | nil => intro z; exact XnR.rf
  | cons w W ih =>
    intro z
    obtain ⟨sg, f, st, a, mk_⟩ := w
    rw [clM]
    split
    · refine XnR.trans ?_ (ih _)
      exact (XnR.pu (by first | exact (show ¬ (7 : Int) = 14 by decide) | exact (show ¬ (11 : Int) = 14 by decide) | exact (show ¬ (12 : Int) = 14 by decide) | exact (show ¬ (13 : Int) = 14 by decide) | exact (show ¬ (3 : Int) = 14 by decide) | exact (show ¬ (4 : Int) = 14 by decide) | exact (show ¬ (5 : Int) = 14 by decide) | exact (show ¬ (6 : Int) = 14 by decide) | exact (show ¬ (8 : Int) = 14 by decide) | exact (show ¬ (9 : Int) = 14 by decide) | exact (show ¬ (10 : Int) = 14 by decide) | exact (show ¬ (2 : Int) = 14 by decide) | (show ¬ (if _ then (0 : Int) else 1) = 14; split <;> decide)))
    · exact XnR.rf
theorem nk_fk {z : ZS} : XnR z.2.1 (fkM z).2.1 := by unfold fkM; split <;> first | exact XnR.rf | exact (XnR.pu (by first | exact (show ¬ (7 : Int) = 14 by decide) | exact (show ¬ (11 : Int) = 14 by decide) | exact (show ¬ (12 : Int) = 14 by decide) | exact (show ¬ (13 : Int) = 14 by decide) | exact (show ¬ (3 : Int) = 14 by decide) | exact (show ¬ (4 : Int) = 14 by decide) | exact (show ¬ (5 : Int) = 14 by decide) | exact (show ¬ (6 : Int) = 14 by decide) | exact (show ¬ (8 : Int) = 14 by decide) | exact (show ¬ (9 : Int) = 14 by decide) | exact (show ¬ (10 : Int) = 14 by decide) | exact (show ¬ (2 : Int) = 14 by decide) | (show ¬ (if _ then (0 : Int) else 1) = 14; split <;> decide)))
theorem nk_chl {O : ZS → ZS} (h : JnM O) : ∀ (f : Nat) (W : WtZ) (r : Int × Int) (z : ZS), XnR z.2.1 (chlM O f W r z).2.1 := by
  intro f
  induction f with
  | zero => intro W r z; exact nk_cl W z
  | succ f ih =>
    intro W r z
    rw [chlM]
    split
    · refine XnR.trans ?_ (ih _ _ _)
      refine XnR.trans ?_ (h _)
      show XnR _ (fkM _).2.1
      exact (nk_cl W z).trans nk_fk
    · exact nk_cl W z
theorem nk_chc {O E C : ZS → ZS} (hO : JnM O) (hE : JnM E) (hC : JnM C) : JnM (chcM O E C) := by
  intro z
  show XnR _ (ch2M E C _ (chlM O 501 [] _ (O z))).2.1
  unfold ch2M
  split
  · refine XnR.trans ?_ (XnR.pu (by first | exact (show ¬ (7 : Int) = 14 by decide) | exact (show ¬ (11 : Int) = 14 by decide) | exact (show ¬ (12 : Int) = 14 by decide) | exact (show ¬ (13 : Int) = 14 by decide) | exact (show ¬ (3 : Int) = 14 by decide) | exact (show ¬ (4 : Int) = 14 by decide) | exact (show ¬ (5 : Int) = 14 by decide) | exact (show ¬ (6 : Int) = 14 by decide) | exact (show ¬ (8 : Int) = 14 by decide) | exact (show ¬ (9 : Int) = 14 by decide) | exact (show ¬ (10 : Int) = 14 by decide) | exact (show ¬ (2 : Int) = 14 by decide) | (show ¬ (if _ then (0 : Int) else 1) = 14; split <;> decide)))
    refine XnR.trans ?_ (hC _)
    refine XnR.trans ?_ (XnR.pu (by first | exact (show ¬ (7 : Int) = 14 by decide) | exact (show ¬ (11 : Int) = 14 by decide) | exact (show ¬ (12 : Int) = 14 by decide) | exact (show ¬ (13 : Int) = 14 by decide) | exact (show ¬ (3 : Int) = 14 by decide) | exact (show ¬ (4 : Int) = 14 by decide) | exact (show ¬ (5 : Int) = 14 by decide) | exact (show ¬ (6 : Int) = 14 by decide) | exact (show ¬ (8 : Int) = 14 by decide) | exact (show ¬ (9 : Int) = 14 by decide) | exact (show ¬ (10 : Int) = 14 by decide) | exact (show ¬ (2 : Int) = 14 by decide) | (show ¬ (if _ then (0 : Int) else 1) = 14; split <;> decide)))
    refine XnR.trans ?_ (hE _)
    refine XnR.trans ?_ (XnR.pu (by first | exact (show ¬ (7 : Int) = 14 by decide) | exact (show ¬ (11 : Int) = 14 by decide) | exact (show ¬ (12 : Int) = 14 by decide) | exact (show ¬ (13 : Int) = 14 by decide) | exact (show ¬ (3 : Int) = 14 by decide) | exact (show ¬ (4 : Int) = 14 by decide) | exact (show ¬ (5 : Int) = 14 by decide) | exact (show ¬ (6 : Int) = 14 by decide) | exact (show ¬ (8 : Int) = 14 by decide) | exact (show ¬ (9 : Int) = 14 by decide) | exact (show ¬ (10 : Int) = 14 by decide) | exact (show ¬ (2 : Int) = 14 by decide) | (show ¬ (if _ then (0 : Int) else 1) = 14; split <;> decide)))
    exact (hO z).trans (nk_chl hO _ _ _ _)
  · exact (hO z).trans (nk_chl hO _ _ _ _)
theorem nk_xps {N : Int → Int} {O E C : ZS → ZS} (hO : JnM O) (hE : JnM E) (hC : JnM C) (hEk : IkM E) : JnM (xpsM N O E C) := by
  intro z
  unfold xpsM
  split
  · split
    · refine XnR.a9 (l' := (E _).2.1) ?_ rfl
      exact XkR.trans ik_tk (hEk _)
    · exact nk_chc hO hE hC z
  · exact nk_chc hO hE hC z
theorem nk_clp {E : ZS → ZS} (hE : JnM E) (r : Int × Int) : ∀ (f : Nat) (l : List Int) (z : ZS), XnR z.2.1 (clpM E r f l z).2.1 := by
  intro f
  induction f with
  | zero => intro l z; first | exact XnR.rf | exact (XnR.pu (by first | exact (show ¬ (7 : Int) = 14 by decide) | exact (show ¬ (11 : Int) = 14 by decide) | exact (show ¬ (12 : Int) = 14 by decide) | exact (show ¬ (13 : Int) = 14 by decide) | exact (show ¬ (3 : Int) = 14 by decide) | exact (show ¬ (4 : Int) = 14 by decide) | exact (show ¬ (5 : Int) = 14 by decide) | exact (show ¬ (6 : Int) = 14 by decide) | exact (show ¬ (8 : Int) = 14 by decide) | exact (show ¬ (9 : Int) = 14 by decide) | exact (show ¬ (10 : Int) = 14 by decide) | exact (show ¬ (2 : Int) = 14 by decide) | (show ¬ (if _ then (0 : Int) else 1) = 14; split <;> decide)))
  | succ f ih =>
    intro l z
    rw [clpM]
    split
    · show XnR _ (clpM E r f _ (E (accM z))).2.1
      exact (hE (accM z)).trans (ih _ _)
    · first | exact XnR.rf | exact (XnR.pu (by first | exact (show ¬ (7 : Int) = 14 by decide) | exact (show ¬ (11 : Int) = 14 by decide) | exact (show ¬ (12 : Int) = 14 by decide) | exact (show ¬ (13 : Int) = 14 by decide) | exact (show ¬ (3 : Int) = 14 by decide) | exact (show ¬ (4 : Int) = 14 by decide) | exact (show ¬ (5 : Int) = 14 by decide) | exact (show ¬ (6 : Int) = 14 by decide) | exact (show ¬ (8 : Int) = 14 by decide) | exact (show ¬ (9 : Int) = 14 by decide) | exact (show ¬ (10 : Int) = 14 by decide) | exact (show ¬ (2 : Int) = 14 by decide) | (show ¬ (if _ then (0 : Int) else 1) = 14; split <;> decide)))
theorem nk_opr {N : Int → Int} {m : Nat} {E : ZS → ZS} {I : Int → ZS → ZS} (hE : JnM E) (hI : ∀ g, JnM (I g)) (g : Int) : JnM (oprM N m E I g) := by
  intro z
  unfold oprM
  split
  · exact (hI _ (accM z)).trans (XnR.pu (by first | exact (show ¬ (7 : Int) = 14 by decide) | exact (show ¬ (11 : Int) = 14 by decide) | exact (show ¬ (12 : Int) = 14 by decide) | exact (show ¬ (13 : Int) = 14 by decide) | exact (show ¬ (3 : Int) = 14 by decide) | exact (show ¬ (4 : Int) = 14 by decide) | exact (show ¬ (5 : Int) = 14 by decide) | exact (show ¬ (6 : Int) = 14 by decide) | exact (show ¬ (8 : Int) = 14 by decide) | exact (show ¬ (9 : Int) = 14 by decide) | exact (show ¬ (10 : Int) = 14 by decide) | exact (show ¬ (2 : Int) = 14 by decide) | (show ¬ (if _ then (0 : Int) else 1) = 14; split <;> decide)))
  split
  · exact (XnR.pu (by first | exact (show ¬ (7 : Int) = 14 by decide) | exact (show ¬ (11 : Int) = 14 by decide) | exact (show ¬ (12 : Int) = 14 by decide) | exact (show ¬ (13 : Int) = 14 by decide) | exact (show ¬ (3 : Int) = 14 by decide) | exact (show ¬ (4 : Int) = 14 by decide) | exact (show ¬ (5 : Int) = 14 by decide) | exact (show ¬ (6 : Int) = 14 by decide) | exact (show ¬ (8 : Int) = 14 by decide) | exact (show ¬ (9 : Int) = 14 by decide) | exact (show ¬ (10 : Int) = 14 by decide) | exact (show ¬ (2 : Int) = 14 by decide) | (show ¬ (if _ then (0 : Int) else 1) = 14; split <;> decide)))
  split
  · unfold op2M
    show XnR _ (if 50 ≤ codY (accY z.1) ∧ codY (accY z.1) ≤ 54 then _ else _ : ZS).2.1
    split
    · exact (hI 0 (xpM 1 (typM (accM z)))).trans (XnR.pu (by first | exact (show ¬ (7 : Int) = 14 by decide) | exact (show ¬ (11 : Int) = 14 by decide) | exact (show ¬ (12 : Int) = 14 by decide) | exact (show ¬ (13 : Int) = 14 by decide) | exact (show ¬ (3 : Int) = 14 by decide) | exact (show ¬ (4 : Int) = 14 by decide) | exact (show ¬ (5 : Int) = 14 by decide) | exact (show ¬ (6 : Int) = 14 by decide) | exact (show ¬ (8 : Int) = 14 by decide) | exact (show ¬ (9 : Int) = 14 by decide) | exact (show ¬ (10 : Int) = 14 by decide) | exact (show ¬ (2 : Int) = 14 by decide) | (show ¬ (if _ then (0 : Int) else 1) = 14; split <;> decide)))
    · exact (hE (accM z)).trans (XnR.pu (by first | exact (show ¬ (7 : Int) = 14 by decide) | exact (show ¬ (11 : Int) = 14 by decide) | exact (show ¬ (12 : Int) = 14 by decide) | exact (show ¬ (13 : Int) = 14 by decide) | exact (show ¬ (3 : Int) = 14 by decide) | exact (show ¬ (4 : Int) = 14 by decide) | exact (show ¬ (5 : Int) = 14 by decide) | exact (show ¬ (6 : Int) = 14 by decide) | exact (show ¬ (8 : Int) = 14 by decide) | exact (show ¬ (9 : Int) = 14 by decide) | exact (show ¬ (10 : Int) = 14 by decide) | exact (show ¬ (2 : Int) = 14 by decide) | (show ¬ (if _ then (0 : Int) else 1) = 14; split <;> decide)))
  split
  · unfold nmeM
    split
    · unfold ca2M
      split
      · exact XnR.rf
      split
      · exact (XnR.pu (by first | exact (show ¬ (7 : Int) = 14 by decide) | exact (show ¬ (11 : Int) = 14 by decide) | exact (show ¬ (12 : Int) = 14 by decide) | exact (show ¬ (13 : Int) = 14 by decide) | exact (show ¬ (3 : Int) = 14 by decide) | exact (show ¬ (4 : Int) = 14 by decide) | exact (show ¬ (5 : Int) = 14 by decide) | exact (show ¬ (6 : Int) = 14 by decide) | exact (show ¬ (8 : Int) = 14 by decide) | exact (show ¬ (9 : Int) = 14 by decide) | exact (show ¬ (10 : Int) = 14 by decide) | exact (show ¬ (2 : Int) = 14 by decide) | (show ¬ (if _ then (0 : Int) else 1) = 14; split <;> decide)))
      · show XnR _ (clpM E _ 501 _ (E _)).2.1
        refine XnR.trans ?_ (nk_clp hE _ _ _ _)
        exact hE (accM (accM z))
    split
    · exact (XnR.pu (by first | exact (show ¬ (7 : Int) = 14 by decide) | exact (show ¬ (11 : Int) = 14 by decide) | exact (show ¬ (12 : Int) = 14 by decide) | exact (show ¬ (13 : Int) = 14 by decide) | exact (show ¬ (3 : Int) = 14 by decide) | exact (show ¬ (4 : Int) = 14 by decide) | exact (show ¬ (5 : Int) = 14 by decide) | exact (show ¬ (6 : Int) = 14 by decide) | exact (show ¬ (8 : Int) = 14 by decide) | exact (show ¬ (9 : Int) = 14 by decide) | exact (show ¬ (10 : Int) = 14 by decide) | exact (show ¬ (2 : Int) = 14 by decide) | (show ¬ (if _ then (0 : Int) else 1) = 14; split <;> decide)))
    · exact (XnR.pu (by first | exact (show ¬ (7 : Int) = 14 by decide) | exact (show ¬ (11 : Int) = 14 by decide) | exact (show ¬ (12 : Int) = 14 by decide) | exact (show ¬ (13 : Int) = 14 by decide) | exact (show ¬ (3 : Int) = 14 by decide) | exact (show ¬ (4 : Int) = 14 by decide) | exact (show ¬ (5 : Int) = 14 by decide) | exact (show ¬ (6 : Int) = 14 by decide) | exact (show ¬ (8 : Int) = 14 by decide) | exact (show ¬ (9 : Int) = 14 by decide) | exact (show ¬ (10 : Int) = 14 by decide) | exact (show ¬ (2 : Int) = 14 by decide) | (show ¬ (if _ then (0 : Int) else 1) = 14; split <;> decide)))
  split
  · exact (XnR.pu (by first | exact (show ¬ (7 : Int) = 14 by decide) | exact (show ¬ (11 : Int) = 14 by decide) | exact (show ¬ (12 : Int) = 14 by decide) | exact (show ¬ (13 : Int) = 14 by decide) | exact (show ¬ (3 : Int) = 14 by decide) | exact (show ¬ (4 : Int) = 14 by decide) | exact (show ¬ (5 : Int) = 14 by decide) | exact (show ¬ (6 : Int) = 14 by decide) | exact (show ¬ (8 : Int) = 14 by decide) | exact (show ¬ (9 : Int) = 14 by decide) | exact (show ¬ (10 : Int) = 14 by decide) | exact (show ¬ (2 : Int) = 14 by decide) | (show ¬ (if _ then (0 : Int) else 1) = 14; split <;> decide)))
  · exact XnR.rf
theorem nk_lv {N : Int → Int} : ∀ n, JnM (eM N n) ∧ JnM (cM N n) ∧ ∀ g, JnM (oM N n g) := by
  intro n
  induction n with
  | zero => exact ⟨fun _ => XnR.rf, fun _ => XnR.rf, fun _ _ => XnR.rf⟩
  | succ n ih => exact ⟨nk_xps (nk_opr ih.1 ih.2.2 0) ih.1 ih.2.1 (ik_lv n).1, nk_chc (nk_opr ih.1 ih.2.2 0) ih.1 ih.2.1, fun g => nk_opr ih.1 ih.2.2 g⟩

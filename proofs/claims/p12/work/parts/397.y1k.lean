/-! exps lay exps and marks alone, none of kind 15 -/
def XkR (l l' : List ItZ) : Prop := ∃ t : List XrZ, l' = t.map Sum.inl ++ l ∧ ∀ x ∈ t, x.1.1 ≤ 14
theorem XkR.rf {l : List ItZ} : XkR l l := ⟨[], rfl, fun _ h => absurd h List.not_mem_nil⟩
theorem XkR.pu {x : XrZ} {l : List ItZ} (h : x.1.1 ≤ 14) : XkR l (.inl x :: l) := ⟨[x], rfl, fun y q => by
  rcases List.mem_cons.mp q with e | e
  · rw [e]; exact h
  · exact absurd e List.not_mem_nil⟩
theorem XkR.trans {l l' l'' : List ItZ} (h : XkR l l') (h' : XkR l' l'') : XkR l l'' := by
  obtain ⟨t, rfl, h1⟩ := h
  obtain ⟨u, rfl, h2⟩ := h'
  exact ⟨u ++ t, by rw [List.map_append, List.append_assoc], fun x q => (List.mem_append.mp q).elim (h2 x) (h1 x)⟩
abbrev IkM (f : ZS → ZS) : Prop := ∀ z, XkR z.2.1 (f z).2.1
theorem ik_cl {p : Int} : ∀ (W : WtZ) (z : ZS), XkR z.2.1 (clM p W z).2.1 := by
  intro W
  induction W with
  | nil => intro z; exact XkR.rf
  | cons w W ih =>
    intro z
    obtain ⟨sg, f, st, a, mk_⟩ := w
    rw [clM]
    split
    · refine XkR.trans ?_ (ih _)
      exact (XkR.pu (by first | exact (show (7 : Int) ≤ 14 by decide) | exact (show (11 : Int) ≤ 14 by decide) | exact (show (12 : Int) ≤ 14 by decide) | exact (show (13 : Int) ≤ 14 by decide) | exact (show (14 : Int) ≤ 14 by decide) | exact (show (3 : Int) ≤ 14 by decide) | exact (show (4 : Int) ≤ 14 by decide) | exact (show (5 : Int) ≤ 14 by decide) | exact (show (6 : Int) ≤ 14 by decide) | exact (show (8 : Int) ≤ 14 by decide) | exact (show (9 : Int) ≤ 14 by decide) | exact (show (10 : Int) ≤ 14 by decide) | exact (show (2 : Int) ≤ 14 by decide) | (show (if _ then (0 : Int) else 1) ≤ 14; split <;> decide)))
    · exact XkR.rf
theorem ik_fk {z : ZS} : XkR z.2.1 (fkM z).2.1 := by unfold fkM; split <;> first | exact XkR.rf | exact (XkR.pu (by first | exact (show (7 : Int) ≤ 14 by decide) | exact (show (11 : Int) ≤ 14 by decide) | exact (show (12 : Int) ≤ 14 by decide) | exact (show (13 : Int) ≤ 14 by decide) | exact (show (14 : Int) ≤ 14 by decide) | exact (show (3 : Int) ≤ 14 by decide) | exact (show (4 : Int) ≤ 14 by decide) | exact (show (5 : Int) ≤ 14 by decide) | exact (show (6 : Int) ≤ 14 by decide) | exact (show (8 : Int) ≤ 14 by decide) | exact (show (9 : Int) ≤ 14 by decide) | exact (show (10 : Int) ≤ 14 by decide) | exact (show (2 : Int) ≤ 14 by decide) | (show (if _ then (0 : Int) else 1) ≤ 14; split <;> decide)))
theorem ik_tk {N : Int → Int} {z : ZS} : XkR z.2.1 (tkM N z).2.1 := by unfold tkM; split <;> first | exact XkR.rf | exact (XkR.pu (by first | exact (show (7 : Int) ≤ 14 by decide) | exact (show (11 : Int) ≤ 14 by decide) | exact (show (12 : Int) ≤ 14 by decide) | exact (show (13 : Int) ≤ 14 by decide) | exact (show (14 : Int) ≤ 14 by decide) | exact (show (3 : Int) ≤ 14 by decide) | exact (show (4 : Int) ≤ 14 by decide) | exact (show (5 : Int) ≤ 14 by decide) | exact (show (6 : Int) ≤ 14 by decide) | exact (show (8 : Int) ≤ 14 by decide) | exact (show (9 : Int) ≤ 14 by decide) | exact (show (10 : Int) ≤ 14 by decide) | exact (show (2 : Int) ≤ 14 by decide) | (show (if _ then (0 : Int) else 1) ≤ 14; split <;> decide)))
theorem ik_chl {O : ZS → ZS} (h : IkM O) : ∀ (f : Nat) (W : WtZ) (r : Int × Int) (z : ZS), XkR z.2.1 (chlM O f W r z).2.1 := by
  intro f
  induction f with
  | zero => intro W r z; exact ik_cl W z
  | succ f ih =>
    intro W r z
    rw [chlM]
    split
    · refine XkR.trans ?_ (ih _ _ _)
      refine XkR.trans ?_ (h _)
      show XkR _ (fkM _).2.1
      exact (ik_cl W z).trans ik_fk
    · exact ik_cl W z
theorem ik_chc {O E C : ZS → ZS} (hO : IkM O) (hE : IkM E) (hC : IkM C) : IkM (chcM O E C) := by
  intro z
  show XkR _ (ch2M E C _ (chlM O 501 [] _ (O z))).2.1
  unfold ch2M
  split
  · refine XkR.trans ?_ (XkR.pu (by first | exact (show (7 : Int) ≤ 14 by decide) | exact (show (11 : Int) ≤ 14 by decide) | exact (show (12 : Int) ≤ 14 by decide) | exact (show (13 : Int) ≤ 14 by decide) | exact (show (14 : Int) ≤ 14 by decide) | exact (show (3 : Int) ≤ 14 by decide) | exact (show (4 : Int) ≤ 14 by decide) | exact (show (5 : Int) ≤ 14 by decide) | exact (show (6 : Int) ≤ 14 by decide) | exact (show (8 : Int) ≤ 14 by decide) | exact (show (9 : Int) ≤ 14 by decide) | exact (show (10 : Int) ≤ 14 by decide) | exact (show (2 : Int) ≤ 14 by decide) | (show (if _ then (0 : Int) else 1) ≤ 14; split <;> decide)))
    refine XkR.trans ?_ (hC _)
    refine XkR.trans ?_ (XkR.pu (by first | exact (show (7 : Int) ≤ 14 by decide) | exact (show (11 : Int) ≤ 14 by decide) | exact (show (12 : Int) ≤ 14 by decide) | exact (show (13 : Int) ≤ 14 by decide) | exact (show (14 : Int) ≤ 14 by decide) | exact (show (3 : Int) ≤ 14 by decide) | exact (show (4 : Int) ≤ 14 by decide) | exact (show (5 : Int) ≤ 14 by decide) | exact (show (6 : Int) ≤ 14 by decide) | exact (show (8 : Int) ≤ 14 by decide) | exact (show (9 : Int) ≤ 14 by decide) | exact (show (10 : Int) ≤ 14 by decide) | exact (show (2 : Int) ≤ 14 by decide) | (show (if _ then (0 : Int) else 1) ≤ 14; split <;> decide)))
    refine XkR.trans ?_ (hE _)
    refine XkR.trans ?_ (XkR.pu (by first | exact (show (7 : Int) ≤ 14 by decide) | exact (show (11 : Int) ≤ 14 by decide) | exact (show (12 : Int) ≤ 14 by decide) | exact (show (13 : Int) ≤ 14 by decide) | exact (show (14 : Int) ≤ 14 by decide) | exact (show (3 : Int) ≤ 14 by decide) | exact (show (4 : Int) ≤ 14 by decide) | exact (show (5 : Int) ≤ 14 by decide) | exact (show (6 : Int) ≤ 14 by decide) | exact (show (8 : Int) ≤ 14 by decide) | exact (show (9 : Int) ≤ 14 by decide) | exact (show (10 : Int) ≤ 14 by decide) | exact (show (2 : Int) ≤ 14 by decide) | (show (if _ then (0 : Int) else 1) ≤ 14; split <;> decide)))
    exact (hO z).trans (ik_chl hO _ _ _ _)
  · exact (hO z).trans (ik_chl hO _ _ _ _)
theorem ik_xps {N : Int → Int} {O E C : ZS → ZS} (hO : IkM O) (hE : IkM E) (hC : IkM C) : IkM (xpsM N O E C) := by
  intro z
  unfold xpsM
  split
  · split
    · refine XkR.trans ?_ (XkR.pu (by first | exact (show (7 : Int) ≤ 14 by decide) | exact (show (11 : Int) ≤ 14 by decide) | exact (show (12 : Int) ≤ 14 by decide) | exact (show (13 : Int) ≤ 14 by decide) | exact (show (14 : Int) ≤ 14 by decide) | exact (show (3 : Int) ≤ 14 by decide) | exact (show (4 : Int) ≤ 14 by decide) | exact (show (5 : Int) ≤ 14 by decide) | exact (show (6 : Int) ≤ 14 by decide) | exact (show (8 : Int) ≤ 14 by decide) | exact (show (9 : Int) ≤ 14 by decide) | exact (show (10 : Int) ≤ 14 by decide) | exact (show (2 : Int) ≤ 14 by decide) | (show (if _ then (0 : Int) else 1) ≤ 14; split <;> decide)))
      refine XkR.trans ?_ (hE _)
      exact ik_tk
    · exact ik_chc hO hE hC z
  · exact ik_chc hO hE hC z
theorem ik_clp {E : ZS → ZS} (hE : IkM E) (r : Int × Int) : ∀ (f : Nat) (l : List Int) (z : ZS), XkR z.2.1 (clpM E r f l z).2.1 := by
  intro f
  induction f with
  | zero => intro l z; first | exact XkR.rf | exact (XkR.pu (by first | exact (show (7 : Int) ≤ 14 by decide) | exact (show (11 : Int) ≤ 14 by decide) | exact (show (12 : Int) ≤ 14 by decide) | exact (show (13 : Int) ≤ 14 by decide) | exact (show (14 : Int) ≤ 14 by decide) | exact (show (3 : Int) ≤ 14 by decide) | exact (show (4 : Int) ≤ 14 by decide) | exact (show (5 : Int) ≤ 14 by decide) | exact (show (6 : Int) ≤ 14 by decide) | exact (show (8 : Int) ≤ 14 by decide) | exact (show (9 : Int) ≤ 14 by decide) | exact (show (10 : Int) ≤ 14 by decide) | exact (show (2 : Int) ≤ 14 by decide) | (show (if _ then (0 : Int) else 1) ≤ 14; split <;> decide)))
  | succ f ih =>
    intro l z
    rw [clpM]
    split
    · show XkR _ (clpM E r f _ (E (accM z))).2.1
      exact (hE (accM z)).trans (ih _ _)
    · first | exact XkR.rf | exact (XkR.pu (by first | exact (show (7 : Int) ≤ 14 by decide) | exact (show (11 : Int) ≤ 14 by decide) | exact (show (12 : Int) ≤ 14 by decide) | exact (show (13 : Int) ≤ 14 by decide) | exact (show (14 : Int) ≤ 14 by decide) | exact (show (3 : Int) ≤ 14 by decide) | exact (show (4 : Int) ≤ 14 by decide) | exact (show (5 : Int) ≤ 14 by decide) | exact (show (6 : Int) ≤ 14 by decide) | exact (show (8 : Int) ≤ 14 by decide) | exact (show (9 : Int) ≤ 14 by decide) | exact (show (10 : Int) ≤ 14 by decide) | exact (show (2 : Int) ≤ 14 by decide) | (show (if _ then (0 : Int) else 1) ≤ 14; split <;> decide)))
theorem ik_opr {N : Int → Int} {m : Nat} {E : ZS → ZS} {I : Int → ZS → ZS} (hE : IkM E) (hI : ∀ g, IkM (I g)) (g : Int) : IkM (oprM N m E I g) := by
  intro z
  unfold oprM
  split
  · exact (hI _ (accM z)).trans (XkR.pu (by first | exact (show (7 : Int) ≤ 14 by decide) | exact (show (11 : Int) ≤ 14 by decide) | exact (show (12 : Int) ≤ 14 by decide) | exact (show (13 : Int) ≤ 14 by decide) | exact (show (14 : Int) ≤ 14 by decide) | exact (show (3 : Int) ≤ 14 by decide) | exact (show (4 : Int) ≤ 14 by decide) | exact (show (5 : Int) ≤ 14 by decide) | exact (show (6 : Int) ≤ 14 by decide) | exact (show (8 : Int) ≤ 14 by decide) | exact (show (9 : Int) ≤ 14 by decide) | exact (show (10 : Int) ≤ 14 by decide) | exact (show (2 : Int) ≤ 14 by decide) | (show (if _ then (0 : Int) else 1) ≤ 14; split <;> decide)))
  split
  · exact (XkR.pu (by first | exact (show (7 : Int) ≤ 14 by decide) | exact (show (11 : Int) ≤ 14 by decide) | exact (show (12 : Int) ≤ 14 by decide) | exact (show (13 : Int) ≤ 14 by decide) | exact (show (14 : Int) ≤ 14 by decide) | exact (show (3 : Int) ≤ 14 by decide) | exact (show (4 : Int) ≤ 14 by decide) | exact (show (5 : Int) ≤ 14 by decide) | exact (show (6 : Int) ≤ 14 by decide) | exact (show (8 : Int) ≤ 14 by decide) | exact (show (9 : Int) ≤ 14 by decide) | exact (show (10 : Int) ≤ 14 by decide) | exact (show (2 : Int) ≤ 14 by decide) | (show (if _ then (0 : Int) else 1) ≤ 14; split <;> decide)))
  split
  · unfold op2M
    show XkR _ (if 50 ≤ codY (accY z.1) ∧ codY (accY z.1) ≤ 54 then _ else _ : ZS).2.1
    split
    · exact (hI 0 (xpM 1 (typM (accM z)))).trans (XkR.pu (by first | exact (show (7 : Int) ≤ 14 by decide) | exact (show (11 : Int) ≤ 14 by decide) | exact (show (12 : Int) ≤ 14 by decide) | exact (show (13 : Int) ≤ 14 by decide) | exact (show (14 : Int) ≤ 14 by decide) | exact (show (3 : Int) ≤ 14 by decide) | exact (show (4 : Int) ≤ 14 by decide) | exact (show (5 : Int) ≤ 14 by decide) | exact (show (6 : Int) ≤ 14 by decide) | exact (show (8 : Int) ≤ 14 by decide) | exact (show (9 : Int) ≤ 14 by decide) | exact (show (10 : Int) ≤ 14 by decide) | exact (show (2 : Int) ≤ 14 by decide) | (show (if _ then (0 : Int) else 1) ≤ 14; split <;> decide)))
    · exact (hE (accM z)).trans (XkR.pu (by first | exact (show (7 : Int) ≤ 14 by decide) | exact (show (11 : Int) ≤ 14 by decide) | exact (show (12 : Int) ≤ 14 by decide) | exact (show (13 : Int) ≤ 14 by decide) | exact (show (14 : Int) ≤ 14 by decide) | exact (show (3 : Int) ≤ 14 by decide) | exact (show (4 : Int) ≤ 14 by decide) | exact (show (5 : Int) ≤ 14 by decide) | exact (show (6 : Int) ≤ 14 by decide) | exact (show (8 : Int) ≤ 14 by decide) | exact (show (9 : Int) ≤ 14 by decide) | exact (show (10 : Int) ≤ 14 by decide) | exact (show (2 : Int) ≤ 14 by decide) | (show (if _ then (0 : Int) else 1) ≤ 14; split <;> decide)))
  split
  · unfold nmeM
    split
    · unfold ca2M
      split
      · exact XkR.rf
      split
      · exact (XkR.pu (by first | exact (show (7 : Int) ≤ 14 by decide) | exact (show (11 : Int) ≤ 14 by decide) | exact (show (12 : Int) ≤ 14 by decide) | exact (show (13 : Int) ≤ 14 by decide) | exact (show (14 : Int) ≤ 14 by decide) | exact (show (3 : Int) ≤ 14 by decide) | exact (show (4 : Int) ≤ 14 by decide) | exact (show (5 : Int) ≤ 14 by decide) | exact (show (6 : Int) ≤ 14 by decide) | exact (show (8 : Int) ≤ 14 by decide) | exact (show (9 : Int) ≤ 14 by decide) | exact (show (10 : Int) ≤ 14 by decide) | exact (show (2 : Int) ≤ 14 by decide) | (show (if _ then (0 : Int) else 1) ≤ 14; split <;> decide)))
      · show XkR _ (clpM E _ 501 _ (E _)).2.1
        refine XkR.trans ?_ (ik_clp hE _ _ _ _)
        exact hE (accM (accM z))
    split
    · exact (XkR.pu (by first | exact (show (7 : Int) ≤ 14 by decide) | exact (show (11 : Int) ≤ 14 by decide) | exact (show (12 : Int) ≤ 14 by decide) | exact (show (13 : Int) ≤ 14 by decide) | exact (show (14 : Int) ≤ 14 by decide) | exact (show (3 : Int) ≤ 14 by decide) | exact (show (4 : Int) ≤ 14 by decide) | exact (show (5 : Int) ≤ 14 by decide) | exact (show (6 : Int) ≤ 14 by decide) | exact (show (8 : Int) ≤ 14 by decide) | exact (show (9 : Int) ≤ 14 by decide) | exact (show (10 : Int) ≤ 14 by decide) | exact (show (2 : Int) ≤ 14 by decide) | (show (if _ then (0 : Int) else 1) ≤ 14; split <;> decide)))
    · exact (XkR.pu (by first | exact (show (7 : Int) ≤ 14 by decide) | exact (show (11 : Int) ≤ 14 by decide) | exact (show (12 : Int) ≤ 14 by decide) | exact (show (13 : Int) ≤ 14 by decide) | exact (show (14 : Int) ≤ 14 by decide) | exact (show (3 : Int) ≤ 14 by decide) | exact (show (4 : Int) ≤ 14 by decide) | exact (show (5 : Int) ≤ 14 by decide) | exact (show (6 : Int) ≤ 14 by decide) | exact (show (8 : Int) ≤ 14 by decide) | exact (show (9 : Int) ≤ 14 by decide) | exact (show (10 : Int) ≤ 14 by decide) | exact (show (2 : Int) ≤ 14 by decide) | (show (if _ then (0 : Int) else 1) ≤ 14; split <;> decide)))
  split
  · exact (XkR.pu (by first | exact (show (7 : Int) ≤ 14 by decide) | exact (show (11 : Int) ≤ 14 by decide) | exact (show (12 : Int) ≤ 14 by decide) | exact (show (13 : Int) ≤ 14 by decide) | exact (show (14 : Int) ≤ 14 by decide) | exact (show (3 : Int) ≤ 14 by decide) | exact (show (4 : Int) ≤ 14 by decide) | exact (show (5 : Int) ≤ 14 by decide) | exact (show (6 : Int) ≤ 14 by decide) | exact (show (8 : Int) ≤ 14 by decide) | exact (show (9 : Int) ≤ 14 by decide) | exact (show (10 : Int) ≤ 14 by decide) | exact (show (2 : Int) ≤ 14 by decide) | (show (if _ then (0 : Int) else 1) ≤ 14; split <;> decide)))
  · exact XkR.rf
theorem ik_lv {N : Int → Int} : ∀ n, IkM (eM N n) ∧ IkM (cM N n) ∧ ∀ g, IkM (oM N n g) := by
  intro n
  induction n with
  | zero => exact ⟨fun _ => XkR.rf, fun _ => XkR.rf, fun _ _ => XkR.rf⟩
  | succ n ih => exact ⟨ik_xps (ik_opr ih.1 ih.2.2 0) ih.1 ih.2.1, ik_chc (ik_opr ih.1 ih.2.2 0) ih.1 ih.2.1, fun g => ik_opr ih.1 ih.2.2 g⟩

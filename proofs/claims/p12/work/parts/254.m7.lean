/-! exps take what stands on top: a pile of numbers -/
def opsZ (x : XrZ) : List Int := if x.1.1 = 3 ∨ x.1.1 = 4 ∨ x.1.1 = 5 ∨ x.1.1 = 15 then [x.2.2.1.2.1] else if x.1.1 = 7 then [x.2.2.1.2.2.1, x.2.2.1.2.1] else if x.1.1 = 8 then [x.2.2.1.2.2.2.1, x.2.2.1.2.2.1, x.2.2.1.2.1] else if x.1.1 = 9 then [x.2.2.1.2.2.1] else if x.1.1 = 10 then x.2.2.2.reverse else []
def iopZ : ItZ → List Int
  | .inl x => opsZ x
  | .inr y => if y.2.2.2.2 < 0 then [] else [y.2.2.2.2]
def ipuZ (i : Nat) : ItZ → List Int
  | .inl x => if x.1.1 ≤ 10 then [(i : Int)] else []
  | .inr _ => []
def SkP : List ItZ → List Int → Prop
  | [], S => S = []
  | x :: l, S => ∃ T, S = ipuZ (xcZ l) x ++ T ∧ SkP l (iopZ x ++ T)
def SkM (z : ZS) (S : List Int) : Prop := SkP z.2.1 S
theorem SkM.pu {z : ZS} {S : List Int} {x : XrZ} (h : SkM z (opsZ x ++ S)) (hk : x.1.1 ≤ 10) : SkM (puM x z) ((xnM z : Int) :: S) := ⟨S, by show _ = (if x.1.1 ≤ 10 then _ else _) ++ S; rw [if_pos hk]; rfl, h⟩
theorem SkM.mk {z : ZS} {S : List Int} {x : XrZ} (h : SkM z S) (hk : 11 ≤ x.1.1 ∧ x.1.1 ≤ 14) : SkM (puM x z) S := by
  refine ⟨S, ?_, ?_⟩
  · show _ = (if x.1.1 ≤ 10 then _ else _) ++ S
    rw [if_neg (by omega)]
    rfl
  · show SkP z.2.1 (opsZ x ++ S)
    unfold opsZ
    rw [if_neg (by omega), if_neg (by omega), if_neg (by omega), if_neg (by omega), if_neg (by omega)]
    exact h
/-- the latest one -/
def laZ (z : ZS) : Int := (xnM z : Int) - 1
theorem la_pu {x : XrZ} {z : ZS} : laZ (puM x z) = (xnM z : Int) := by
  show ((xnM z + 1 : Nat) : Int) - 1 = _
  omega
theorem SkM.leaf {z : ZS} {S : List Int} {x : XrZ} (h : SkM z S) (hk : x.1.1 ≤ 2 ∨ x.1.1 = 6) : SkM (puM x z) (laZ (puM x z) :: S) := by
  rw [la_pu]
  refine SkM.pu ?_ (by omega)
  unfold opsZ
  by_cases h0 : x.1.1 = 3 ∨ x.1.1 = 4 ∨ x.1.1 = 5 ∨ x.1.1 = 15
  · omega
  · rw [if_neg h0, if_neg (by omega), if_neg (by omega), if_neg (by omega), if_neg (by omega)]
    exact h
theorem SkM.one {z : ZS} {S : List Int} {x : XrZ} (h : SkM z (laZ z :: S)) (hk : x.1.1 = 3 ∨ x.1.1 = 4 ∨ x.1.1 = 5) (ha : x.2.2.1.2.1 = laZ z) : SkM (puM x z) (laZ (puM x z) :: S) := by
  rw [la_pu]
  refine SkM.pu ?_ (by omega)
  unfold opsZ
  rw [if_pos (by omega), ha]
  exact h
theorem SkM.z {z z' : ZS} {S : List Int} (h : SkM z S) (e : z'.2.1 = z.2.1) : SkM z' S := by unfold SkM; rw [e]; exact h
theorem la_z {z z' : ZS} (e : z'.2.1 = z.2.1) : laZ z' = laZ z := by unfold laZ xnM; rw [e]
abbrev EsM (f : ZS → ZS) : Prop := ∀ z S, SkM z S → zFt (f z).1 = 0 → SkM (f z) (laZ (f z) :: S)
def wsZ (W : WtZ) : List Int := W.map (fun w => w.2.2.2.1)
theorem sk_cl {p : Int} {S : List Int} : ∀ (W : WtZ) (z : ZS), SkM z (laZ z :: (wsZ W ++ S)) → SkM (clM p W z) (laZ (clM p W z) :: (wsZ (cswZ p W) ++ S)) := by
  intro W
  induction W with
  | nil => intro z h; exact h
  | cons w W ih =>
    intro z h
    obtain ⟨sg, f, st, a, mk⟩ := w
    rw [clM, cswZ]
    split
    · refine ih _ ?_
      rw [la_pu]
      exact SkM.pu (x := chnZ sg f st a mk (xnM z) z.1) h (show (7 : Int) ≤ 10 by decide)
    · exact h
theorem csw_0 : ∀ W : WtZ, cswZ 0 W = [] := by
  intro W
  induction W with
  | nil => rfl
  | cons w W ih =>
    obtain ⟨sg, f, st, a, mk⟩ := w
    rw [cswZ, if_pos str_0]
    exact ih
theorem sk_cl0 {S : List Int} {W : WtZ} {z : ZS} (h : SkM z (laZ z :: (wsZ W ++ S))) : SkM (clM 0 W z) (laZ (clM 0 W z) :: S) := by
  have := sk_cl (p := 0) W z h
  rw [csw_0] at this
  exact this
theorem sk_fk {z : ZS} {S : List Int} (h : SkM z S) : SkM (fkM z) S := by
  unfold fkM
  split
  · exact h.mk (x := frkZ (xnM z) z.1) (show (11 : Int) ≤ 11 ∧ (11 : Int) ≤ 14 by decide)
  · exact h
theorem sk_chl {O : ZS → ZS} {o : SpC → SpC} (hL : LfM O o) (hG : GdY o) (hO : EsM O) {S : List Int} : ∀ (f : Nat) (W : WtZ) (r : Int × Int) (z : ZS), SkM z (laZ z :: (wsZ W ++ S)) → zFt (chlM O f W r z).1 = 0 → SkM (chlM O f W r z) (laZ (chlM O f W r z) :: S) := by
  intro f
  induction f with
  | zero => intro W r z h _; exact sk_cl0 h
  | succ f ih =>
    intro W r z h hz
    rw [chlM] at hz ⊢
    by_cases hc : 20 ≤ codY z.1 ∧ codY z.1 ≤ 38
    · rw [if_pos hc] at hz ⊢
      refine ih _ _ _ ?_ hz
      rw [lf_chl hL] at hz
      have hz1 := GpY.z (gd_chl hG f _) hz
      have h1 := sk_cl (p := strZ (codY z.1)) W z h
      have h2 := sk_fk h1
      exact hO _ _ (h2.z (z' := accM (fkM (clM (strZ (codY z.1)) W z))) rfl) hz1
    · rw [if_neg hc]
      exact sk_cl0 h
theorem sk_ch2 {E C : ZS → ZS} {e c : SpC → SpC} (lE : LfM E e) (lC : LfM C c) (gC : GdY c) (hE : EsM E) (hC : EsM C) {r : Int × Int} {z : ZS} {S : List Int} (h : SkM z (laZ z :: S)) (hz : zFt (ch2M E C r z).1 = 0) : SkM (ch2M E C r z) (laZ (ch2M E C r z) :: S) := by
  unfold ch2M at hz ⊢
  by_cases hc : codY z.1 = 7
  · rw [if_pos hc] at hz ⊢
    have hz1 : zFt (C (xpM 6 (puM (elsZ (xnM z) (xnM (E (accM (puM (thnZ (xnM z) z.1) z)))) (E (accM (puM (thnZ (xnM z) z.1) z))).1) (E (accM (puM (thnZ (xnM z) z.1) z)))))).1 = 0 := hz
    have hz2 := hz1
    rw [lC] at hz2
    have hz3 := GpY.z (gC _) hz2
    have hz4 := GpY.z (gd_xp (c := 6) _) hz3
    have h1 : SkM (accM (puM (thnZ (xnM z) z.1) z)) (laZ z :: S) := (h.mk (x := thnZ (xnM z) z.1) (show (11 : Int) ≤ 12 ∧ (12 : Int) ≤ 14 by decide)).z rfl
    have h2 := hE _ _ h1 hz4
    have h3 := h2.mk (x := elsZ (xnM z) (xnM (E (accM (puM (thnZ (xnM z) z.1) z)))) (E (accM (puM (thnZ (xnM z) z.1) z))).1) (show (11 : Int) ≤ 13 ∧ (13 : Int) ≤ 14 by decide)
    have h4 := hC _ _ (h3.z (z' := xpM 6 _) rfl) hz1
    unfold ch3M cheM
    rw [la_pu]
    exact SkM.pu (x := chrZ r.1 r.2 _ _ _ _ _) h4 (show (8 : Int) ≤ 10 by decide)
  · rw [if_neg hc]
    exact h
theorem sk_chc {O E C : ZS → ZS} {o e c : SpC → SpC} (lO : LfM O o) (lE : LfM E e) (lC : LfM C c) (gO : GdY o) (gE : GdY e) (gC : GdY c) (hO : EsM O) (hE : EsM E) (hC : EsM C) : EsM (chcM O E C) := by
  intro z S h hz
  have hz1 := hz
  rw [lf_chc lO lE lC] at hz1
  unfold chcY chnY at hz1
  have hz2 : zFt (chlY o 501 (o z.1)) = 0 := by
    refine GpY.z (t := ch2Y e c (chlY o 501 (o z.1))) ?_ hz1
    unfold ch2Y
    split
    · exact (gd_acc _).tr ((gE _).tr ((gd_xp _).tr (gC _)))
    · exact GpY.rf
  have hz3 := GpY.z (gd_chl gO 501 _) hz2
  rw [← lO] at hz3
  have h1 := hO z S h hz3
  have h2 := sk_chl lO gO hO (S := S) 501 [] (rbM z) (O z) h1 (by rw [lf_chl lO, lO]; exact hz2)
  exact sk_ch2 lE lC gC hE hC h2 hz
theorem sk_xps {N : Int → Int} {O E C : ZS → ZS} {o e c : SpC → SpC} (lO : LfM O o) (lE : LfM E e) (lC : LfM C c) (gO : GdY o) (gE : GdY e) (gC : GdY c) (hO : EsM O) (hE : EsM E) (hC : EsM C) : EsM (xpsM N O E C) := by
  intro z S h hz
  unfold xpsM at hz ⊢
  split at hz
  · next h80 =>
    rw [if_pos h80]
    split at hz
    · next ha =>
      rw [if_pos ha]
      have h1 : SkM (accM (accM (tkM N z))) S := by
        refine SkM.z (z := tkM N z) ?_ rfl
        unfold tkM
        split
        · exact h
        · exact h.mk (x := takZ _ (xnM z) z.1) (show (11 : Int) ≤ 14 ∧ (14 : Int) ≤ 14 by decide)
      have h2 := hE _ _ h1 hz
      unfold asgM aseM
      rw [la_pu]
      exact SkM.pu (x := asrZ _ _ _ _ _ _ _) h2 (show (9 : Int) ≤ 10 by decide)
    · next ha =>
      rw [if_neg ha]
      exact sk_chc lO lE lC gO gE gC hO hE hC z S h hz
  · next h80 =>
    rw [if_neg h80]
    exact sk_chc lO lE lC gO gE gC hO hE hC z S h hz
theorem sk_cle {r : Int × Int} {l : List Int} {z : ZS} {S : List Int} (h : SkM z (l.reverse ++ S)) : SkM (cleM r l z) (laZ (cleM r l z) :: S) := by
  have e : laZ (cleM r l z) = (xnM z : Int) := (la_z (z := puM (calZ r.1 r.2 l z.1) z) rfl).trans la_pu
  rw [e]
  exact (SkM.pu (x := calZ r.1 r.2 l z.1) h (show (10 : Int) ≤ 10 by decide)).z rfl
theorem sk_clp {E : ZS → ZS} {e : SpC → SpC} (lE : LfM E e) (gE : GdY e) (hE : EsM E) {r : Int × Int} {S : List Int} : ∀ (f : Nat) (l : List Int) (z : ZS), SkM z (l.reverse ++ S) → zFt (clpM E r f l z).1 = 0 → SkM (clpM E r f l z) (laZ (clpM E r f l z) :: S) := by
  intro f
  induction f with
  | zero => intro l z h _; exact sk_cle h
  | succ f ih =>
    intro l z h hz
    rw [clpM] at hz ⊢
    by_cases hc : codY z.1 = 5
    · rw [if_pos hc] at hz ⊢
      have hz1 := hz
      dsimp only at hz1
      rw [lf_clp lE] at hz1
      have hz2 := GpY.z (gd_clp gE f _) (GpY.z (gd_xp (c := 1) _) hz1)
      have h1 := hE (accM z) _ (h.z (z' := accM z) rfl) hz2
      refine ih _ _ ?_ hz
      rw [List.reverse_append]
      exact h1
    · rw [if_neg hc]
      exact sk_cle h
theorem sk_opr {N : Int → Int} {m : Nat} {E : ZS → ZS} {I : Int → ZS → ZS} {e : SpC → SpC} (lE : LfM E e) (gE : GdY e) (hE : EsM E) (hI : ∀ g, EsM (I g)) (g : Int) : EsM (oprM N m E I g) := by
  intro z S h hz
  unfold oprM at hz ⊢
  split at hz
  · next h1 =>
    rw [if_pos h1]
    exact (hI _ (accM z) S (h.z rfl) hz).one (x := alnZ _ _ _ _ _) (Or.inr (Or.inl rfl)) rfl
  next h1 =>
  rw [if_neg h1]
  split at hz
  · next h2 =>
    rw [if_pos h2]
    exact (h.leaf (x := preZ _ (xnM z) z.1) (Or.inr rfl)).z rfl
  next h2 =>
  rw [if_neg h2]
  split at hz
  · next h3 =>
    rw [if_pos h3]
    unfold op2M at hz ⊢
    split at hz
    · next h4 =>
      rw [if_pos h4]
      exact (hI 0 (xpM 1 (typM (accM z))) S (h.z rfl) hz).one (x := casZ _ _ _ _ _) (Or.inr (Or.inr rfl)) rfl
    · next h4 =>
      rw [if_neg h4]
      have hz1 : zFt (E (accM z)).1 = 0 := GpY.z (gd_xp (c := 1) _) hz
      exact ((hE (accM z) S (h.z rfl) hz1).one (x := parZ _ _ _ _) (Or.inl rfl) rfl).z rfl
  next h3 =>
  rw [if_neg h3]
  split at hz
  · next h4 =>
    rw [if_pos h4]
    unfold nmeM at hz ⊢
    split at hz
    · next h5 =>
      rw [if_pos h5]
      unfold ca2M at hz ⊢
      split at hz
      · have := GpY.z (gd_xp (c := 1) _) hz
        exact absurd this (raiY_z (by decide))
      next h6 =>
      rw [if_neg h6]
      split at hz
      · next h7 =>
        rw [if_pos h7]
        exact sk_cle (l := []) (h.z rfl)
      · next h7 =>
        rw [if_neg h7]
        have hz1 := hz
        dsimp only at hz1
        rw [lf_clp lE] at hz1
        have hz2 := GpY.z (gd_clp gE 501 _) (GpY.z (gd_xp (c := 1) _) hz1)
        have h8 := hE (accM (accM z)) S (h.z rfl) hz2
        exact sk_clp lE gE hE 501 _ _ h8 hz
    next h5 =>
    rw [if_neg h5]
    split at hz
    · next h6 =>
      rw [if_pos h6]
      exact (h.leaf (x := posZ _ (xnM z) z.1) (Or.inr rfl)).z rfl
    · next h6 =>
      rw [if_neg h6]
      exact (h.leaf (x := namZ _ (xnM z) z.1) (Or.inl (show (2 : Int) ≤ 2 by decide))).z rfl
  next h4 =>
  rw [if_neg h4]
  split at hz
  · next h5 =>
    rw [if_pos h5]
    refine (h.leaf (x := litZ g (xnM z) z.1) (Or.inl ?_)).z rfl
    show (if codY z.1 = 81 ∨ codY z.1 = 82 then (0 : Int) else 1) ≤ 2
    split <;> decide
  · exact absurd hz (raiY_z (by decide))
theorem sk_lv {N : Int → Int} : ∀ n, EsM (eM N n) ∧ EsM (cM N n) ∧ ∀ g, EsM (oM N n g) := by
  intro n
  induction n with
  | zero => exact ⟨fun z S _ hz => absurd hz (raiY_z (by decide)), fun z S _ hz => absurd hz (raiY_z (by decide)), fun g z S _ hz => absurd hz (raiY_z (by decide))⟩
  | succ n ih =>
    have lo : LfM (oprM N n (eM N n) (oM N n) 0) (oprY n (eY n) (oY n)) := lf_opr lf_e (fun _ => lf_o) 0
    have ho : ∀ g, EsM (oprM N n (eM N n) (oM N n) g) := fun g => sk_opr lf_e gd_e ih.1 ih.2.2 g
    have go : GdY (oprY n (eY n) (oY n)) := gd_opr gd_e gd_o
    exact ⟨sk_xps lo lf_e lf_c go gd_e gd_c (ho 0) ih.1 ih.2.1, sk_chc lo lf_e lf_c go gd_e gd_c (ho 0) ih.1 ih.2.1, ho⟩
theorem sk_e {N : Int → Int} {n : Nat} : EsM (eM N n) := (sk_lv n).1

/-! what is still to be laid of an exp, by what stands open -/
/-- sort (0 sign ahead, 1 cast, 2 operator, 3 group, 4 call, 5 assignment, 6 ?, 7 :), sign or type, first token, start, what else -/
abbrev OpZ : Type := Int × Int × Int × Int × List Int
abbrev KtM : Type := (WtZ → Nat → Int × Int → ZS → ZS) × (Nat → ZS → ZS) × (Nat → ZS → ZS)
def tlM (N : Int → Int) (n : Nat) (W : WtZ) (r : Int × Int) (z : ZS) : ZS := tl2M (opM N n 0) (eM N (n - 1)) (cM N (n - 1)) W r z
def rO (o : OpZ) : Int × Int := (o.2.2.1, o.2.2.2.1)
def keM (N : Int → Int) (q : KtM) (o : OpZ) (n : Nat) (z : ZS) : ZS :=
  if o.1 = 5 then q.2.2 (n + 1) (aseM (o.2.2.2.2.getD 1 (-1)) o.2.1 (rO o) (o.2.2.2.2.headD (-1)) z)
  else if o.1 = 6 then q.2.1 (n + 1) (ch3M (cM N n) (rO o) (o.2.2.2.2.headD (-1)) (o.2.2.2.2.getD 1 (-1)) z)
  else if o.1 = 3 then q.1 [] (n + 1) (rO o) (paeM (rO o) z)
  else q.1 [] (n + 1) (rO o) (clpM (eM N n) (rO o) 501 (o.2.2.2.2 ++ [(xnM z : Int) - 1]) z)
def kcM (N : Int → Int) (q : KtM) (o : OpZ) (n : Nat) (z : ZS) : ZS :=
  if o.1 = 7 then q.2.1 (n + 1) (cheM (rO o) (o.2.2.2.2.headD (-1)) (o.2.2.2.2.getD 1 (-1)) (o.2.2.2.2.getD 2 (-1)) z)
  else keM N q o n z
def kfM (N : Int → Int) (q : KtM) (o : OpZ) (W : WtZ) (n : Nat) (r : Int × Int) (z : ZS) : ZS :=
  if o.1 = 0 then q.1 [] (n + 1) (rO o) (aleM o.2.1 (rO o) z)
  else if o.1 = 1 then q.1 [] (n + 1) (rO o) (caeM o.2.1 (rO o) z)
  else if o.1 = 2 then q.1 (W ++ [(o.2.1, o.2.2.1, o.2.2.2.1, o.2.2.2.2.headD (-1), o.2.2.2.2.getD 1 (-1))]) n r z
  else kcM N q o n (tlM N n W r z)
def kM (N : Int → Int) : List OpZ → KtM
  | [] => (fun W n r z => tlM N n W r z, fun _ z => z, fun _ z => z)
  | o :: O => (kfM N (kM N O) o, kcM N (kM N O) o, keM N (kM N O) o)
/-- behind an operand, a choice, an exp; an operand to come, an exp -/
def foM (N : Int → Int) (O : List OpZ) (W : WtZ) (n : Nat) (r : Int × Int) (z : ZS) : ZS := (kM N O).1 W n r z
def cfM (N : Int → Int) (O : List OpZ) (n : Nat) (z : ZS) : ZS := (kM N O).2.1 n z
def efM (N : Int → Int) (O : List OpZ) (n : Nat) (z : ZS) : ZS := (kM N O).2.2 n z
def owM (N : Int → Int) (g : Int) (O : List OpZ) (n : Nat) (z : ZS) : ZS := foM N O [] n (rbM z) (opM N n g z)
def ewM (N : Int → Int) (O : List OpZ) (n : Nat) (z : ZS) : ZS := efM N O n (eM N n z)
/-- the sorts alone -/
def osZ (O : List OpZ) : List Int := O.map (·.1)
def tpZ (O : List OpZ) : Int := tpY (osZ O)
theorem str_0 {c : Int} : 0 ≤ strZ c := by unfold strZ; repeat' split <;> first | omega | decide
theorem fo_pM {N : Int → Int} {O : List OpZ} {x t st : Int} {l : List Int} {n : Nat} {r : Int × Int} {z : ZS} : foM N ((0, x, t, st, l) :: O) [] n r z = foM N O [] (n + 1) (t, st) (aleM x (t, st) z) := rfl
theorem fo_tM {N : Int → Int} {O : List OpZ} {x t st : Int} {l : List Int} {n : Nat} {r : Int × Int} {z : ZS} : foM N ((1, x, t, st, l) :: O) [] n r z = foM N O [] (n + 1) (t, st) (caeM x (t, st) z) := rfl
theorem fo_bM {N : Int → Int} {O : List OpZ} {W : WtZ} {x t st a mk : Int} {n : Nat} {r : Int × Int} {z : ZS} : foM N ((2, x, t, st, [a, mk]) :: O) W n r z = foM N O (W ++ [(x, t, st, a, mk)]) n r z := rfl
theorem fo_nM {N : Int → Int} {O : List OpZ} {W : WtZ} {n : Nat} {r : Int × Int} {z : ZS} (h : ¬ tpZ O = 0 ∧ ¬ tpZ O = 1 ∧ ¬ tpZ O = 2) : foM N O W n r z = cfM N O n (tlM N n W r z) := by
  cases O with
  | nil => rfl
  | cons o O =>
    have h : ¬ o.1 = 0 ∧ ¬ o.1 = 1 ∧ ¬ o.1 = 2 := h
    show kfM N (kM N O) o W n r z = _
    unfold kfM
    rw [if_neg h.1, if_neg h.2.1, if_neg h.2.2]
    rfl
theorem cf_eM {N : Int → Int} {O : List OpZ} {n : Nat} {z : ZS} (h : ¬ tpZ O = 7) : cfM N O n z = efM N O n z := by
  cases O with
  | nil => rfl
  | cons o O =>
    have h : ¬ o.1 = 7 := h
    show kcM N (kM N O) o n z = _
    unfold kcM
    rw [if_neg h]
    rfl
/-- chains: closing the one on top -/
theorem chl_cls {O : ZS → ZS} {x t st a mk : Int} {W : WtZ} {r : Int × Int} {z : ZS} (h : (20 ≤ codY z.1 ∧ codY z.1 ≤ 38) → strZ (codY z.1) ≤ strZ x) : ∀ f, chlM O f ((x, t, st, a, mk) :: W) r z = chlM O f W (t, st) (puM (chnZ x t st a mk (xnM z) z.1) z) := by
  intro f
  cases f with
  | zero =>
    show clM 0 _ z = clM 0 W _
    rw [clM, if_pos str_0]
  | succ f =>
    rw [chlM, chlM]
    by_cases hc : 20 ≤ codY z.1 ∧ codY z.1 ≤ 38
    · have h := h hc
      rw [if_pos hc, if_pos (show 20 ≤ codY (puM (chnZ x t st a mk (xnM z) z.1) z).1 ∧ codY (puM (chnZ x t st a mk (xnM z) z.1) z).1 ≤ 38 from hc), clM, if_pos h, csrZ, if_pos h, cswZ, if_pos h]
      rfl
    · rw [if_neg hc, if_neg (show ¬ (20 ≤ codY (puM (chnZ x t st a mk (xnM z) z.1) z).1 ∧ codY (puM (chnZ x t st a mk (xnM z) z.1) z).1 ≤ 38) from hc), clM, if_pos str_0]
theorem csr_c {x t st a mk : Int} {W : WtZ} {r : Int × Int} : csrZ 0 ((x, t, st, a, mk) :: W) r = csrZ 0 W (t, st) := by rw [csrZ, if_pos str_0]
theorem tl_cls {N : Int → Int} {x t st a mk : Int} {W : WtZ} {n : Nat} {r : Int × Int} {z : ZS} (h : (20 ≤ codY z.1 ∧ codY z.1 ≤ 38) → strZ (codY z.1) ≤ strZ x) : tlM N n ((x, t, st, a, mk) :: W) r z = tlM N n W (t, st) (puM (chnZ x t st a mk (xnM z) z.1) z) := by
  unfold tlM tl2M
  rw [chl_cls h, csr_c]
theorem fo_cls {N : Int → Int} {x t st a mk : Int} : ∀ {O : List OpZ} {W : WtZ} {n : Nat} {r : Int × Int} {z : ZS}, wfY (2 :: osZ O) → ((20 ≤ codY z.1 ∧ codY z.1 ≤ 38) → strZ (codY z.1) ≤ strZ x) → foM N O ((x, t, st, a, mk) :: W) n r z = foM N O W n (t, st) (puM (chnZ x t st a mk (xnM z) z.1) z) := by
  intro O
  induction O with
  | nil => intro W n r z _ h; exact tl_cls h
  | cons o O ih =>
    intro W n r z hw h
    have h0 : ¬ o.1 = 0 ∧ ¬ o.1 = 1 := hw.2.1 rfl
    by_cases h2 : o.1 = 2
    · obtain ⟨k, x2, t2, st2, l2⟩ := o
      have h2 : k = 2 := h2
      subst h2
      show foM N O (((x, t, st, a, mk) :: W) ++ _) n r z = foM N O _ n (t, st) _
      rw [List.cons_append]
      exact ih hw.2.2.2.2 h
    · rw [fo_nM (O := o :: O) ⟨h0.1, h0.2, h2⟩, fo_nM (O := o :: O) ⟨h0.1, h0.2, h2⟩, tl_cls h]
theorem bin_cls {N : Int → Int} {x t st a mk : Int} {O : List OpZ} {n : Nat} {r : Int × Int} {z : ZS} (hw : wfY (2 :: osZ O)) (h : (20 ≤ codY z.1 ∧ codY z.1 ≤ 38) → strZ (codY z.1) ≤ strZ x) : foM N ((2, x, t, st, [a, mk]) :: O) [] n r z = foM N O [] n (t, st) (puM (chnZ x t st a mk (xnM z) z.1) z) := by
  rw [fo_bM]
  exact fo_cls hw h
/-- fuel of a chain's loop -/
theorem chlM_f {O : ZS → ZS} {f : Nat} {W : WtZ} {r : Int × Int} {z : ZS} (q : ¬ zFt z.1 = 0) : chlM O f W r z = clM 0 W z := by
  cases f with
  | zero => rfl
  | succ f => rw [chlM, codY_f q, if_neg (by decide)]
theorem chlM_no {O : ZS → ZS} {f : Nat} {W : WtZ} {r : Int × Int} {z : ZS} (h : ¬ (20 ≤ codY z.1 ∧ codY z.1 ≤ 38)) : chlM O f W r z = clM 0 W z := by
  cases f with
  | zero => rfl
  | succ f => rw [chlM, if_neg h]
theorem acf {p : Int} {W : WtZ} {z : ZS} : (accM (fkM (clM p W z))).1 = accY z.1 := by
  show accY (fkM (clM p W z)).1 = _
  rw [lf_fk, lf_cl]
theorem chlM_fu {O : ZS → ZS} {o : SpC → SpC} (hL : LfM O o) (hO : GdY o) : ∀ (f : Nat) (W : WtZ) (r : Int × Int) (z : ZS), zAt z.1 ≤ 500 → 501 - zAt z.1 ≤ f → chlM O f W r z = chlM O (f + 1) W r z := by
  intro f
  induction f with
  | zero => intro W r z h1 h2; omega
  | succ f ih =>
    intro W r z h1 h2
    rw [chlM, chlM]
    split
    · have e := hL (accM (fkM (clM (strZ (codY z.1)) W z)))
      rw [acf] at e
      by_cases q : zFt (accY z.1) = 0
      · have a := acc_pg q
        have b := (hO (accY z.1)).2 (by omega)
        exact ih _ _ _ (by rw [e]; exact b.2) (by rw [e]; omega)
      · have b := (hO (accY z.1)).ft q
        rw [chlM_f (by rw [e]; exact b), chlM_f (by rw [e]; exact b)]
    · rfl
/-- an operator, stronger than those that wait -/
def wkZ (c : Int) : WtZ → Prop
  | [] => True
  | w :: _ => strZ w.1 < strZ c
theorem wk_cls {c : Int} {W : WtZ} {r : Int × Int} {z : ZS} (h : wkZ c W) : clM (strZ c) W z = z ∧ cswZ (strZ c) W = W ∧ csrZ (strZ c) W r = r := by
  cases W with
  | nil => exact ⟨rfl, rfl, rfl⟩
  | cons w W =>
    obtain ⟨sg, f, st, a, mk⟩ := w
    have h : strZ sg < strZ c := h
    rw [clM, cswZ, csrZ, if_neg (by omega), if_neg (by omega), if_neg (by omega)]
    exact ⟨rfl, rfl, rfl⟩
theorem chl_op {O : ZS → ZS} {o : SpC → SpC} (hL : LfM O o) (hO : GdY o) {W : WtZ} {r : Int × Int} {z : ZS} (h0 : 0 ≤ zAt z.1) (h5 : zAt z.1 ≤ 500) (hc : 20 ≤ codY z.1 ∧ codY z.1 ≤ 38) (hw : wkZ (codY z.1) W) : chlM O 501 W r z = chlM O 501 (wnZ r z :: W) (zAt z.1 + 1, (xnM (fkM z) : Int)) (O (accM (fkM z))) := by
  obtain ⟨e1, e2, e3⟩ := wk_cls (r := r) (z := z) hw
  have e := hL (accM (fkM z))
  rw [show (accM (fkM z)).1 = accY z.1 by show accY (fkM z).1 = _; rw [lf_fk]] at e
  rw [chlM, if_pos hc, e1, e2, e3]
  by_cases q : zFt (accY z.1) = 0
  · have a := acc_pg q
    have b := (hO (accY z.1)).2 (by omega)
    exact chlM_fu hL hO 500 _ _ _ (by rw [e]; exact b.2) (by rw [e]; omega)
  · have b := (hO (accY z.1)).ft q
    rw [chlM_f (by rw [e]; exact b), chlM_f (by rw [e]; exact b)]
theorem csr_p {w : Int × Int × Int × Int × Int} {W : WtZ} {r : Int × Int} : csrZ 0 (w :: W) r = csrZ 0 W (w.2.1, w.2.2.1) := by
  obtain ⟨x, t, st, a, mk⟩ := w
  exact csr_c
theorem tl_op {N : Int → Int} {n : Nat} {W : WtZ} {r : Int × Int} {z : ZS} (h0 : 0 ≤ zAt z.1) (h5 : zAt z.1 ≤ 500) (hc : 20 ≤ codY z.1 ∧ codY z.1 ≤ 38) (hw : wkZ (codY z.1) W) : tlM N n W r z = tlM N n (wnZ r z :: W) (zAt z.1 + 1, (xnM (fkM z) : Int)) (opM N n 0 (accM (fkM z))) := by
  unfold tlM tl2M
  rw [chl_op lf_op gd_op h0 h5 hc hw, csr_p]
  rfl
theorem fo_op2 {N : Int → Int} : ∀ {O : List OpZ} {W : WtZ} {n : Nat} {r : Int × Int} {z : ZS}, wfY (2 :: osZ O) → 0 ≤ zAt z.1 → zAt z.1 ≤ 500 → (20 ≤ codY z.1 ∧ codY z.1 ≤ 38) → (W ≠ [] ∨ ¬ tpZ O = 2) → wkZ (codY z.1) W → foM N O W n r z = foM N O (wnZ r z :: W) n (zAt z.1 + 1, (xnM (fkM z) : Int)) (opM N n 0 (accM (fkM z))) := by
  intro O
  induction O with
  | nil => intro W n r z _ h0 h5 hc _ hk; exact tl_op h0 h5 hc hk
  | cons o O ih =>
    intro W n r z hw h0 h5 hc hn hk
    have hp : ¬ o.1 = 0 ∧ ¬ o.1 = 1 := hw.2.1 rfl
    by_cases h2 : o.1 = 2
    · obtain ⟨k, x2, t2, st2, l2⟩ := o
      have h2 : k = 2 := h2
      subst h2
      have hn : W ≠ [] := hn.resolve_right (fun q => q rfl)
      show foM N O (W ++ _) n r z = foM N O ((wnZ r z :: W) ++ _) n _ _
      rw [List.cons_append]
      refine ih hw.2.2.2.2 h0 h5 hc (Or.inl (by intro q; exact hn (List.append_eq_nil_iff.mp q).1)) ?_
      cases W with
      | nil => exact absurd rfl hn
      | cons w W => exact hk
    · rw [fo_nM (O := o :: O) ⟨hp.1, hp.2, h2⟩, fo_nM (O := o :: O) ⟨hp.1, hp.2, h2⟩, tl_op h0 h5 hc hk]
/-- an operator comes, stronger than what waits on top -/
def wtkZ (c : Int) (O : List OpZ) : Prop := match O with
  | [] => True
  | o :: _ => o.1 = 2 → strZ o.2.1 < strZ c
theorem fo_opM {N : Int → Int} {O : List OpZ} {n : Nat} {r : Int × Int} {z : ZS} (hw : wfY (2 :: osZ O)) (h0 : 0 ≤ zAt z.1) (h5 : zAt z.1 ≤ 500) (hc : 20 ≤ codY z.1 ∧ codY z.1 ≤ 38) (hk : wtkZ (codY z.1) O) (hf : zFt (accY z.1) = 0) : foM N O [] n r z = owM N 0 ((2, codY z.1, r.1, r.2, [(xnM z : Int) - 1, mkZ (xnM z) z.1]) :: O) n (accM (fkM z)) := by
  have e : rbM (accM (fkM z)) = (zAt z.1 + 1, (xnM (fkM z) : Int)) := by
    show (zAt (accY (fkM z).1), _) = _
    rw [lf_fk, (acc_pg hf).2.1]
    rfl
  unfold owM
  rw [fo_bM, e, List.nil_append]
  cases O with
  | nil => exact fo_op2 hw h0 h5 hc (Or.inr (by decide)) trivial
  | cons o O =>
    by_cases h2 : o.1 = 2
    · obtain ⟨k, x2, t2, st2, l2⟩ := o
      have h2 : k = 2 := h2
      subst h2
      have hk : strZ x2 < strZ (codY z.1) := hk rfl
      show foM N O ([] ++ _) n r z = foM N O (_ ++ _) n _ _
      rw [List.nil_append, List.cons_append, List.nil_append]
      exact fo_op2 hw.2.2.2.2 h0 h5 hc (Or.inl (by intro q; cases q)) hk
    · exact fo_op2 hw h0 h5 hc (Or.inr h2) trivial
/-- no operator comes -/
theorem tl_nM {N : Int → Int} {n : Nat} {r : Int × Int} {z : ZS} (h1 : ¬ (20 ≤ codY z.1 ∧ codY z.1 ≤ 38)) (h2 : ¬ codY z.1 = 7) : tlM N n [] r z = z := by
  unfold tlM tl2M ch2M
  rw [chlM_no h1]
  exact if_neg h2
theorem fo_endM {N : Int → Int} {O : List OpZ} {n : Nat} {r : Int × Int} {z : ZS} (ht : ¬ tpZ O = 0 ∧ ¬ tpZ O = 1 ∧ ¬ tpZ O = 2) (h1 : ¬ (20 ≤ codY z.1 ∧ codY z.1 ≤ 38)) (h2 : ¬ codY z.1 = 7) : foM N O [] n r z = cfM N O n z := by
  rw [fo_nM ht, tl_nM h1 h2]
theorem fo_queM {N : Int → Int} {O : List OpZ} {n : Nat} {r : Int × Int} {z : ZS} (ht : ¬ tpZ O = 0 ∧ ¬ tpZ O = 1 ∧ ¬ tpZ O = 2) (h : codY z.1 = 7) : foM N O [] (n + 1) r z = ewM N ((6, 7, r.1, r.2, [(xnM z : Int) - 1, (xnM z : Int)]) :: O) n (accM (puM (thnZ (xnM z) z.1) z)) := by
  have e1 : tlM N (n + 1) [] r z = ch3M (cM N n) r ((xnM z : Int) - 1) (xnM z) (eM N n (accM (puM (thnZ (xnM z) z.1) z))) := by
    unfold tlM tl2M
    rw [chlM_no (by omega)]
    exact if_pos h
  rw [fo_nM ht, e1]
  rfl
theorem ch_tlM {N : Int → Int} {n : Nat} {z : ZS} : chM N n z = tlM N n [] (rbM z) (opM N n 0 z) := rfl
theorem cf_colM {N : Int → Int} {O : List OpZ} {x t st a th : Int} {n : Nat} {z : ZS} (hn : 1 ≤ n) (h : codY z.1 = 6) : cfM N ((6, x, t, st, [a, th]) :: O) n z = owM N 0 ((7, 7, t, st, [a, (xnM z : Int) - 1, (xnM z : Int)]) :: O) n (accM (puM (elsZ th (xnM z) z.1) z)) := by
  have e1 : cfM N ((6, x, t, st, [a, th]) :: O) n z = cfM N O (n + 1) (ch3M (cM N n) (t, st) a th z) := rfl
  have e2 : xpM 6 (puM (elsZ th (xnM z) z.1) z) = accM (puM (elsZ th (xnM z) z.1) z) := by
    show (xpY 6 z.1, _) = (accY z.1, _)
    rw [xp_y h]
  rw [e1]
  unfold ch3M owM
  rw [e2, cM_s hn, ch_tlM, fo_nM (O := (7, 7, t, st, [a, (xnM z : Int) - 1, (xnM z : Int)]) :: O) (show ¬ (7 : Int) = 0 ∧ ¬ (7 : Int) = 1 ∧ ¬ (7 : Int) = 2 by decide)]
  rfl
theorem clpM_f {E : ZS → ZS} {r : Int × Int} {f : Nat} {l : List Int} {z : ZS} (q : ¬ zFt z.1 = 0) : clpM E r f l z = cleM r l z := by
  cases f with
  | zero => rfl
  | succ f => rw [clpM, codY_f q, if_neg (by decide)]
theorem clpM_no {E : ZS → ZS} {r : Int × Int} {f : Nat} {l : List Int} {z : ZS} (q : ¬ codY z.1 = 5) : clpM E r f l z = cleM r l z := by
  cases f with
  | zero => rfl
  | succ f => rw [clpM, if_neg q]
theorem clpM_fu {E : ZS → ZS} {e : SpC → SpC} {r : Int × Int} (hL : LfM E e) (hE : GdY e) : ∀ (f : Nat) (l : List Int) (z : ZS), zAt z.1 ≤ 500 → 501 - zAt z.1 ≤ f → clpM E r f l z = clpM E r (f + 1) l z := by
  intro f
  induction f with
  | zero => intro l z h1 h2; omega
  | succ f ih =>
    intro l z h1 h2
    rw [clpM, clpM]
    split
    · have e1 : (E (accM z)).1 = e (accY z.1) := hL (accM z)
      by_cases q : zFt (accY z.1) = 0
      · have a := acc_pg q
        have b := (hE (accY z.1)).2 (by omega)
        exact ih _ _ (by rw [e1]; exact b.2) (by rw [e1]; omega)
      · have b := (hE (accY z.1)).ft q
        show clpM E r f _ (E (accM z)) = clpM E r (f + 1) _ (E (accM z))
        rw [clpM_f (by rw [e1]; exact b), clpM_f (by rw [e1]; exact b)]
    · rfl
theorem clpM_one {E : ZS → ZS} {e : SpC → SpC} {r : Int × Int} (hL : LfM E e) (hE : GdY e) {l : List Int} {z : ZS} (h0 : 0 ≤ zAt z.1) (h : zAt z.1 ≤ 500) (hc : codY z.1 = 5) : clpM E r 501 l z = clpM E r 501 (l ++ [(xnM (E (accM z)) : Int) - 1]) (E (accM z)) := by
  have e1 : (E (accM z)).1 = e (accY z.1) := hL (accM z)
  rw [clpM, if_pos hc]
  show clpM E r 500 _ (E (accM z)) = _
  by_cases q : zFt (accY z.1) = 0
  · have a := acc_pg q
    have b := (hE (accY z.1)).2 (by omega)
    exact clpM_fu hL hE 500 _ _ (by rw [e1]; exact b.2) (by rw [e1]; omega)
  · have b := (hE (accY z.1)).ft q
    rw [clpM_f (by rw [e1]; exact b), clpM_f (by rw [e1]; exact b)]
theorem cf_comM {N : Int → Int} {O : List OpZ} {x t st : Int} {l : List Int} {n : Nat} {z : ZS} (h0 : 0 ≤ zAt z.1) (h5 : zAt z.1 ≤ 500) (h : codY z.1 = 5) : cfM N ((4, x, t, st, l) :: O) n z = ewM N ((4, x, t, st, l ++ [(xnM z : Int) - 1]) :: O) n (accM z) := by
  show foM N O [] (n + 1) (t, st) (clpM (eM N n) (t, st) 501 (l ++ [(xnM z : Int) - 1]) z) = foM N O [] (n + 1) (t, st) (clpM (eM N n) (t, st) 501 ((l ++ [(xnM z : Int) - 1]) ++ [(xnM (eM N n (accM z)) : Int) - 1]) (eM N n (accM z)))
  rw [clpM_one lf_e gd_e h0 h5 h]
theorem cle_y {r : Int × Int} {l : List Int} {z : ZS} (h : codY z.1 = 1) : cleM r l z = accM (puM (calZ r.1 r.2 l z.1) z) := by
  show (xpY 1 z.1, _) = (accY z.1, _)
  rw [xp_y h]
theorem cf_cloM {N : Int → Int} {O : List OpZ} {x t st : Int} {l : List Int} {n : Nat} {z : ZS} (h : codY z.1 = 1) : cfM N ((4, x, t, st, l) :: O) n z = foM N O [] (n + 1) (t, st) (accM (puM (calZ t st (l ++ [(xnM z : Int) - 1]) z.1) z)) := by
  show foM N O [] (n + 1) (t, st) (clpM (eM N n) (t, st) 501 (l ++ [(xnM z : Int) - 1]) z) = _
  rw [clpM_no (by omega), cle_y h]
theorem cf_grpM {N : Int → Int} {O : List OpZ} {x t st : Int} {l : List Int} {n : Nat} {z : ZS} (h : codY z.1 = 1) : cfM N ((3, x, t, st, l) :: O) n z = foM N O [] (n + 1) (t, st) (accM (puM (parZ t st (xnM z) z.1) z)) := by
  show foM N O [] (n + 1) (t, st) (xpY 1 z.1, _) = foM N O [] (n + 1) (t, st) (accY z.1, _)
  rw [xp_y h]
  rfl
theorem cf_setM {N : Int → Int} {O : List OpZ} {x t st mk v : Int} {n : Nat} {z : ZS} (hO : ¬ tpZ O = 7) : cfM N ((5, x, t, st, [mk, v]) :: O) n z = cfM N O (n + 1) (aseM v x (t, st) mk z) := by
  rw [cf_eM hO]
  rfl
theorem cf_choM {N : Int → Int} {O : List OpZ} {x t st a b mk : Int} {n : Nat} {z : ZS} : cfM N ((7, x, t, st, [a, b, mk]) :: O) n z = cfM N O (n + 1) (cheM (t, st) a b mk z) := rfl
/-- an exp begins that is no assignment; one that is -/
theorem ew_beg {N : Int → Int} {O : List OpZ} {n : Nat} {z : ZS} (hn : 1 ≤ n) (ht : ¬ tpZ O = 0 ∧ ¬ tpZ O = 1 ∧ ¬ tpZ O = 2 ∧ ¬ tpZ O = 7) (h : nasY z.1) : ewM N O n z = owM N 0 O n z := by
  have e1 : exM N n z = chM N n z := by
    unfold exM xpsM chM
    split
    · split
      · next a b => exact absurd ⟨a, b⟩ h
      · rfl
    · rfl
  unfold ewM owM
  rw [eM_s hn, e1, ch_tlM, fo_nM ⟨ht.1, ht.2.1, ht.2.2.1⟩, cf_eM ht.2.2.2]
theorem ew_asg {N : Int → Int} {O : List OpZ} {n : Nat} {z : ZS} (hc : codY z.1 = 80) (hb : 8 ≤ cobY z.1 ∧ cobY z.1 ≤ 19) : ewM N O (n + 1) z = ewM N ((5, cobY z.1, zAt z.1, (xnM z : Int), [tmM z, lkM N z (zAt z.1)]) :: O) n (accM (accM (tkM N z))) := by
  unfold ewM
  rw [eM_s (by omega)]
  unfold exM xpsM
  rw [if_pos hc, if_pos hb]
  rfl
/-- operands -/
theorem ow_lit {N : Int → Int} {g : Int} {O : List OpZ} {n : Nat} {z : ZS} (h : codY z.1 = 81 ∨ codY z.1 = 82 ∨ codY z.1 = 83 ∨ codY z.1 = 72 ∨ codY z.1 = 73) : owM N g O n z = foM N O [] n (rbM z) (accM (puM (litZ g (xnM z) z.1) z)) := by
  unfold owM opM oprM
  rw [if_neg (by omega), if_neg (by omega), if_neg (by omega), if_neg (by omega), if_pos h]
  rfl
theorem opM_nam {N : Int → Int} {g : Int} {n : Nat} {z : ZS} (h : codY z.1 = 80) : opM N n g z = nmeM N (n - 1) (eM N (n - 1)) z := by
  unfold opM oprM
  rw [if_neg (by omega), if_neg (by omega), if_neg (by omega), if_pos h]
theorem ow_var {N : Int → Int} {g : Int} {O : List OpZ} {n : Nat} {z : ZS} (hc : codY z.1 = 80) (h : ¬ cobY z.1 = 0 ∧ ¬ cobY z.1 = 41 ∧ ¬ cobY z.1 = 42) : owM N g O n z = foM N O [] n (rbM z) (accM (puM (namZ (lkM N z (zAt z.1)) (xnM z) z.1) z)) := by
  unfold owM
  rw [opM_nam hc]
  unfold nmeM
  rw [if_neg h.1, if_neg (by omega)]
  rfl
theorem ow_pos {N : Int → Int} {g : Int} {O : List OpZ} {n : Nat} {z : ZS} (hc : codY z.1 = 80) (h : cobY z.1 = 41 ∨ cobY z.1 = 42) : owM N g O n z = foM N O [] n (rbM z) (accM (accM (puM (posZ (lkM N z (zAt z.1)) (xnM z) z.1) z))) := by
  unfold owM
  rw [opM_nam hc]
  unfold nmeM
  rw [if_neg (by omega), if_pos h]
  rfl
theorem ow_pre {N : Int → Int} {g : Int} {O : List OpZ} {n : Nat} {z : ZS} (h : codY z.1 = 41 ∨ codY z.1 = 42) : owM N g O n z = foM N O [] n (rbM z) (xpM 80 (accM (puM (preZ (lkM N z (zAt z.1 + 1)) (xnM z) z.1) z))) := by
  unfold owM opM oprM
  rw [if_neg (by omega), if_pos h]
  rfl
theorem ow_cle {N : Int → Int} {g : Int} {O : List OpZ} {n : Nat} {z : ZS} (hc : codY z.1 = 80) (h : cobY z.1 = 0) (hn : 2 ≤ n) (h1 : codY (accY (accY z.1)) = 1) : owM N g O n z = foM N O [] n (rbM z) (accM (puM (calZ (zAt z.1) (xnM z : Int) [] (accY (accY z.1))) (accM (accM z)))) := by
  unfold owM
  rw [opM_nam hc]
  unfold nmeM ca2M
  rw [if_pos h, if_neg (by omega), if_pos (show codY (accM (accM z)).1 = 1 from h1), cle_y (show codY (accM (accM z)).1 = 1 from h1)]
  rfl
theorem ow_sgn {N : Int → Int} {g : Int} {O : List OpZ} {n : Nat} {z : ZS} (hn : 1 ≤ n) (h : codY z.1 = 34 ∨ codY z.1 = 35 ∨ codY z.1 = 39 ∨ codY z.1 = 40) : owM N g O (n + 1) z = owM N (ngZ (codY z.1)) ((0, codY z.1, zAt z.1, (xnM z : Int), []) :: O) n (accM z) := by
  have e : opM N (n + 1) g z = aleM (codY z.1) (rbM z) (opM N n (ngZ (codY z.1)) (accM z)) := by
    show oprM N n (eM N n) (oM N n) g z = _
    unfold oprM
    rw [if_pos h, oM_s hn]
  unfold owM
  rw [e, fo_pM]
  rfl
theorem ow_cas {N : Int → Int} {g : Int} {O : List OpZ} {n : Nat} {z : ZS} (hn : 1 ≤ n) (h : codY z.1 = 0) (ht : 50 ≤ codY (accY z.1) ∧ codY (accY z.1) ≤ 54) : owM N g O (n + 1) z = owM N 0 ((1, codY (accY z.1) - 50, zAt z.1, (xnM z : Int), []) :: O) n (xpM 1 (accM (accM z))) := by
  have e : opM N (n + 1) g z = caeM (codY (accY z.1) - 50) (rbM z) (opM N n 0 (xpM 1 (accM (accM z)))) := by
    show oprM N n (eM N n) (oM N n) g z = _
    unfold oprM
    rw [if_neg (by omega), if_neg (by omega), if_pos h]
    unfold op2M
    rw [if_pos (show 50 ≤ codY (accM z).1 ∧ codY (accM z).1 ≤ 54 from ht), oM_s hn]
    show caeM _ _ (opM N n 0 (xpY 1 (typY (accY z.1)), z.2)) = _
    rw [typ_y ht]
    rfl
  unfold owM
  rw [e, fo_tM]
  rfl
theorem ow_grp {N : Int → Int} {g : Int} {O : List OpZ} {n : Nat} {z : ZS} (h : codY z.1 = 0) (ht : ¬ (50 ≤ codY (accY z.1) ∧ codY (accY z.1) ≤ 54)) : owM N g O (n + 1) z = ewM N ((3, 0, zAt z.1, (xnM z : Int), []) :: O) n (accM z) := by
  have e : opM N (n + 1) g z = paeM (rbM z) (eM N n (accM z)) := by
    show oprM N n (eM N n) (oM N n) g z = _
    unfold oprM
    rw [if_neg (by omega), if_neg (by omega), if_pos h]
    unfold op2M
    rw [if_neg (show ¬ (50 ≤ codY (accM z).1 ∧ codY (accM z).1 ≤ 54) from ht)]
  unfold owM ewM
  rw [e]
  rfl
theorem ow_cal {N : Int → Int} {g : Int} {O : List OpZ} {n : Nat} {z : ZS} (hc : codY z.1 = 80) (h : cobY z.1 = 0) (hn : 1 ≤ n) (h1 : ¬ codY (accY (accY z.1)) = 1) : owM N g O (n + 1) z = ewM N ((4, 0, zAt z.1, (xnM z : Int), []) :: O) n (accM (accM z)) := by
  have e : opM N (n + 1) g z = clpM (eM N n) (rbM z) 501 [(xnM (eM N n (accM (accM z))) : Int) - 1] (eM N n (accM (accM z))) := by
    rw [opM_nam hc]
    show nmeM N n (eM N n) z = _
    unfold nmeM ca2M
    rw [if_pos h, if_neg (by omega), if_neg (show ¬ codY (accM (accM z)).1 = 1 from h1)]
  unfold owM ewM
  rw [e]
  rfl
/-- what is read goes on as before -/
theorem lf_tl {N : Int → Int} {n : Nat} {W : WtZ} {r : Int × Int} {z : ZS} : (tlM N n W r z).1 = tlY n z.1 := by
  show (ch2M _ _ _ (chlM _ 501 W r z)).1 = _
  rw [lf_ch2 lf_e lf_c, lf_chl lf_op]
  rfl
theorem lf_k {N : Int → Int} : ∀ O : List OpZ, (∀ W n r z, (foM N O W n r z).1 = foY (osZ O) n z.1) ∧ (∀ n z, (cfM N O n z).1 = cfY (osZ O) n z.1) ∧ (∀ n z, (efM N O n z).1 = efY (osZ O) n z.1) := by
  intro O
  induction O with
  | nil => exact ⟨fun W n r z => lf_tl, fun n z => rfl, fun n z => rfl⟩
  | cons o O ih =>
    have e : ∀ n z, (efM N (o :: O) n z).1 = efY (osZ (o :: O)) n z.1 := by
      intro n z
      show (keM N (kM N O) o n z).1 = (kY (o.1 :: osZ O)).2.2 n z.1
      rw [kY]
      unfold keM
      dsimp only
      split
      · exact ih.2.2 _ _
      split
      · refine (ih.2.1 _ _).trans ?_
        show cfY (osZ O) (n + 1) (cM N n (xpM 6 _)).1 = _
        rw [lf_c]
        rfl
      split
      · exact ih.1 _ _ _ _
      · refine (ih.1 _ _ _ _).trans ?_
        rw [lf_clp lf_e]
        rfl
    have c : ∀ n z, (cfM N (o :: O) n z).1 = cfY (osZ (o :: O)) n z.1 := by
      intro n z
      by_cases h : o.1 = 7
      · show (kcM N (kM N O) o n z).1 = (kY (o.1 :: osZ O)).2.1 n z.1
        rw [kY]
        unfold kcM
        dsimp only
        rw [if_pos h, if_pos h]
        exact ih.2.1 _ _
      · rw [cf_eM (O := o :: O) h, e]
        exact (cf_ef (O := osZ (o :: O)) h).symm
    refine ⟨fun W n r z => ?_, c, e⟩
    by_cases h0 : o.1 = 0 ∨ o.1 = 1
    · show (kfM N (kM N O) o W n r z).1 = (kY (o.1 :: osZ O)).1 n z.1
      rw [kY]
      unfold kfM
      dsimp only
      rw [if_pos h0]
      split
      · exact ih.1 _ _ _ _
      · rw [if_pos (by omega)]
        exact ih.1 _ _ _ _
    · by_cases h2 : o.1 = 2
      · show (kfM N (kM N O) o W n r z).1 = (kY (o.1 :: osZ O)).1 n z.1
        rw [kY]
        unfold kfM
        dsimp only
        rw [if_neg h0, if_pos h2, if_neg (by omega), if_neg (by omega), if_pos h2]
        exact ih.1 _ _ _ _
      · rw [fo_nM (O := o :: O) ⟨fun q => h0 (Or.inl q), fun q => h0 (Or.inr q), h2⟩, c, lf_tl]
        exact (fo_cf (O := osZ (o :: O)) ⟨fun q => h0 (Or.inl q), fun q => h0 (Or.inr q), h2⟩).symm
theorem lf_fo {N : Int → Int} {O : List OpZ} {W : WtZ} {n : Nat} {r : Int × Int} {z : ZS} : (foM N O W n r z).1 = foY (osZ O) n z.1 := (lf_k O).1 W n r z
theorem lf_cf {N : Int → Int} {O : List OpZ} {n : Nat} {z : ZS} : (cfM N O n z).1 = cfY (osZ O) n z.1 := (lf_k O).2.1 n z
theorem lf_ef {N : Int → Int} {O : List OpZ} {n : Nat} {z : ZS} : (efM N O n z).1 = efY (osZ O) n z.1 := (lf_k O).2.2 n z
theorem lf_ow {N : Int → Int} {g : Int} {O : List OpZ} {n : Nat} {z : ZS} : (owM N g O n z).1 = wtY 0 (osZ O) n z.1 := by
  unfold owM
  rw [lf_fo, lf_op, wt_op]
theorem lf_ew {N : Int → Int} {O : List OpZ} {n : Nat} {z : ZS} : (ewM N O n z).1 = wtY 1 (osZ O) n z.1 := by
  unfold ewM wtY
  rw [lf_ef, lf_e, if_pos rfl]
/-! exps leave methods, variables and tokens alone -/
abbrev P2Y (f : SpC → SpC) : Prop := ∀ s, (f s).2 = s.2
theorem p2_rai {n : Int} : P2Y (raiY n) := by intro s; unfold raiY; split <;> rfl
theorem p2_acc : P2Y accY := by
  intro s
  unfold accY
  split
  · exact p2_rai s
  · split <;> rfl
theorem p2_xp {c : Int} : P2Y (xpY c) := by
  intro s
  unfold xpY
  split
  · exact p2_acc s
  · exact p2_rai s
theorem p2_typ : P2Y typY := by
  intro s
  unfold typY
  split
  · exact p2_acc s
  · exact p2_rai s
theorem p2_clp {E : SpC → SpC} (h : P2Y E) : ∀ n, P2Y (clpY E n) := by
  intro n
  induction n with
  | zero => exact fun s => rfl
  | succ n ih =>
    intro s
    rw [clpY]
    split
    · rw [ih, h, p2_acc]
    · rfl
theorem p2_chl {E : SpC → SpC} (h : P2Y E) : ∀ n, P2Y (chlY E n) := by
  intro n
  induction n with
  | zero => exact fun s => rfl
  | succ n ih =>
    intro s
    rw [chlY]
    split
    · rw [ih, h, p2_acc]
    · rfl
theorem p2_opr {m : Nat} {E I : SpC → SpC} (hE : P2Y E) (hI : P2Y I) : P2Y (oprY m E I) := by
  intro s
  unfold oprY
  split
  · unfold alnY
    rw [hI, p2_acc]
  split
  · unfold cntY
    rw [p2_xp, p2_acc]
  split
  · unfold opnY op2Y
    split
    · rw [hI, p2_xp, p2_typ, p2_acc]
    · rw [p2_xp, hE, p2_acc]
  split
  · unfold nmeY
    split
    · unfold calY ca2Y
      rw [p2_xp]
      split
      · rw [p2_rai, p2_acc, p2_acc]
      split
      · rw [p2_acc, p2_acc]
      · rw [p2_clp hE, hE, p2_acc, p2_acc]
    split
    · rw [p2_acc, p2_acc]
    · rw [p2_acc]
  split
  · rw [p2_acc]
  · rw [p2_rai]
theorem p2_ch2 {E C : SpC → SpC} (hE : P2Y E) (hC : P2Y C) : P2Y (ch2Y E C) := by
  intro s
  unfold ch2Y
  split
  · rw [hC, p2_xp, hE, p2_acc]
  · rfl
theorem p2_chc {O E C : SpC → SpC} (hO : P2Y O) (hE : P2Y E) (hC : P2Y C) : P2Y (chcY O E C) := by
  intro s
  unfold chcY chnY
  rw [p2_ch2 hE hC, p2_chl hO, hO]
theorem p2_xps {O E C : SpC → SpC} (hO : P2Y O) (hE : P2Y E) (hC : P2Y C) : P2Y (xpsY O E C) := by
  intro s
  unfold xpsY
  split
  · split
    · unfold asgY
      rw [hE, p2_acc, p2_acc]
    · exact p2_chc hO hE hC s
  · exact p2_chc hO hE hC s
theorem p2_lv : ∀ n, P2Y (eY n) ∧ P2Y (cY n) ∧ P2Y (oY n) := by
  intro n
  induction n with
  | zero => exact ⟨p2_rai, p2_rai, p2_rai⟩
  | succ n ih => exact ⟨p2_xps (p2_opr ih.1 ih.2.2) ih.1 ih.2.1, p2_chc (p2_opr ih.1 ih.2.2) ih.1 ih.2.1, p2_opr ih.1 ih.2.2⟩
theorem p2_e {n : Nat} : P2Y (eY n) := (p2_lv n).1
theorem p2_c {n : Nat} : P2Y (cY n) := (p2_lv n).2.1
theorem p2_op {n : Nat} : P2Y (opY n) := p2_opr (p2_lv (n - 1)).1 (p2_lv (n - 1)).2.2
theorem p2_tl {n : Nat} : P2Y (tlY n) := by
  intro s
  unfold tlY
  rw [p2_ch2 p2_e p2_c, p2_chl p2_op]
theorem p2_k : ∀ O : List Int, (∀ n, P2Y ((kY O).1 n)) ∧ (∀ n, P2Y ((kY O).2.1 n)) ∧ (∀ n, P2Y ((kY O).2.2 n)) := by
  intro O
  induction O with
  | nil => exact ⟨fun n => p2_tl, fun n s => rfl, fun n s => rfl⟩
  | cons k O ih =>
    have e : ∀ n, P2Y ((kY (k :: O)).2.2 n) := by
      intro n s
      rw [kY]
      dsimp only
      split
      · exact ih.2.2 _ s
      split
      · exact (ih.2.1 _ _).trans ((p2_c _).trans (p2_xp s))
      split
      · exact (ih.1 _ _).trans (p2_xp s)
      · exact (ih.1 _ _).trans ((p2_xp _).trans (p2_clp p2_e _ s))
    have c : ∀ n, P2Y ((kY (k :: O)).2.1 n) := by
      intro n s
      by_cases h : k = 7
      · subst h
        exact ih.2.1 _ s
      · have := e n s
        have q := @cf_ef (k :: O) n s h
        unfold cfY efY at q
        rw [q]
        exact this
    refine ⟨fun n s => ?_, c, e⟩
    by_cases h : k = 0 ∨ k = 1
    · rw [kY]
      dsimp only
      rw [if_pos h]
      exact ih.1 _ s
    · by_cases h2 : k = 2
      · subst h2
        exact ih.1 _ s
      · have q := @fo_cf (k :: O) n s ⟨fun z => h (Or.inl z), fun z => h (Or.inr z), h2⟩
        unfold foY cfY at q
        rw [q]
        exact (c n _).trans (p2_tl s)
theorem p2_fo {O : List Int} {n : Nat} : P2Y (foY O n) := (p2_k O).1 n
theorem p2_ef {O : List Int} {n : Nat} : P2Y (efY O n) := (p2_k O).2.2 n
theorem p2_wt {b : Int} {O : List Int} {n : Nat} : P2Y (wtY b O n) := by
  intro s
  unfold wtY
  split
  · exact (p2_ef _).trans (p2_e s)
  · exact (p2_fo _).trans (p2_op s)

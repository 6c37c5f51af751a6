/-! the latest exp that is laid by an exp: no mark, and it starts where reading began -/
def TpU (b : Nat) (st : Int) (z : ZS) : Prop := ∃ (r : XrZ) (l : List ItZ), z.2.1 = .inl r :: l ∧ r.2.2.1.1 = st ∧ (0 ≤ r.1.1 ∧ r.1.1 ≤ 10) ∧ b ≤ xcZ l
theorem TpU.z {b : Nat} {st : Int} {z z' : ZS} (h : TpU b st z) (e : z'.2.1 = z.2.1) : TpU b st z' := by unfold TpU; rw [e]; exact h
theorem TpU.mo {b c : Nat} {st : Int} {z : ZS} (h : TpU b st z) (q : c ≤ b) : TpU c st z := by
  obtain ⟨r, l, e, h1, h2, h3⟩ := h
  exact ⟨r, l, e, h1, h2, Nat.le_trans q h3⟩
theorem TpU.xn {b : Nat} {st : Int} {z : ZS} (h : TpU b st z) : b + 1 ≤ xnM z := by
  obtain ⟨r, l, e, _, _, q⟩ := h
  unfold xnM
  rw [e]
  show b + 1 ≤ xcZ l + 1
  omega
theorem tp_pu {b : Nat} {st : Int} {z : ZS} {x : XrZ} (h : b ≤ xnM z) (hs : x.2.2.1.1 = st) (hk : 0 ≤ x.1.1 ∧ x.1.1 ≤ 10) : TpU b st (puM x z) := ⟨x, z.2.1, rfl, hs, hk, h⟩
theorem tp_cl {p : Int} {b : Nat} : ∀ (W : WtZ) (r : Int × Int) (z : ZS), TpU b r.2 z → TpU b (csrZ p W r).2 (clM p W z) := by
  intro W
  induction W with
  | nil => intro r z h; exact h
  | cons w W ih =>
    intro r z h
    obtain ⟨sg, f, st, a, mq⟩ := w
    rw [clM, csrZ]
    split
    · exact ih (f, st) _ (tp_pu (by have := h.xn; omega) rfl (by show (0 : Int) ≤ 7 ∧ (7 : Int) ≤ 10; decide))
    · exact h
abbrev ToX (f : ZS → ZS) : Prop := ∀ z, zFt (f z).1 = 0 → TpU (xnM z) (xnM z) (f z)
theorem gf_z {f : ZS → ZS} {g : SpC → SpC} (h : LfM f g) (q : GdY g) {z : ZS} (e : zFt (f z).1 = 0) : zFt z.1 = 0 := (q z.1).z (by rw [← h z]; exact e)
theorem str_nn {c : Int} : 0 ≤ strZ c := by
  unfold strZ
  repeat' split
  all_goals decide
theorem csr_csw {p : Int} : ∀ (W : WtZ) (r : Int × Int), csrZ 0 (cswZ p W) (csrZ p W r) = csrZ 0 W r := by
  intro W
  induction W with
  | nil => intro r; rfl
  | cons w W ih =>
    intro r
    obtain ⟨sg, f, st, a, mq⟩ := w
    have e : csrZ 0 ((sg, f, st, a, mq) :: W) r = csrZ 0 W (f, st) := by rw [csrZ, if_pos str_nn]
    rw [cswZ, csrZ]
    by_cases h : p ≤ strZ sg
    · rw [if_pos h, if_pos h, ih, e]
    · rw [if_neg h, if_neg h]
theorem tp_chl {O : ZS → ZS} {o : SpC → SpC} (hO : ToX O) (lO : LfM O o) (gO : GdY o) (iO : IgM O) {b : Nat} : ∀ (f : Nat) (W : WtZ) (r : Int × Int) (z : ZS), TpU b r.2 z → zFt (chlM O f W r z).1 = 0 → TpU b (csrZ 0 W r).2 (chlM O f W r z) := by
  intro f
  induction f with
  | zero => intro W r z h _; exact tp_cl W r z h
  | succ f ih =>
    intro W r z h q
    rw [chlM] at q ⊢
    by_cases c : 20 ≤ codY z.1 ∧ codY z.1 ≤ 38
    · rw [if_pos c] at q ⊢
      have hf : zFt (O (accM (fkM (clM (strZ (codY z.1)) W z)))).1 = 0 := (gd_chl gO f _).z (by rw [← lf_chl lO]; exact q)
      have t1 := hO _ hf
      have b1 := (tp_cl (p := strZ (codY z.1)) W r z h).xn
      have b2 : xnM (clM (strZ (codY z.1)) W z) ≤ xnM (fkM (clM (strZ (codY z.1)) W z)) := up_fk
      have b3 : xnM (accM (fkM (clM (strZ (codY z.1)) W z))) = xnM (fkM (clM (strZ (codY z.1)) W z)) := rfl
      have t2 := ih _ (zAt z.1 + 1, (xnM (fkM (clM (strZ (codY z.1)) W z)) : Int)) _ (t1.mo (c := b) (by omega)) q
      rw [csrZ] at t2
      unfold wnZ at t2
      dsimp only at t2
      rw [if_pos str_nn, csr_csw] at t2
      unfold wnZ
      exact t2
    · rw [if_neg c] at q ⊢
      exact tp_cl W r z h
theorem tp_ch2 {E C : ZS → ZS} (gE : IgM E) (gC : IgM C) {b : Nat} {r : Int × Int} {z : ZS} (h : TpU b r.2 z) : TpU b r.2 (ch2M E C r z) := by
  have b0 := h.xn
  unfold ch2M
  split
  · refine tp_pu ?_ rfl (by show (0 : Int) ≤ 8 ∧ (8 : Int) ≤ 10; decide)
    have b1 : xnM (puM (thnZ (xnM z) z.1) z) ≤ xnM (E (accM (puM (thnZ (xnM z) z.1) z))) := xc_suf (gE (accM (puM (thnZ (xnM z) z.1) z)))
    rw [xn_pu] at b1
    generalize E (accM (puM (thnZ (xnM z) z.1) z)) = y at b1 ⊢
    have b2 : xnM (puM (elsZ (xnM z) (xnM y) y.1) y) ≤ xnM (C (xpM 6 (puM (elsZ (xnM z) (xnM y) y.1) y))) := xc_suf (gC (xpM 6 (puM (elsZ (xnM z) (xnM y) y.1) y)))
    rw [xn_pu] at b2
    omega
  · exact h
theorem ch2_b {E C : ZS → ZS} {e c : SpC → SpC} (lE : LfM E e) (lC : LfM C c) (gE : GdY e) (gC : GdY c) {r : Int × Int} {z : ZS} (h : zFt (ch2M E C r z).1 = 0) : zFt z.1 = 0 := by
  unfold ch2M at h
  split at h
  · have h1 := gf_z lC gC (show zFt (C (xpM 6 (puM (elsZ (xnM z) (xnM (E (accM (puM (thnZ (xnM z) z.1) z)))) (E (accM (puM (thnZ (xnM z) z.1) z))).1) (E (accM (puM (thnZ (xnM z) z.1) z)))))).1 = 0 from h)
    have h2 := xp_b h1
    exact (acc_n (gf_z lE gE h2)).2.1
  · exact h
theorem tp_chc {O E C : ZS → ZS} {o e c : SpC → SpC} (hO : ToX O) (lO : LfM O o) (gO : GdY o) (iO : IgM O) (lE : LfM E e) (lC : LfM C c) (gE : GdY e) (gC : GdY c) (iE : IgM E) (iC : IgM C) : ToX (chcM O E C) := by
  intro z h
  have h1 : zFt (chlM O 501 [] (rbM z) (O z)).1 = 0 := ch2_b lE lC gE gC (r := rbM z) h
  have h2 : zFt (O z).1 = 0 := (gd_chl gO 501 _).z (by rw [← lf_chl lO]; exact h1)
  exact tp_ch2 iE iC (r := rbM z) (tp_chl hO lO gO iO 501 [] (rbM z) (O z) (hO z h2) h1)
theorem tp_xps {N : Int → Int} {O E C : ZS → ZS} {o e c : SpC → SpC} (hO : ToX O) (lO : LfM O o) (gO : GdY o) (iO : IgM O) (lE : LfM E e) (lC : LfM C c) (gE : GdY e) (gC : GdY c) (iE : IgM E) (iC : IgM C) : ToX (xpsM N O E C) := by
  intro z h
  unfold xpsM at h ⊢
  split at h
  · rename_i c1
    rw [if_pos c1]
    split at h
    · rename_i c2
      rw [if_pos c2]
      refine tp_pu ?_ rfl (by show (0 : Int) ≤ 9 ∧ (9 : Int) ≤ 10; decide)
      exact Nat.le_trans (xc_suf (ig_tk (N := N) (z := z))) (xc_suf (iE (accM (accM (tkM N z)))))
    · rename_i c2
      rw [if_neg c2]
      exact tp_chc hO lO gO iO lE lC gE gC iE iC z h
  · rename_i c1
    rw [if_neg c1]
    exact tp_chc hO lO gO iO lE lC gE gC iE iC z h
theorem tp_clp {E : ZS → ZS} (iE : IgM E) {r : Int × Int} {b : Nat} : ∀ (f : Nat) (l : List Int) (z : ZS), b ≤ xnM z → TpU b r.2 (clpM E r f l z) := by
  have h0 : ∀ (l : List Int) (z : ZS), b ≤ xnM z → TpU b r.2 (cleM r l z) := fun l z h => (tp_pu (x := calZ r.1 r.2 l z.1) h rfl (by show (0 : Int) ≤ 10 ∧ (10 : Int) ≤ 10; decide)).z rfl
  intro f
  induction f with
  | zero => exact h0
  | succ f ih =>
    intro l z h
    rw [clpM]
    split
    · exact ih _ _ (Nat.le_trans h (xc_suf (iE (accM z))))
    · exact h0 l z h
theorem tp_opr {N : Int → Int} {m : Nat} {E : ZS → ZS} {I : Int → ZS → ZS} (iE : IgM E) (iI : ∀ g, IgM (I g)) (g : Int) : ToX (oprM N m E I g) := by
  intro z h
  unfold oprM at h ⊢
  by_cases c1 : codY z.1 = 34 ∨ codY z.1 = 35 ∨ codY z.1 = 39 ∨ codY z.1 = 40
  · rw [if_pos c1]
    exact tp_pu (xc_suf (iI _ (accM z))) rfl (by show (0 : Int) ≤ 4 ∧ (4 : Int) ≤ 10; decide)
  rw [if_neg c1] at h ⊢
  by_cases c2 : codY z.1 = 41 ∨ codY z.1 = 42
  · rw [if_pos c2]
    exact (tp_pu (x := preZ (lkM N z (zAt z.1 + 1)) (xnM z) z.1) (z := accM z) (Nat.le_refl _) rfl (by show (0 : Int) ≤ 6 ∧ (6 : Int) ≤ 10; decide)).z rfl
  rw [if_neg c2] at h ⊢
  by_cases c3 : codY z.1 = 0
  · rw [if_pos c3]
    unfold op2M
    split
    · exact tp_pu (xc_suf (iI 0 (xpM 1 (typM (accM z))))) rfl (by show (0 : Int) ≤ 5 ∧ (5 : Int) ≤ 10; decide)
    · exact (tp_pu (x := parZ (rbM z).1 (rbM z).2 (xnM (E (accM z))) (E (accM z)).1) (z := E (accM z)) (xc_suf (iE (accM z))) rfl (by show (0 : Int) ≤ 3 ∧ (3 : Int) ≤ 10; decide)).z rfl
  rw [if_neg c3] at h ⊢
  by_cases c4 : codY z.1 = 80
  · rw [if_pos c4] at h ⊢
    unfold nmeM at h ⊢
    by_cases d1 : cobY z.1 = 0
    · rw [if_pos d1] at h ⊢
      unfold ca2M at h ⊢
      by_cases e1 : m = 0
      · rw [if_pos e1] at h
        exact absurd (xp_b h) (raiY_z (by decide))
      rw [if_neg e1]
      by_cases e2 : codY (accM (accM z)).1 = 1
      · rw [if_pos e2]
        exact tp_clp iE (r := rbM z) 0 [] (accM (accM z)) (Nat.le_refl _)
      · rw [if_neg e2]
        exact tp_clp iE (r := rbM z) 501 _ _ (xc_suf (iE (accM (accM z))))
    rw [if_neg d1]
    split
    · exact tp_pu (Nat.le_refl _) rfl (by show (0 : Int) ≤ 6 ∧ (6 : Int) ≤ 10; decide)
    · exact tp_pu (Nat.le_refl _) rfl (by show (0 : Int) ≤ 2 ∧ (2 : Int) ≤ 10; decide)
  rw [if_neg c4] at h ⊢
  by_cases c5 : codY z.1 = 81 ∨ codY z.1 = 82 ∨ codY z.1 = 83 ∨ codY z.1 = 72 ∨ codY z.1 = 73
  · rw [if_pos c5]
    refine tp_pu (Nat.le_refl _) rfl ?_
    show 0 ≤ (if codY z.1 = 81 ∨ codY z.1 = 82 then (0 : Int) else 1) ∧ (if codY z.1 = 81 ∨ codY z.1 = 82 then (0 : Int) else 1) ≤ 10
    split <;> decide
  · rw [if_neg c5] at h
    exact absurd h (raiY_z (by decide))
theorem tp_lv {N : Int → Int} : ∀ n, ToX (eM N n) ∧ ToX (cM N n) ∧ ∀ g, ToX (oM N n g) := by
  intro n
  induction n with
  | zero => exact ⟨fun z h => absurd h (raiY_z (by decide)), fun z h => absurd h (raiY_z (by decide)), fun _ z h => absurd h (raiY_z (by decide))⟩
  | succ n ih =>
    have ig := ig_lv (N := N) n
    have lf := lf_lv (N := N) n
    have gd := gd_lv n
    have hO : ∀ g, ToX (oprM N n (eM N n) (oM N n) g) := fun g => tp_opr ig.1 ig.2.2 g
    have iO : IgM (oprM N n (eM N n) (oM N n) 0) := ig_opr ig.1 ig.2.2 0
    have lO : LfM (oprM N n (eM N n) (oM N n) 0) (oprY n (eY n) (oY n)) := lf_opr lf.1 lf.2.2 0
    have gO : GdY (oprY n (eY n) (oY n)) := gd_opr gd.1 gd.2.2
    exact ⟨tp_xps (hO 0) lO gO iO lf.1 lf.2.1 gd.1 gd.2.1 ig.1 ig.2.1, tp_chc (hO 0) lO gO iO lf.1 lf.2.1 gd.1 gd.2.1 ig.1 ig.2.1, hO⟩

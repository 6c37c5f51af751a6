/-! records of exps, as they are laid: one induction for what each of them keeps -/
/-- what a record is like where it is laid -/
def RcX (N : Int → Int) (z : ZS) (x : XrZ) : Prop := ((0 ≤ x.1.1 ∧ x.1.1 ≤ 14) ∧ 0 ≤ x.2.2.1.1 ∧ x.2.2.1.1 ≤ (xnM z : Int)) ∧ ((x.1.1 = 2 ∨ x.1.1 = 6 ∨ x.1.1 = 9 ∨ x.1.1 = 14 → x.2.1.2.1 = lkM N z x.2.1.1) ∧ (¬ (x.1.1 = 2 ∨ x.1.1 = 6 ∨ x.1.1 = 9 ∨ x.1.1 = 14) → x.2.1.2.1 = -1 ∨ x.2.1.2.1 = 1)) ∧ (x.1.1 = 10 → x.2.2.1.2.1 = x.2.2.2.headD (-1) ∧ 0 ≤ x.1.2.2.1)
/-- kept by moves of the place, and by each record -/
def ClX (N : Int → Int) (I : ZS → Prop) : Prop := ((∀ z, I z → 0 ≤ zAt z.1) ∧ ∀ z s', I z → s'.2 = z.1.2 → zAt z.1 ≤ zAt s' → I (s', z.2)) ∧ ∀ z x, I z → RcX N z x → I (puM x z)
abbrev IvM (I : ZS → Prop) (f : ZS → ZS) : Prop := ∀ z, I z → I (f z)
theorem mv_rai {n : Int} {s : SpC} : (raiY n s).2 = s.2 ∧ zAt s ≤ zAt (raiY n s) := by
  unfold raiY
  split
  · exact ⟨rfl, Int.le_refl _⟩
  · exact ⟨rfl, Int.le_refl _⟩
theorem mv_acc {s : SpC} : (accY s).2 = s.2 ∧ zAt s ≤ zAt (accY s) := by
  unfold accY
  split
  · exact mv_rai
  · split
    · refine ⟨rfl, ?_⟩
      show zAt s ≤ zAt s + 1
      omega
    · exact ⟨rfl, Int.le_refl _⟩
theorem mv_xp {c : Int} {s : SpC} : (xpY c s).2 = s.2 ∧ zAt s ≤ zAt (xpY c s) := by
  unfold xpY
  split
  · exact mv_acc
  · exact mv_rai
theorem mv_typ {s : SpC} : (typY s).2 = s.2 ∧ zAt s ≤ zAt (typY s) := by
  unfold typY
  split
  · exact mv_acc
  · exact mv_rai
theorem ClX.rai {N : Int → Int} {I : ZS → Prop} (h : ClX N I) {n : Int} : IvM I (raiM n) := fun z q => h.1.2 z _ q mv_rai.1 mv_rai.2
theorem ClX.acc {N : Int → Int} {I : ZS → Prop} (h : ClX N I) : IvM I accM := fun z q => h.1.2 z _ q mv_acc.1 mv_acc.2
theorem ClX.xp {N : Int → Int} {I : ZS → Prop} (h : ClX N I) {c : Int} : IvM I (xpM c) := fun z q => h.1.2 z _ q mv_xp.1 mv_xp.2
theorem ClX.typ {N : Int → Int} {I : ZS → Prop} (h : ClX N I) : IvM I typM := fun z q => h.1.2 z _ q mv_typ.1 mv_typ.2
theorem xc_suf {l l' : List ItZ} (h : l <:+ l') : xcZ l ≤ xcZ l' := by
  obtain ⟨t, rfl⟩ := h
  induction t with
  | nil => exact Nat.le_refl _
  | cons x t ih =>
    cases x with
    | inl x => exact Nat.le_succ_of_le ih
    | inr y => exact ih
/-- how many exps there are goes up -/
abbrev UpM (f : ZS → ZS) : Prop := ∀ z, xnM z ≤ xnM (f z)
theorem up_ig {f : ZS → ZS} (h : IgM f) : UpM f := fun z => xc_suf (h z)
/-- records without a link -/
theorem rc_pl {N : Int → Int} {z : ZS} {x : XrZ} (hk : 0 ≤ x.1.1 ∧ x.1.1 ≤ 14) (hn : ¬ (x.1.1 = 2 ∨ x.1.1 = 6 ∨ x.1.1 = 9 ∨ x.1.1 = 14)) (h10 : ¬ x.1.1 = 10) (hs : 0 ≤ x.2.2.1.1 ∧ x.2.2.1.1 ≤ (xnM z : Int)) (hl : x.2.1.2.1 = -1 ∨ x.2.1.2.1 = 1) : RcX N z x := ⟨⟨hk, hs⟩, ⟨fun q => absurd q hn, fun _ => hl⟩, fun q => absurd q h10⟩
theorem rc_lk {N : Int → Int} {z : ZS} {x : XrZ} (hn : x.1.1 = 2 ∨ x.1.1 = 6 ∨ x.1.1 = 9 ∨ x.1.1 = 14) (hs : 0 ≤ x.2.2.1.1 ∧ x.2.2.1.1 ≤ (xnM z : Int)) (hl : x.2.1.2.1 = lkM N z x.2.1.1) : RcX N z x := ⟨⟨by omega, hs⟩, ⟨fun _ => hl, fun q => absurd hn q⟩, fun q => by omega⟩
def WtP (W : WtZ) (n : Nat) : Prop := ∀ w ∈ W, 0 ≤ w.2.2.1 ∧ w.2.2.1 ≤ (n : Int)
theorem WtP.mo {W : WtZ} {m n : Nat} (h : WtP W m) (q : m ≤ n) : WtP W n := fun w hw => ⟨(h w hw).1, by have := (h w hw).2; omega⟩
theorem iv_cl {N : Int → Int} {I : ZS → Prop} (hI : ClX N I) {p : Int} : ∀ (W : WtZ) (z : ZS), I z → WtP W (xnM z) → I (clM p W z) := by
  intro W
  induction W with
  | nil => exact fun z h _ => h
  | cons w W ih =>
    obtain ⟨sg, f, st, a, mq⟩ := w
    intro z h hw
    rw [clM]
    split
    · refine ih _ (hI.2 z _ h (rc_pl (by show (0 : Int) ≤ 7 ∧ (7 : Int) ≤ 14; decide) (by show ¬ ((7 : Int) = 2 ∨ (7 : Int) = 6 ∨ (7 : Int) = 9 ∨ (7 : Int) = 14); decide) (by show ¬ (7 : Int) = 10; decide) (hw (sg, f, st, a, mq) List.mem_cons_self) (Or.inl rfl))) ?_
      exact WtP.mo (fun w q => hw w (List.mem_cons_of_mem _ q)) (Nat.le_succ _)
    · exact h
theorem iv_fk {N : Int → Int} {I : ZS → Prop} (hI : ClX N I) {z : ZS} (h : I z) : I (fkM z) := by
  unfold fkM
  split
  · exact hI.2 z _ h (rc_pl (by show (0 : Int) ≤ 11 ∧ (11 : Int) ≤ 14; decide) (by show ¬ ((11 : Int) = 2 ∨ (11 : Int) = 6 ∨ (11 : Int) = 9 ∨ (11 : Int) = 14); decide) (by show ¬ (11 : Int) = 10; decide) ⟨by show (0 : Int) ≤ ((xnM z : Nat) : Int); omega, Int.le_refl _⟩ (Or.inl rfl))
  · exact h
theorem csw_q {p : Int} {n : Nat} : ∀ {W : WtZ}, WtP W n → WtP (cswZ p W) n := by
  intro W
  induction W with
  | nil => exact fun h => h
  | cons w W ih =>
    obtain ⟨sg, f, st, a, mq⟩ := w
    intro h
    rw [cswZ]
    split
    · exact ih (fun w q => h w (List.mem_cons_of_mem _ q))
    · exact h
theorem csr_q {p : Int} {n : Nat} : ∀ {W : WtZ} {r : Int × Int}, WtP W n → 0 ≤ r.2 ∧ r.2 ≤ (n : Int) → 0 ≤ (csrZ p W r).2 ∧ (csrZ p W r).2 ≤ (n : Int) := by
  intro W
  induction W with
  | nil => exact fun _ h => h
  | cons w W ih =>
    obtain ⟨sg, f, st, a, mq⟩ := w
    intro r h q
    rw [csrZ]
    split
    · exact ih (fun w q => h w (List.mem_cons_of_mem _ q)) (h (sg, f, st, a, mq) List.mem_cons_self)
    · exact q
theorem up_cl {p : Int} {W : WtZ} {z : ZS} : xnM z ≤ xnM (clM p W z) := xc_suf (ig_cl W z)
theorem up_fk {z : ZS} : xnM z ≤ xnM (fkM z) := xc_suf ig_fk
theorem iv_chl {N : Int → Int} {I : ZS → Prop} (hI : ClX N I) {O : ZS → ZS} (gO : IgM O) (hO : IvM I O) : ∀ (f : Nat) (W : WtZ) (r : Int × Int) (z : ZS), I z → WtP W (xnM z) → 0 ≤ r.2 ∧ r.2 ≤ (xnM z : Int) → I (chlM O f W r z) ∧ (0 ≤ r.2 ∧ r.2 ≤ (xnM (chlM O f W r z) : Int)) := by
  intro f
  induction f with
  | zero =>
    intro W r z h hw hr
    refine ⟨iv_cl hI W z h hw, ?_⟩
    have u := up_cl (p := 0) (W := W) (z := z)
    show _ ∧ _ ≤ ((xnM (clM 0 W z) : Nat) : Int)
    omega
  | succ f ih =>
    intro W r z h hw hr
    rw [chlM]
    split
    · have u1 := up_cl (p := strZ (codY z.1)) (W := W) (z := z)
      have h1 := iv_cl hI (p := strZ (codY z.1)) W z h hw
      have h2 := iv_fk hI h1
      have u2 := up_fk (z := clM (strZ (codY z.1)) W z)
      have h3 := hO _ (hI.acc _ h2)
      have u3 : xnM (fkM (clM (strZ (codY z.1)) W z)) ≤ xnM (O (accM (fkM (clM (strZ (codY z.1)) W z)))) := xc_suf (gO (accM (fkM (clM (strZ (codY z.1)) W z))))
      have cs := csr_q (p := strZ (codY z.1)) hw hr
      have q := ih (wnZ (csrZ (strZ (codY z.1)) W r) (clM (strZ (codY z.1)) W z) :: cswZ (strZ (codY z.1)) W) (zAt z.1 + 1, (xnM (fkM (clM (strZ (codY z.1)) W z)) : Int)) _ h3 (fun w qw => by
        rcases List.mem_cons.mp qw with e | m
        · rw [e]
          show 0 ≤ (csrZ (strZ (codY z.1)) W r).2 ∧ (csrZ (strZ (codY z.1)) W r).2 ≤ _
          omega
        · have := csw_q (p := strZ (codY z.1)) hw w m
          omega) (by
        show 0 ≤ ((xnM (fkM (clM (strZ (codY z.1)) W z)) : Nat) : Int) ∧ ((xnM (fkM (clM (strZ (codY z.1)) W z)) : Nat) : Int) ≤ _
        omega)
      refine ⟨q.1, ?_⟩
      have u4 : xnM z ≤ xnM (chlM O f (wnZ (csrZ (strZ (codY z.1)) W r) (clM (strZ (codY z.1)) W z) :: cswZ (strZ (codY z.1)) W) (zAt z.1 + 1, (xnM (fkM (clM (strZ (codY z.1)) W z)) : Int)) (O (accM (fkM (clM (strZ (codY z.1)) W z))))) := by
        have := xc_suf (ig_chl gO f (wnZ (csrZ (strZ (codY z.1)) W r) (clM (strZ (codY z.1)) W z) :: cswZ (strZ (codY z.1)) W) (zAt z.1 + 1, (xnM (fkM (clM (strZ (codY z.1)) W z)) : Int)) (O (accM (fkM (clM (strZ (codY z.1)) W z)))))
        have t : xnM (O (accM (fkM (clM (strZ (codY z.1)) W z)))) ≤ _ := this
        omega
      omega
    · refine ⟨iv_cl hI W z h hw, ?_⟩
      have u := up_cl (p := 0) (W := W) (z := z)
      omega
theorem iv_ch2 {N : Int → Int} {I : ZS → Prop} (hI : ClX N I) {E C : ZS → ZS} (gE : IgM E) (gC : IgM C) (hE : IvM I E) (hC : IvM I C) {r : Int × Int} {z : ZS} (h : I z) (hr : 0 ≤ r.2 ∧ r.2 ≤ (xnM z : Int)) : I (ch2M E C r z) := by
  unfold ch2M
  split
  · have h1 : I (puM (thnZ (xnM z) z.1) z) := hI.2 z _ h (rc_pl (by show (0 : Int) ≤ 12 ∧ (12 : Int) ≤ 14; decide) (by show ¬ ((12 : Int) = 2 ∨ (12 : Int) = 6 ∨ (12 : Int) = 9 ∨ (12 : Int) = 14); decide) (by show ¬ (12 : Int) = 10; decide) ⟨by show (0 : Int) ≤ ((xnM z : Nat) : Int); omega, Int.le_refl _⟩ (Or.inl rfl))
    have h2 := hE _ (hI.acc _ h1)
    have u1 : xnM z + 1 ≤ xnM (E (accM (puM (thnZ (xnM z) z.1) z))) := xc_suf (gE (accM (puM (thnZ (xnM z) z.1) z)))
    generalize E (accM (puM (thnZ (xnM z) z.1) z)) = y at h2 u1 ⊢
    unfold ch3M cheM
    have h3 : I (puM (elsZ (xnM z) (xnM y) y.1) y) := hI.2 y _ h2 (rc_pl (by show (0 : Int) ≤ 13 ∧ (13 : Int) ≤ 14; decide) (by show ¬ ((13 : Int) = 2 ∨ (13 : Int) = 6 ∨ (13 : Int) = 9 ∨ (13 : Int) = 14); decide) (by show ¬ (13 : Int) = 10; decide) ⟨by show (0 : Int) ≤ ((xnM y : Nat) : Int); omega, Int.le_refl _⟩ (Or.inl rfl))
    have h4 := hC _ (hI.xp (c := 6) _ h3)
    have u2 : xnM y + 1 ≤ xnM (C (xpM 6 (puM (elsZ (xnM z) (xnM y) y.1) y))) := xc_suf (gC (xpM 6 (puM (elsZ (xnM z) (xnM y) y.1) y)))
    exact hI.2 _ _ h4 (rc_pl (by show (0 : Int) ≤ 8 ∧ (8 : Int) ≤ 14; decide) (by show ¬ ((8 : Int) = 2 ∨ (8 : Int) = 6 ∨ (8 : Int) = 9 ∨ (8 : Int) = 14); decide) (by show ¬ (8 : Int) = 10; decide) ⟨hr.1, by show r.2 ≤ _; omega⟩ (Or.inl rfl))
  · exact h
theorem iv_chc {N : Int → Int} {I : ZS → Prop} (hI : ClX N I) {O E C : ZS → ZS} (gO : IgM O) (gE : IgM E) (gC : IgM C) (hO : IvM I O) (hE : IvM I E) (hC : IvM I C) : IvM I (chcM O E C) := by
  intro z h
  have u : xnM z ≤ xnM (O z) := xc_suf (gO z)
  have q := iv_chl hI gO hO 501 [] (rbM z) (O z) (hO z h) (fun w hw => absurd hw List.not_mem_nil) (by show 0 ≤ ((xnM z : Nat) : Int) ∧ ((xnM z : Nat) : Int) ≤ _; omega)
  exact iv_ch2 hI gE gC hE hC q.1 q.2
theorem lk_ks {N : Int → Int} {z z' : ZS} {t : Int} (h : z'.2.2 = z.2.2) : lkM N z' t = lkM N z t := by unfold lkM; rw [h]
theorem iv_xps {N : Int → Int} {I : ZS → Prop} (hI : ClX N I) {O E C : ZS → ZS} (gO : IgM O) (gE : IgM E) (gC : IgM C) (kE : KsM E) (hO : IvM I O) (hE : IvM I E) (hC : IvM I C) : IvM I (xpsM N O E C) := by
  intro z h
  unfold xpsM
  split
  · split
    · unfold asgM aseM
      have h1 : I (tkM N z) := by
        unfold tkM
        split
        · exact h
        · exact hI.2 z _ h (rc_lk (Or.inr (Or.inr (Or.inr rfl))) ⟨by show (0 : Int) ≤ ((xnM z : Nat) : Int); omega, Int.le_refl _⟩ rfl)
      have h2 := hE _ (hI.acc _ (hI.acc _ h1))
      have u : xnM z ≤ xnM (E (accM (accM (tkM N z)))) := xc_suf (List.IsSuffix.trans (ig_tk (N := N) (z := z)) (gE (accM (accM (tkM N z)))))
      have k : (E (accM (accM (tkM N z)))).2.2 = z.2.2 := (kE _).trans (ks_tk (N := N) (z := z))
      refine hI.2 _ _ h2 (rc_lk (Or.inr (Or.inr (Or.inl rfl))) ⟨?_, ?_⟩ (lk_ks k).symm)
      · show 0 ≤ ((xnM z : Nat) : Int)
        omega
      · show ((xnM z : Nat) : Int) ≤ _
        omega
    · exact iv_chc hI gO gE gC hO hE hC z h
  · exact iv_chc hI gO gE gC hO hE hC z h
theorem iv_cle {N : Int → Int} {I : ZS → Prop} (hI : ClX N I) {r : Int × Int} {l : List Int} {z : ZS} (h : I z) (hr : (0 ≤ r.2 ∧ r.2 ≤ (xnM z : Int)) ∧ 0 ≤ r.1) : I (cleM r l z) := hI.xp _ (hI.2 z _ h ⟨⟨by show (0 : Int) ≤ 10 ∧ (10 : Int) ≤ 14; decide, hr.1⟩, ⟨fun q => absurd q (by show ¬ ((10 : Int) = 2 ∨ (10 : Int) = 6 ∨ (10 : Int) = 9 ∨ (10 : Int) = 14); decide), fun _ => Or.inl rfl⟩, fun _ => ⟨rfl, hr.2⟩⟩)
theorem iv_clp {N : Int → Int} {I : ZS → Prop} (hI : ClX N I) {E : ZS → ZS} (gE : IgM E) (hE : IvM I E) {r : Int × Int} : ∀ (f : Nat) (l : List Int) (z : ZS), I z → (0 ≤ r.2 ∧ r.2 ≤ (xnM z : Int)) ∧ 0 ≤ r.1 → I (clpM E r f l z) := by
  intro f
  induction f with
  | zero => exact fun l z h hr => iv_cle hI h hr
  | succ f ih =>
    intro l z h hr
    rw [clpM]
    split
    · have u : xnM z ≤ xnM (E (accM z)) := xc_suf (gE (accM z))
      exact ih _ _ (hE _ (hI.acc _ h)) ⟨⟨hr.1.1, by omega⟩, hr.2⟩
    · exact iv_cle hI h hr
theorem iv_opr {N : Int → Int} {I : ZS → Prop} (hI : ClX N I) {m : Nat} {E : ZS → ZS} {J : Int → ZS → ZS} (gE : IgM E) (gJ : ∀ g, IgM (J g)) (hE : IvM I E) (hJ : ∀ g, IvM I (J g)) (g : Int) : IvM I (oprM N m E J g) := by
  intro z h
  have z0 := hI.1.1 z h
  unfold oprM
  split
  · have u : xnM z ≤ xnM (J (ngZ (codY z.1)) (accM z)) := xc_suf (gJ _ (accM z))
    exact hI.2 _ _ (hJ _ _ (hI.acc _ h)) (rc_pl (by show (0 : Int) ≤ 4 ∧ (4 : Int) ≤ 14; decide) (by show ¬ ((4 : Int) = 2 ∨ (4 : Int) = 6 ∨ (4 : Int) = 9 ∨ (4 : Int) = 14); decide) (by show ¬ (4 : Int) = 10; decide) (by show 0 ≤ ((xnM z : Nat) : Int) ∧ ((xnM z : Nat) : Int) ≤ _; omega) (Or.inl rfl))
  split
  · exact hI.xp _ (hI.2 _ _ (hI.acc _ h) (rc_lk (Or.inr (Or.inl rfl)) (by show 0 ≤ ((xnM z : Nat) : Int) ∧ ((xnM z : Nat) : Int) ≤ ((xnM z : Nat) : Int); omega) rfl))
  split
  · unfold op2M
    split
    · have u : xnM z ≤ xnM (J 0 (xpM 1 (typM (accM z)))) := xc_suf (gJ 0 (xpM 1 (typM (accM z))))
      exact hI.2 _ _ (hJ 0 _ (hI.xp _ (hI.typ _ (hI.acc _ h)))) (rc_pl (by show (0 : Int) ≤ 5 ∧ (5 : Int) ≤ 14; decide) (by show ¬ ((5 : Int) = 2 ∨ (5 : Int) = 6 ∨ (5 : Int) = 9 ∨ (5 : Int) = 14); decide) (by show ¬ (5 : Int) = 10; decide) (by show 0 ≤ ((xnM z : Nat) : Int) ∧ ((xnM z : Nat) : Int) ≤ _; omega) (Or.inl rfl))
    · have u : xnM z ≤ xnM (E (accM z)) := xc_suf (gE (accM z))
      exact hI.xp _ (hI.2 _ _ (hE _ (hI.acc _ h)) (rc_pl (by show (0 : Int) ≤ 3 ∧ (3 : Int) ≤ 14; decide) (by show ¬ ((3 : Int) = 2 ∨ (3 : Int) = 6 ∨ (3 : Int) = 9 ∨ (3 : Int) = 14); decide) (by show ¬ (3 : Int) = 10; decide) (by show 0 ≤ ((xnM z : Nat) : Int) ∧ ((xnM z : Nat) : Int) ≤ _; omega) (Or.inl rfl)))
  split
  · unfold nmeM
    split
    · unfold ca2M
      have hr : (0 ≤ (rbM z).2 ∧ (rbM z).2 ≤ (xnM z : Int)) ∧ 0 ≤ (rbM z).1 := ⟨by show 0 ≤ ((xnM z : Nat) : Int) ∧ ((xnM z : Nat) : Int) ≤ ((xnM z : Nat) : Int); omega, z0⟩
      split
      · exact hI.xp _ (hI.rai _ (hI.acc _ (hI.acc _ h)))
      split
      · exact iv_cle hI (hI.acc _ (hI.acc _ h)) hr
      · have u : xnM z ≤ xnM (E (accM (accM z))) := xc_suf (gE (accM (accM z)))
        exact iv_clp hI gE hE 501 _ _ (hE _ (hI.acc _ (hI.acc _ h))) ⟨⟨hr.1.1, by have := hr.1.2; omega⟩, hr.2⟩
    split
    · exact hI.2 _ _ (hI.acc _ (hI.acc _ h)) (rc_lk (Or.inr (Or.inl rfl)) (by show 0 ≤ ((xnM z : Nat) : Int) ∧ ((xnM z : Nat) : Int) ≤ ((xnM z : Nat) : Int); omega) rfl)
    · exact hI.2 _ _ (hI.acc _ h) (rc_lk (Or.inl rfl) (by show 0 ≤ ((xnM z : Nat) : Int) ∧ ((xnM z : Nat) : Int) ≤ ((xnM z : Nat) : Int); omega) rfl)
  split
  · refine hI.2 _ _ (hI.acc _ h) (rc_pl ?_ ?_ ?_ (by show 0 ≤ ((xnM z : Nat) : Int) ∧ ((xnM z : Nat) : Int) ≤ ((xnM z : Nat) : Int); omega) ?_)
    · show 0 ≤ (if codY z.1 = 81 ∨ codY z.1 = 82 then (0 : Int) else 1) ∧ (if codY z.1 = 81 ∨ codY z.1 = 82 then (0 : Int) else 1) ≤ 14
      split <;> decide
    · show ¬ ((if codY z.1 = 81 ∨ codY z.1 = 82 then (0 : Int) else 1) = 2 ∨ (if codY z.1 = 81 ∨ codY z.1 = 82 then (0 : Int) else 1) = 6 ∨ (if codY z.1 = 81 ∨ codY z.1 = 82 then (0 : Int) else 1) = 9 ∨ (if codY z.1 = 81 ∨ codY z.1 = 82 then (0 : Int) else 1) = 14)
      split <;> decide
    · show ¬ (if codY z.1 = 81 ∨ codY z.1 = 82 then (0 : Int) else 1) = 10
      split <;> decide
    · show (if (codY z.1 = 81 ∨ codY z.1 = 82) ∧ g = 1 then (1 : Int) else -1) = -1 ∨ (if (codY z.1 = 81 ∨ codY z.1 = 82) ∧ g = 1 then (1 : Int) else -1) = 1
      split
      · exact Or.inr rfl
      · exact Or.inl rfl
  · exact hI.rai _ h
theorem iv_lv {N : Int → Int} {I : ZS → Prop} (hI : ClX N I) : ∀ n, IvM I (eM N n) ∧ IvM I (cM N n) ∧ ∀ g, IvM I (oM N n g) := by
  intro n
  induction n with
  | zero => exact ⟨hI.rai, hI.rai, fun _ => hI.rai⟩
  | succ n ih =>
    have gE : IgM (eM N n) := (ig_lv n).1
    have gC : IgM (cM N n) := (ig_lv n).2.1
    have gJ : ∀ g, IgM (oM N n g) := (ig_lv n).2.2
    have gO : IgM (oprM N n (eM N n) (oM N n) 0) := ig_opr gE gJ 0
    have hO : ∀ g, IvM I (oprM N n (eM N n) (oM N n) g) := fun g => iv_opr hI gE gJ ih.1 ih.2.2 g
    exact ⟨iv_xps hI gO gE gC (ks_lv n).1 (hO 0) ih.1 ih.2.1, iv_chc hI gO gE gC (hO 0) ih.1 ih.2.1, hO⟩
/-- an invariant that moves and records keep is kept by an exp -/
theorem iv_e {N : Int → Int} {I : ZS → Prop} (hI : ClX N I) {n : Nat} : IvM I (eM N n) := (iv_lv hI n).1

def KX11_init_0z9 : List RI := (.putfield 63, 3, 0, 371, []) :: (.return_, 1, 0, 0, []) :: []
theorem KX11_init_0z9e : KX11_init_0z9 = (.putfield 63, 3, 0, 371, []) :: (.return_, 1, 0, 0, []) :: [] := rfl
def KX11_init_0z8 : List RI := (.aload_n 0, 1, 0, 0, []) :: (.getfield 50, 3, 0, 367, []) :: (.invokespecial 56, 3, 1, 87, []) :: (.putfield 59, 3, 0, 368, []) :: (.aload_n 0, 1, 0, 0, []) :: (.bipush (-2), 2, 0, 0, []) :: KX11_init_0z9
theorem KX11_init_0z8e : KX11_init_0z8 = (.aload_n 0, 1, 0, 0, []) :: (.getfield 50, 3, 0, 367, []) :: (.invokespecial 56, 3, 1, 87, []) :: (.putfield 59, 3, 0, 368, []) :: (.aload_n 0, 1, 0, 0, []) :: (.bipush (-2), 2, 0, 0, []) :: KX11_init_0z9 := rfl
def KX11_init_0z7 : List RI := (.getfield 24, 3, 0, 363, []) :: (.invokespecial 49, 3, 1, 0, []) :: (.putfield 50, 3, 0, 367, []) :: (.aload_n 0, 1, 0, 0, []) :: (.new 54, 3, 0, 5, []) :: (.dup, 1, 0, 0, []) :: KX11_init_0z8
theorem KX11_init_0z7e : KX11_init_0z7 = (.getfield 24, 3, 0, 363, []) :: (.invokespecial 49, 3, 1, 0, []) :: (.putfield 50, 3, 0, 367, []) :: (.aload_n 0, 1, 0, 0, []) :: (.new 54, 3, 0, 5, []) :: (.dup, 1, 0, 0, []) :: KX11_init_0z8 := rfl
def KX11_init_0z6 : List RI := (.invokespecial 42, 3, 1, 48, []) :: (.putfield 43, 3, 0, 366, []) :: (.aload_n 0, 1, 0, 0, []) :: (.new 47, 3, 0, 1, []) :: (.dup, 1, 0, 0, []) :: (.aload_n 0, 1, 0, 0, []) :: KX11_init_0z7
theorem KX11_init_0z6e : KX11_init_0z6 = (.invokespecial 42, 3, 1, 48, []) :: (.putfield 43, 3, 0, 366, []) :: (.aload_n 0, 1, 0, 0, []) :: (.new 47, 3, 0, 1, []) :: (.dup, 1, 0, 0, []) :: (.aload_n 0, 1, 0, 0, []) :: KX11_init_0z7 := rfl
def KX11_init_0z5 : List RI := (.putfield 36, 3, 0, 365, []) :: (.aload_n 0, 1, 0, 0, []) :: (.new 40, 3, 0, 4, []) :: (.dup, 1, 0, 0, []) :: (.aload_n 0, 1, 0, 0, []) :: (.getfield 24, 3, 0, 363, []) :: KX11_init_0z6
theorem KX11_init_0z5e : KX11_init_0z5 = (.putfield 36, 3, 0, 365, []) :: (.aload_n 0, 1, 0, 0, []) :: (.new 40, 3, 0, 4, []) :: (.dup, 1, 0, 0, []) :: (.aload_n 0, 1, 0, 0, []) :: (.getfield 24, 3, 0, 363, []) :: KX11_init_0z6 := rfl
def KX11_init_0z4 : List RI := (.aload_n 0, 1, 0, 0, []) :: (.new 31, 3, 0, 8, []) :: (.dup, 1, 0, 0, []) :: (.aload_n 0, 1, 0, 0, []) :: (.getfield 28, 3, 0, 364, []) :: (.invokespecial 33, 3, 1, 122, []) :: KX11_init_0z5
theorem KX11_init_0z4e : KX11_init_0z4 = (.aload_n 0, 1, 0, 0, []) :: (.new 31, 3, 0, 8, []) :: (.dup, 1, 0, 0, []) :: (.aload_n 0, 1, 0, 0, []) :: (.getfield 28, 3, 0, 364, []) :: (.invokespecial 33, 3, 1, 122, []) :: KX11_init_0z5 := rfl
def KX11_init_0z3 : List RI := (.putfield 24, 3, 0, 363, []) :: (.aload_n 0, 1, 0, 0, []) :: (.new 21, 3, 0, 7, []) :: (.dup, 1, 0, 0, []) :: (.invokespecial 23, 3, 0, 116, []) :: (.putfield 28, 3, 0, 364, []) :: KX11_init_0z4
theorem KX11_init_0z3e : KX11_init_0z3 = (.putfield 24, 3, 0, 363, []) :: (.aload_n 0, 1, 0, 0, []) :: (.new 21, 3, 0, 7, []) :: (.dup, 1, 0, 0, []) :: (.invokespecial 23, 3, 0, 116, []) :: (.putfield 28, 3, 0, 364, []) :: KX11_init_0z4 := rfl
def KX11_init_0z2 : List RI := (.newarray .long, 2, 0, 102, []) :: (.putfield 17, 3, 0, 362, []) :: (.aload_n 0, 1, 0, 0, []) :: (.new 21, 3, 0, 7, []) :: (.dup, 1, 0, 0, []) :: (.invokespecial 23, 3, 0, 116, []) :: KX11_init_0z3
theorem KX11_init_0z2e : KX11_init_0z2 = (.newarray .long, 2, 0, 102, []) :: (.putfield 17, 3, 0, 362, []) :: (.aload_n 0, 1, 0, 0, []) :: (.new 21, 3, 0, 7, []) :: (.dup, 1, 0, 0, []) :: (.invokespecial 23, 3, 0, 116, []) :: KX11_init_0z3 := rfl
def KX11_init_0z1 : List RI := (.aload_n 0, 1, 0, 0, []) :: (.bipush 40, 2, 0, 0, []) :: (.newarray .int, 2, 0, 100, []) :: (.putfield 13, 3, 0, 361, []) :: (.aload_n 0, 1, 0, 0, []) :: (.bipush 6, 2, 0, 0, []) :: KX11_init_0z2
theorem KX11_init_0z1e : KX11_init_0z1 = (.aload_n 0, 1, 0, 0, []) :: (.bipush 40, 2, 0, 0, []) :: (.newarray .int, 2, 0, 100, []) :: (.putfield 13, 3, 0, 361, []) :: (.aload_n 0, 1, 0, 0, []) :: (.bipush 6, 2, 0, 0, []) :: KX11_init_0z2 := rfl
theorem KX11_init_0e : KX11_init_0 = (.aload_n 0, 1, 0, 0, []) :: (.invokespecial 1, 3, 0, 9999, []) :: (.aload_n 0, 1, 0, 0, []) :: (.sipush 2500, 3, 0, 0, []) :: (.newarray .byte, 2, 0, 101, []) :: (.putfield 9, 3, 0, 360, []) :: KX11_init_0z1 := rfl
theorem qx_X7 {b : Nat} {v : Option Nat} {S τ : CsC} {w : Option AvC} (o : Q_X7_init [.inr (.inr (some b)), .inr (.inr v)] S w τ) : w = none ∧ ExT b [] S τ := by
  cases v with
  | none => exact o.elim
  | some p => exact ⟨o.1, o.2.2.1⟩
theorem qx_X3 {b : Nat} {v : Option Nat} {S τ : CsC} {w : Option AvC} (o : Q_X3_init [.inr (.inr (some b)), .inr (.inr v)] S w τ) : w = none ∧ ExT b [999] S τ := by
  cases v with
  | none => exact o.elim
  | some p => exact ⟨o.1, o.2.2.1⟩
theorem qx_X0 {b : Nat} {v : Option Nat} {S τ : CsC} {w : Option AvC} (o : Q_X0_init [.inr (.inr (some b)), .inr (.inr v)] S w τ) : w = none ∧ ExT b [999] S τ := by
  cases v with
  | none => exact o.elim
  | some p => exact ⟨o.1, o.2.2.1⟩
theorem qx_X4 {b : Nat} {v : Option Nat} {S τ : CsC} {w : Option AvC} (o : Q_X4_init [.inr (.inr (some b)), .inr (.inr v)] S w τ) : w = none ∧ ExT b [999] S τ := by
  cases v with
  | none => exact o.elim
  | some p => exact ⟨o.1, o.2.2.1⟩
theorem qx_X2 {b : Nat} {v : Option Nat} {S τ : CsC} {w : Option AvC} (o : Q_X2_init [.inr (.inr (some b)), .inr (.inr v)] S w τ) : w = none ∧ ExT b [999] S τ := by
  cases v with
  | none => exact o.elim
  | some p => exact ⟨o.1, o.2.2.1⟩
/-- the words stand in the program's and in the spare's Tokens -/
def W2C (τ : CsC) (p0 : Nat) : Prop := ∃ P t c P' t' c', (fRC τ p0 363 = some P ∧ fRC τ P 210 = some t ∧ fRC τ t 306 = some c ∧ ∀ k, k < 24 → (eLC τ c k).toInt = kyY (wkY.getD k [])) ∧ (fRC τ p0 364 = some P' ∧ fRC τ P' 210 = some t' ∧ fRC τ t' 306 = some c' ∧ ∀ k, k < 24 → (eLC τ c' k).toInt = kyY (wkY.getD k []))
/-- the rows of places, sizes, codes are below N -/
def RlC (N : Nat) (τ : CsC) (t : Nat) : Prop := (∀ a, fRC τ t 300 = some a → a < N) ∧ (∀ a, fRC τ t 301 = some a → a < N) ∧ (∀ a, fRC τ t 302 = some a → a < N)
theorem RlC.mk {τ : CsC} {t : Nat} (H : HIC τ) (ty : TyC τ t 10) : RlC (cnC τ) τ t := by
  obtain ⟨a, -, e, ta, -⟩ := cg300 H.1 ty
  obtain ⟨b, -, f, tb, -⟩ := cg301 H.1 ty
  obtain ⟨c, -, g, tc, -⟩ := cg302 H.1 ty
  exact ⟨fun x q => by rw [← Option.some.inj (e.symm.trans q)]; exact ta.1, fun x q => by rw [← Option.some.inj (f.symm.trans q)]; exact tb.1, fun x q => by rw [← Option.some.inj (g.symm.trans q)]; exact tc.1⟩
theorem RlC.kk {F : List Nat} {p0 P t c N : Nat} {σ τ : CsC} (h : RlC N σ t) (w : WP σ P t c) (k : Kp F p0 σ τ) (ht : tgC σ p0 = 62) : RlC N τ t := by
  have h2 := w.2.2.1.2
  have a3 := (k.2 t w.2.2.1.1 (fun q => by rw [q] at h2; omega)).2.1 (by omega)
  unfold RlC at *
  rw [a3 300 rfl, a3 301 rfl, a3 302 rfl]
  exact h
theorem NwR.kk {F : List Nat} {p0 P t c N : Nat} {σ τ : CsC} (h : NwR N σ t) (w : WP σ P t c) (k : Kp F p0 σ τ) (ht : tgC σ p0 = 62) : NwR N τ t := by
  have h2 := w.2.2.1.2
  exact h.k k w.2.2.1.1 h2 (fun q => by rw [q] at h2; omega)
theorem WP.tt {τ : CsC} {P t c : Nat} (h : WP τ P t c) : TyC τ t 10 := ⟨h.2.2.1.1, h.2.2.1.2, fun q => by cases q⟩
theorem ds_1 {t t' N : Nat} (h : t < N) (h' : N + 1 ≤ t') : t ≠ t' := by omega
theorem ds_2 {τ υ : CsC} {t t' N k : Nat} (h : ∀ a, fRC τ t k = some a → a < N) (h' : ∃ a, fRC τ t' k = some a ∧ N + 1 ≤ a) (q : ∀ y, fRC υ y k = fRC τ y k) {a a' : Nat} (e : fRC υ t k = some a) (e' : fRC υ t' k = some a') : a ≠ a' := by
  obtain ⟨b, f, g⟩ := h'
  have h1 := h a ((q t).symm.trans e)
  have h2 : b = a' := Option.some.inj (f.symm.trans ((q t').symm.trans e'))
  omega
/-- the two programs' Tokens and their rows are apart -/
def DsC (τ : CsC) (p0 : Nat) : Prop := ∀ P P' t t', fRC τ p0 363 = some P → fRC τ p0 364 = some P' → fRC τ P 210 = some t → fRC τ P' 210 = some t' → t ≠ t' ∧ ∀ k, k = 300 ∨ k = 301 ∨ k = 302 → ∀ a a', fRC τ t k = some a → fRC τ t' k = some a' → a ≠ a'
/-- the lists of methods and of variables of P, and that nothing stands there -/
def LPw (τ : CsC) (P a b : Nat) : Prop := (fRC τ P 211 = some a ∧ fRC τ P 212 = some b) ∧ ((a < cnC τ ∧ tgC τ a = 0) ∧ (b < cnC τ ∧ tgC τ b = 0)) ∧ fIC τ a 2 = 0 ∧ fIC τ b 2 = 0
theorem LPw.mk {N : Nat} {τ : CsC} {P : Nat} (H : HIC τ) (ty : TyC τ P 7) (h : NwL N τ P) : ∃ a b, LPw τ P a b ∧ N ≤ a ∧ N ≤ b := by
  obtain ⟨a, ea, na, za⟩ := h 211 (Or.inl rfl)
  obtain ⟨b, eb, nb, zb⟩ := h 212 (Or.inr rfl)
  obtain ⟨a', -, e1, t1, -⟩ := cg211 H.1 ty
  obtain rfl : a = a' := Option.some.inj (ea.symm.trans e1)
  obtain ⟨b', -, e2, t2, -⟩ := cg212 H.1 ty
  obtain rfl : b = b' := Option.some.inj (eb.symm.trans e2)
  exact ⟨a, b, ⟨⟨ea, eb⟩, ⟨⟨t1.1, t1.2.1⟩, ⟨t2.1, t2.2.1⟩⟩, za, zb⟩, na, nb⟩
theorem LPw.k {F : List Nat} {p0 P t c a b : Nat} {σ τ : CsC} (h : LPw σ P a b) (w : WP σ P t c) (k : Kp F p0 σ τ) (ht : tgC σ p0 = 62) : LPw τ P a b := by
  obtain ⟨⟨h1, h2⟩, ⟨⟨h3, h4⟩, ⟨h5, h6⟩⟩, h7, h8⟩ := h
  have w2 := w.1.2
  have kP := (k.2 P w.1.1 (fun q => by rw [q] at w2; omega)).2.1 (by omega)
  have ka := k.2 a h3 (fun q => by rw [q] at h4; omega)
  have kb := k.2 b h5 (fun q => by rw [q] at h6; omega)
  have c1 := k.1.1.1
  exact ⟨⟨(kP 211 rfl).trans h1, (kP 212 rfl).trans h2⟩, ⟨⟨by omega, ka.1.1.trans h4⟩, ⟨by omega, kb.1.1.trans h6⟩⟩, ka.2.2.2.2.trans h7, kb.2.2.2.2.trans h8⟩
/-- the two programs' lists are apart -/
def D2L (τ : CsC) (P P' : Nat) : Prop := ∀ k, k = 211 ∨ k = 212 → ∀ a a', fRC τ P k = some a → fRC τ P' k = some a' → a ≠ a'
def DlC (τ : CsC) (p0 : Nat) : Prop := ∀ P P', fRC τ p0 363 = some P → fRC τ p0 364 = some P' → D2L τ P P'
/-- nothing is told -/
def Lz0 (τ : CsC) (p0 : Nat) : Prop := ∀ P k, fRC τ p0 363 = some P → (k = 211 ∨ k = 212) → ∀ a, fRC τ P k = some a → fIC τ a 2 = 0
theorem LPw.d2 {τ υ : CsC} {P P' a b a' b' N : Nat} (h : LPw τ P a b) (h' : LPw τ P' a' b') (n1 : a < N) (n2 : b < N) (n3 : N ≤ a') (n4 : N ≤ b') (q : ∀ y k, k = 211 ∨ k = 212 → fRC υ y k = fRC τ y k) : D2L υ P P' := by
  intro k hk x x' e e'
  rcases hk with rfl | rfl
  · have z1 := Option.some.inj (h.1.1.symm.trans ((q P 211 (Or.inl rfl)).symm.trans e))
    have z2 := Option.some.inj (h'.1.1.symm.trans ((q P' 211 (Or.inl rfl)).symm.trans e'))
    omega
  · have z1 := Option.some.inj (h.1.2.symm.trans ((q P 212 (Or.inr rfl)).symm.trans e))
    have z2 := Option.some.inj (h'.1.2.symm.trans ((q P' 212 (Or.inr rfl)).symm.trans e'))
    omega
theorem LPw.z {τ υ : CsC} {P a b : Nat} (h : LPw τ P a b) (q : ∀ y k, k = 211 ∨ k = 212 → fRC υ y k = fRC τ y k) (i : ∀ y, fIC υ y 2 = fIC τ y 2) : ∀ k, k = 211 ∨ k = 212 → ∀ x, fRC υ P k = some x → fIC υ x 2 = 0 := by
  intro k hk x e
  rcases hk with rfl | rfl
  · rw [← Option.some.inj (h.1.1.symm.trans ((q P 211 (Or.inl rfl)).symm.trans e)), i]
    exact h.2.2.1
  · rw [← Option.some.inj (h.1.2.symm.trans ((q P 212 (Or.inr rfl)).symm.trans e)), i]
    exact h.2.2.2
abbrev Qp_ini11 (_y : Unit) : CqC := fun As σ w τ => match As with
  | [.inr (.inr (some p0))] => W2C τ p0 ∧ DsC τ p0 ∧ (∀ P t, fRC τ p0 363 = some P → fRC τ P 210 = some t → fIC τ t 305 = 0) ∧ DlC τ p0 ∧ Lz0 τ p0
  | _ => True
theorem p_ini11 (y : Unit) : PbC KX11_init [(116, P_X6_init, Q_X6_init), (122, P_X7_init, Q_X7_init), (48, P_X3_init, Q_X3_init), (0, P_X0_init, Q_X0_init), (87, P_X4_init, Q_X4_init)] [(116, U_ini6)] (fun As σ => P_X11_init As σ ∧ Pp_ini6 y As σ) (Qp_ini11 y) := by
  rintro As σ ⟨⟨p0, rfl, H0, hr, -⟩, -⟩ K hB hW n
  have hp0 := hr.1
  have hF : ∀ (M : List Nat) (k : Nat), M = [] ∨ M = [999] ∨ M = [185, 995, 996, 999] → [363, 364].elem k = true → M.elem k = false := by
    intro M k hM hk
    have e : k = 363 ∨ k = 364 := by simpa using hk
    rcases e with rfl | rfl <;> rcases hM with rfl | rfl | rfl <;> rfl
  have hF1 : ∀ (M : List Nat) (k : Nat), M = [] ∨ M = [999] ∨ M = [185, 995, 996, 999] → [363].elem k = true → M.elem k = false := by
    intro M k hM hk
    have e : k = 363 := by simpa using hk
    subst e
    rcases hM with rfl | rfl | rfl <;> rfl
  change K n 0 [(0, .inr (.inr (some p0)))] [] σ
  refine hB _ _ _ _ _ (fun m1 hm1 => ?_)
  dsimp only [ucgo, ucwp, ucsC, uqC, uoC, ctC, rfd, KX11_init, KX11_init_0e, lkC, s1C, s2C, dlC, kyC, Nat.beq, rcd, rno, Nat.reduceAdd, Nat.reduceBEq, Nat.reduceDiv, List.drop, List.take, List.reverse, List.reverseAux, Int.toNat, Option.toList, List.append, List.cons_append, List.nil_append, fI_qI, fR_qI, fL_qI, fI_qL, fR_qL, fL_qL, ug363, ug364, ug367]
  have c2 : (Int32.ofInt 2500).toInt = 2500 := by decide
  intro y1_3 y2_3
  intro a4 e4 ob4 fk4
  cases e4
  dsimp only [ucgo, ucwp, ucsC, uqC, uoC, ctC, rfd, KX11_init, KX11_init_0z1e, lkC, s1C, s2C, dlC, kyC, Nat.beq, rcd, rno, Nat.reduceAdd, Nat.reduceBEq, Nat.reduceDiv, List.drop, List.take, List.reverse, List.reverseAux, Int.toNat, Option.toList, List.append, List.cons_append, List.nil_append, fI_qI, fR_qI, fL_qI, fI_qL, fR_qL, fL_qL, ug363, ug364, ug367]
  have c5 : (Int32.ofInt 40).toInt = 40 := by decide
  intro y1_6 y2_6
  intro a7 e7 ob7 fk7
  cases e7
  have c8 : (Int32.ofInt 6).toInt = 6 := by decide
  dsimp only [ucgo, ucwp, ucsC, uqC, uoC, ctC, rfd, KX11_init, KX11_init_0z2e, lkC, s1C, s2C, dlC, kyC, Nat.beq, rcd, rno, Nat.reduceAdd, Nat.reduceBEq, Nat.reduceDiv, List.drop, List.take, List.reverse, List.reverseAux, Int.toNat, Option.toList, List.append, List.cons_append, List.nil_append, fI_qI, fR_qI, fL_qI, fI_qL, fR_qL, fL_qL, ug363, ug364, ug367]
  intro y1_9 y2_9
  intro a10 e10 ob10 fk10
  cases e10
  intro w11 τ11 o11 q11
  obtain ⟨rfl, HI11, ex11, ty11, -⟩ := o11
  obtain ⟨⟨oe11, hNl1⟩, t, c, ⟨-, hN1⟩, ht, hc, hk⟩ := q11 () trivial
  obtain ⟨la, lb, hL1, -, -⟩ := LPw.mk HI11 ty11 hNl1
  have hP1 := WP.mk HI11 ty11 ht hc hk
  have kp1 : Kp [] p0 σ τ11 := ((((Kp.na (F := []) (p0 := p0) hp0).tr (Kp.p (F := []) (p0 := p0) (k := 360) rfl)).tr ((Kp.na (F := []) (p0 := p0) (by show p0 < cnC σ + 1; omega)).tr (Kp.p (F := []) (p0 := p0) (k := 361) rfl))).tr ((Kp.na (F := []) (p0 := p0) (by show p0 < cnC σ + 1 + 1; omega)).tr (Kp.p (F := []) (p0 := p0) (k := 362) rfl))).tr (Kp.ne (F := []) (p0 := p0) ex11 (fun b hb h g => oe11 b (Nat.lt_succ_of_lt hb) ((nO_t hb).1.trans h) ((nO_t hb).2.trans g)) (fun _ h => by cases h) (by show p0 < cnC σ + 1 + 1 + 1; omega) (by decide))
  have tg1 : tgC τ11 p0 = 62 := kp1.1.1.2.trans hr.2.1
  have lp1 : p0 < cnC τ11 := Nat.lt_of_lt_of_le hp0 kp1.1.1.1
  have hr1 := RlC.mk HI11 hP1.tt
  have ct1 : t < cnC τ11 := hP1.2.2.1.1
  have la1 : la < cnC τ11 + 1 := Nat.lt_succ_of_lt hL1.2.1.1.1
  have lb1 : lb < cnC τ11 + 1 := Nat.lt_succ_of_lt hL1.2.1.2.1
  dsimp only [Option.toList, List.cons_append, List.nil_append, s1C, s2C, dlC, kyC, Nat.beq, lkC, rcd, rno]
  dsimp only [ucgo, ucwp, ucsC, uqC, uoC, ctC, rfd, KX11_init, KX11_init_0z3e, lkC, s1C, s2C, dlC, kyC, Nat.beq, rcd, rno, Nat.reduceAdd, Nat.reduceBEq, Nat.reduceDiv, List.drop, List.take, List.reverse, List.reverseAux, Int.toNat, Option.toList, List.append, List.cons_append, List.nil_append, fI_qI, fR_qI, fL_qI, fI_qL, fR_qL, fL_qL, ug363, ug364, ug367]
  intro a12 e12 ob12 fk12
  cases e12
  intro w13 τ13 o13 q13
  obtain ⟨rfl, HI13, ex13, ty13, -⟩ := o13
  obtain ⟨⟨oe13, hNl2⟩, t', c', ⟨hlt', hN'⟩, ht', hc', hk'⟩ := q13 () trivial
  have hNl3 : NwL (cnC τ11 + 1) τ13 _ := hNl2
  obtain ⟨la', lb', hL2, na2, nb2⟩ := LPw.mk HI13 ty13 hNl3
  have hN2 : NwR (cnC τ11 + 1) τ13 t' := hN'
  have hlt2 : cnC τ11 + 1 ≤ t' := hlt'
  have hP2 := WP.mk HI13 ty13 ht' hc' hk'
  have kp2 := Kp.ne (F := [363]) (p0 := p0) ex13 (fun b hb h g => oe13 b (Nat.lt_succ_of_lt hb) ((nO_t hb).1.trans h) ((nO_t hb).2.trans g)) (fun k h => hF1 _ k (by first | exact Or.inl rfl | exact Or.inr (Or.inl rfl) | exact Or.inr (Or.inr rfl)) h) lp1 (by decide)
  have hP1b := (hP1.k' (Kp.p (F := []) (p0 := p0) (k := 363) rfl) tg1).k' kp2 tg1
  have tg2 : tgC τ13 p0 = 62 := kp2.1.1.2.trans tg1
  have lp2 : p0 < cnC τ13 := Nat.lt_of_lt_of_le lp1 kp2.1.1.1
  have f1 := (kp2.1.2 363 rfl).trans fR_w1
  have hr1b := (hr1.kk hP1 (Kp.p (F := []) (p0 := p0) (k := 363) rfl) tg1).kk (hP1.k' (Kp.p (F := []) (p0 := p0) (k := 363) rfl) tg1) kp2 tg1
  have hN1b := (hN1.kk hP1 (Kp.p (F := []) (p0 := p0) (k := 363) rfl) tg1).kk (hP1.k' (Kp.p (F := []) (p0 := p0) (k := 363) rfl) tg1) kp2 tg1
  have hL1b := (hL1.k hP1 (Kp.p (F := []) (p0 := p0) (k := 363) rfl) tg1).k (hP1.k' (Kp.p (F := []) (p0 := p0) (k := 363) rfl) tg1) kp2 tg1
  dsimp only [Option.toList, List.cons_append, List.nil_append, s1C, s2C, dlC, kyC, Nat.beq, lkC, rcd, rno]
  intro a14 e14 ob14 fk14
  cases e14
  dsimp only [ucgo, ucwp, ucsC, uqC, uoC, ctC, rfd, KX11_init, KX11_init_0z4e, lkC, s1C, s2C, dlC, kyC, Nat.beq, rcd, rno, Nat.reduceAdd, Nat.reduceBEq, Nat.reduceDiv, List.drop, List.take, List.reverse, List.reverseAux, Int.toNat, Option.toList, List.append, List.cons_append, List.nil_append, fI_qI, fR_qI, fL_qI, fI_qL, fR_qL, fL_qL, ug363, ug364, ug367]
  intro a15 e15 ob15
  cases e15
  intro w16 τ16 o16 q16
  obtain ⟨rfl, ex16⟩ := qx_X7 o16
  have kk16 := Kp.nx (F := [363, 364]) (p0 := p0) ex16 (by decide) (fun k h => hF _ k (by first | exact Or.inl rfl | exact Or.inr (Or.inl rfl) | exact Or.inr (Or.inr rfl)) h) lp2
  dsimp only [Option.toList, List.cons_append, List.nil_append, s1C, s2C, dlC, kyC, Nat.beq, lkC, rcd, rno]
  dsimp only [ucgo, ucwp, ucsC, uqC, uoC, ctC, rfd, KX11_init, KX11_init_0z5e, lkC, s1C, s2C, dlC, kyC, Nat.beq, rcd, rno, Nat.reduceAdd, Nat.reduceBEq, Nat.reduceDiv, List.drop, List.take, List.reverse, List.reverseAux, Int.toNat, Option.toList, List.append, List.cons_append, List.nil_append, fI_qI, fR_qI, fL_qI, fI_qL, fR_qL, fL_qL, ug363, ug364, ug367]
  intro a17 e17 ob17 fk17
  cases e17
  intro a18 e18 ob18
  cases e18
  dsimp only [ucgo, ucwp, ucsC, uqC, uoC, ctC, rfd, KX11_init, KX11_init_0z6e, lkC, s1C, s2C, dlC, kyC, Nat.beq, rcd, rno, Nat.reduceAdd, Nat.reduceBEq, Nat.reduceDiv, List.drop, List.take, List.reverse, List.reverseAux, Int.toNat, Option.toList, List.append, List.cons_append, List.nil_append, fI_qI, fR_qI, fL_qI, fI_qL, fR_qL, fL_qL, ug363, ug364, ug367]
  intro w19 τ19 o19 q19
  obtain ⟨rfl, ex19⟩ := qx_X3 o19
  have kk19 := kk16.tr ((Kp.p (F := [363, 364]) (p0 := p0) (k := 365) rfl).tr (Kp.nx (F := [363, 364]) (p0 := p0) ex19 (by decide) (fun k h => hF _ k (by first | exact Or.inl rfl | exact Or.inr (Or.inl rfl) | exact Or.inr (Or.inr rfl)) h) (Nat.lt_of_lt_of_le lp2 kk16.1.1.1)))
  dsimp only [Option.toList, List.cons_append, List.nil_append, s1C, s2C, dlC, kyC, Nat.beq, lkC, rcd, rno]
  intro a20 e20 ob20 fk20
  cases e20
  dsimp only [ucgo, ucwp, ucsC, uqC, uoC, ctC, rfd, KX11_init, KX11_init_0z7e, lkC, s1C, s2C, dlC, kyC, Nat.beq, rcd, rno, Nat.reduceAdd, Nat.reduceBEq, Nat.reduceDiv, List.drop, List.take, List.reverse, List.reverseAux, Int.toNat, Option.toList, List.append, List.cons_append, List.nil_append, fI_qI, fR_qI, fL_qI, fI_qL, fR_qL, fL_qL, ug363, ug364, ug367]
  intro a21 e21 ob21
  cases e21
  intro w22 τ22 o22 q22
  obtain ⟨rfl, ex22⟩ := qx_X0 o22
  have kk22 := kk19.tr ((Kp.p (F := [363, 364]) (p0 := p0) (k := 366) rfl).tr (Kp.nx (F := [363, 364]) (p0 := p0) ex22 (by decide) (fun k h => hF _ k (by first | exact Or.inl rfl | exact Or.inr (Or.inl rfl) | exact Or.inr (Or.inr rfl)) h) (Nat.lt_of_lt_of_le lp2 kk19.1.1.1)))
  dsimp only [Option.toList, List.cons_append, List.nil_append, s1C, s2C, dlC, kyC, Nat.beq, lkC, rcd, rno]
  intro a23 e23 ob23 fk23
  cases e23
  dsimp only [ucgo, ucwp, ucsC, uqC, uoC, ctC, rfd, KX11_init, KX11_init_0z8e, lkC, s1C, s2C, dlC, kyC, Nat.beq, rcd, rno, Nat.reduceAdd, Nat.reduceBEq, Nat.reduceDiv, List.drop, List.take, List.reverse, List.reverseAux, Int.toNat, Option.toList, List.append, List.cons_append, List.nil_append, fI_qI, fR_qI, fL_qI, fI_qL, fR_qL, fL_qL, ug363, ug364, ug367]
  intro a24 e24 ob24
  cases e24
  intro w25 τ25 o25 q25
  obtain ⟨rfl, ex25⟩ := qx_X4 o25
  have kk25 := kk22.tr ((Kp.p (F := [363, 364]) (p0 := p0) (k := 367) rfl).tr (Kp.nx (F := [363, 364]) (p0 := p0) ex25 (by decide) (fun k h => hF _ k (by first | exact Or.inl rfl | exact Or.inr (Or.inl rfl) | exact Or.inr (Or.inr rfl)) h) (Nat.lt_of_lt_of_le lp2 kk22.1.1.1)))
  dsimp only [Option.toList, List.cons_append, List.nil_append, s1C, s2C, dlC, kyC, Nat.beq, lkC, rcd, rno]
  intro a26 e26 ob26 fk26
  cases e26
  have c27 : (Int32.ofInt (-2)).toInt = -2 := by decide
  dsimp only [ucgo, ucwp, ucsC, uqC, uoC, ctC, rfd, KX11_init, KX11_init_0z9e, lkC, s1C, s2C, dlC, kyC, Nat.beq, rcd, rno, Nat.reduceAdd, Nat.reduceBEq, Nat.reduceDiv, List.drop, List.take, List.reverse, List.reverseAux, Int.toNat, Option.toList, List.append, List.cons_append, List.nil_append, fI_qI, fR_qI, fL_qI, fI_qL, fR_qL, fL_qL, ug363, ug364, ug367]
  intro a28 e28 ob28 fk28
  cases e28
  have tg3 : tgC τ25 p0 = 62 := kk25.1.1.2.trans tg2
  have hA := ((hP1b.k' (Kp.p (F := []) (p0 := p0) (k := 364) rfl) tg2).k' kk25 tg2)
  have hC := ((hP2.k' (Kp.p (F := []) (p0 := p0) (k := 364) rfl) tg2).k' kk25 tg2)
  intro τ9 we9
  have g1 := (congrFun (congrFun (we9.fR.trans fR_w4) p0) 363).trans ((fR_w2 (k := 368) (j := 363) (by decide)).trans ((kk25.1.2 363 rfl).trans  ((fR_w2 (k := 364) (j := 363) (by decide)).trans f1)))
  have g2 := (congrFun (congrFun (we9.fR.trans fR_w4) p0) 364).trans ((fR_w2 (k := 368) (j := 364) (by decide)).trans ((kk25.1.2 364 rfl).trans  fR_w1))
  have g3 := (congrFun (congrFun (we9.fR.trans fR_w4) _) 210).trans ((fR_w3 (k := 368) (j := 210) (by decide)).trans hA.2.1)
  have g4 := (congrFun (congrFun (we9.fR.trans fR_w4) _) 306).trans ((fR_w3 (k := 368) (j := 306) (by decide)).trans hA.2.2.2.1)
  have g5 := (congrFun (congrFun (we9.fR.trans fR_w4) _) 210).trans ((fR_w3 (k := 368) (j := 210) (by decide)).trans hC.2.1)
  have g6 := (congrFun (congrFun (we9.fR.trans fR_w4) _) 306).trans ((fR_w3 (k := 368) (j := 306) (by decide)).trans hC.2.2.2.1)
  have q9 : ∀ y k, k ≠ 368 → fRC τ9 y k = fRC τ25 y k := fun y k hk => (congrFun (congrFun (we9.fR.trans fR_w4) y) k).trans (fR_w3 hk)
  have hr1c := (hr1b.kk hP1b (Kp.p (F := []) (p0 := p0) (k := 364) rfl) tg2).kk (hP1b.k' (Kp.p (F := []) (p0 := p0) (k := 364) rfl) tg2) kk25 tg2
  have hN1c := (hN1b.kk hP1b (Kp.p (F := []) (p0 := p0) (k := 364) rfl) tg2).kk (hP1b.k' (Kp.p (F := []) (p0 := p0) (k := 364) rfl) tg2) kk25 tg2
  have hN2c := (hN2.kk hP2 (Kp.p (F := []) (p0 := p0) (k := 364) rfl) tg2).kk (hP2.k' (Kp.p (F := []) (p0 := p0) (k := 364) rfl) tg2) kk25 tg2
  have hL1c := (hL1b.k hP1b (Kp.p (F := []) (p0 := p0) (k := 364) rfl) tg2).k (hP1b.k' (Kp.p (F := []) (p0 := p0) (k := 364) rfl) tg2) kk25 tg2
  have hL2c := (hL2.k hP2 (Kp.p (F := []) (p0 := p0) (k := 364) rfl) tg2).k (hP2.k' (Kp.p (F := []) (p0 := p0) (k := 364) rfl) tg2) kk25 tg2
  have q9l : ∀ y k, k = 211 ∨ k = 212 → fRC τ9 y k = fRC τ25 y k := fun y k hk => q9 y k (by rcases hk with rfl | rfl <;> decide)
  have i9 : ∀ y, fIC τ9 y 2 = fIC τ25 y 2 := fun y => by
    rw [we9.fI]
    show u2C (fIC τ25) p0 371 (Int32.ofInt (-2)) y 2 = _
    exact u2C_nk (by decide)
  refine ⟨⟨_, t, c, _, t', c', ⟨g1, g3, g4, fun k hk9 => by rw [we9.eL]; exact hA.2.2.2.2.2 k hk9⟩, ⟨g2, g5, g6, fun k hk9 => by rw [we9.eL]; exact hC.2.2.2.2.2 k hk9⟩⟩, fun Q Q' u u' y1 y2 y3 y4 => ?_, fun Q u y1 y3 => ?_, fun Q Q' y1 y2 => ?_, fun Q k y1 hk x hx => ?_⟩
  · obtain rfl := Option.some.inj (g1.symm.trans y1)
    obtain rfl := Option.some.inj (g2.symm.trans y2)
    obtain rfl : t = u := Option.some.inj (g3.symm.trans y3)
    obtain rfl : t' = u' := Option.some.inj (g5.symm.trans y4)
    refine ⟨ds_1 ct1 hlt2, fun k hk a a' ha ha' => ?_⟩
    rcases hk with rfl | rfl | rfl
    · exact ds_2 hr1c.1 hN2c.1 (fun y => q9 y 300 (by decide)) ha ha'
    · exact ds_2 hr1c.2.1 hN2c.2.1 (fun y => q9 y 301 (by decide)) ha ha'
    · exact ds_2 hr1c.2.2 hN2c.2.2.1 (fun y => q9 y 302 (by decide)) ha ha'
  · obtain rfl := Option.some.inj (g1.symm.trans y1)
    obtain rfl : t = u := Option.some.inj (g3.symm.trans y3)
    rw [we9.fI]
    show u2C (fIC τ25) p0 371 (Int32.ofInt (-2)) t 305 = 0
    rw [u2C_nk (by decide)]
    exact hN1c.2.2.2
  · obtain rfl := Option.some.inj (g1.symm.trans y1)
    obtain rfl := Option.some.inj (g2.symm.trans y2)
    exact hL1c.d2 hL2c la1 lb1 na2 nb2 q9l
  · obtain rfl := Option.some.inj (g1.symm.trans y1)
    exact hL1c.z q9l i9 k hk x hx
abbrev U_ini11 : CqC := fun As σ w τ => ∀ y, Pp_ini6 y As σ → Qp_ini11 y As σ w τ
theorem n_ini11 (l : Launch) : CMetC l 13 200 P_X11_init (fun As σ w τ => Q_X11_init As σ w τ ∧ U_ini11 As σ w τ) := CMetC.of KX11_init (uc2C [(116, P_X6_init, Q_X6_init), (122, P_X7_init, Q_X7_init), (48, P_X3_init, Q_X3_init), (0, P_X0_init, Q_X0_init), (87, P_X4_init, Q_X4_init)] [(116, U_ini6)]) hX11_init (by decide) (by decide) okX11_init (cc1C (n_ini6 l) (by decide) (cc1C (m_X7_init l) (by decide) (cc1C (m_X3_init l) (by decide) (cc1C (m_X0_init l) (by decide) (cc1C (m_X4_init l) (by decide) cc0C))))) lg_X11_init (b_X11_init.and p_ini11)

theorem ug300 (σ : CsC) (a : Nat) : gtC σ a 300 = .inr (.inr (fRC σ a 300)) := rfl
theorem ug301 (σ : CsC) (a : Nat) : gtC σ a 301 = .inr (.inr (fRC σ a 301)) := rfl
theorem ug303 (σ : CsC) (a : Nat) : gtC σ a 303 = .inr (.inr (fRC σ a 303)) := rfl
theorem eI_q1 {σ : CsC} {a : Nat} {f : Nat → Int32} : eIC (qIC σ a f) a = f := u1C_eq
theorem eI_q2 {σ : CsC} {a b : Nat} {f : Nat → Int32} (h : b ≠ a) : eIC (qIC σ a f) b = eIC σ b := u1C_ne h
theorem eI_p {σ : CsC} {a k : Nat} {v : Int32} : eIC (pIC σ a k v) = eIC σ := rfl
theorem up_1 {f : Nat → Int32} {n : Nat} {v : Int32} : upd f n v n = v := by unfold upd; rw [if_pos rfl]
theorem up_2 {f : Nat → Int32} {n j : Nat} {v : Int32} (h : ¬ j = n) : upd f n v j = f j := by unfold upd; rw [if_neg h]
/-- what stands in the rows of Tokens once k tokens are cut -/
def CtI (τ : CsC) (p0 a0 a1 a2 a3 p1 : Nat) (x : TxY) (k : Nat) : Prop :=
  (fRC τ p0 300 = some a0 ∧ fRC τ p0 301 = some a1 ∧ fRC τ p0 302 = some a2 ∧ fRC τ p0 303 = some a3 ∧ fRC τ p0 307 = some p1) ∧
  ((fIC τ p0 308).toInt = x.2 ∧ (fIC τ p0 305).toInt = k) ∧
  (∀ j : Nat, (j : Int) < x.2 → (eIC τ p1 j &&& 255).toInt = x.1 j) ∧
  ∀ j : Nat, j < k → (eIC τ a0 j).toInt = atY x j ∧ (eIC τ a1 j).toInt = (oneY x (atY x j)).1 ∧ (eIC τ a2 j).toInt = (oneY x (atY x j)).2 ∧ 0 < (oneY x (atY x j)).1 ∧ atY x j < x.2
/-- the words' row -/
def W6I (τ : CsC) (p0 a6 : Nat) : Prop := fRC τ p0 306 = some a6 ∧ (a6 < cnC τ ∧ tgC τ a6 = 102 ∧ ghC τ a6 = 5) ∧ ∀ k, k < 24 → (eLC τ a6 k).toInt = kyY (wkY.getD k [])
theorem W6I.w {τ : CsC} {p0 a6 : Nat} (h : W6I τ p0 a6) : WdC τ p0 := fun c hc k hk => by
  obtain rfl : a6 = c := Option.some.inj (h.1.symm.trans hc)
  exact h.2.2 k hk
theorem W6I.x {M : List Nat} {σ τ : CsC} {p0 a6 : Nat} (h : W6I σ p0 a6) (e : ExC M σ τ) (m : M.elem 996 = false) (f : fRC τ p0 306 = fRC σ p0 306) : W6I τ p0 a6 := by
  obtain ⟨h1, ⟨h2, h3, h4⟩, h5⟩ := h
  have t := (e.2.2 a6 h2).1
  have y := (e.2.1.2.2 a6 h2 (by rw [h3, h4]; exact prC.w m)).2
  exact ⟨f.trans h1, ⟨Nat.lt_of_lt_of_le h2 e.1, t.1.trans h3, t.2.2.trans h4⟩, fun k hk => by rw [y]; exact h5 k hk⟩
theorem CtI.tx {τ : CsC} {p0 a0 a1 a2 a3 p1 : Nat} {x : TxY} {k : Nat} (h : CtI τ p0 a0 a1 a2 a3 p1 x k) (hx : okY x) : TxC τ p0 x := ⟨h.2.1.1, fun a ha j hj => by
  obtain rfl : p1 = a := Option.some.inj (h.1.2.2.2.2.symm.trans ha)
  exact h.2.2.1 j hj, hx⟩
theorem CtI.ix {τ : CsC} {p0 a0 a1 a2 a3 p1 : Nat} {x : TxY} {k : Nat} (h : CtI τ p0 a0 a1 a2 a3 p1 x k) : (fIC τ p0 305).toNatClampNeg = k := by
  have := h.2.1.2
  show (fIC τ p0 305).toInt.toNat = k
  omega
theorem CtI.fr {σ τ : CsC} {p0 a0 a1 a2 a3 p1 : Nat} {x : TxY} {k : Nat} (h : CtI σ p0 a0 a1 a2 a3 p1 x k) (f : FrC σ τ p0) (n0 : a0 ≠ a2) (n1 : a1 ≠ a2) (np : p1 ≠ a2) : CtI τ p0 a0 a1 a2 a3 p1 x k := by
  rcases f with ⟨e1, e2, e3⟩ | ⟨d, e1, e2, e3⟩
  · unfold CtI
    rw [e1, e2, e3]
    exact h
  · have e := (e3 a2 h.1.2.2.1).2
    rw [h.ix] at e
    refine ⟨by rw [e2]; exact h.1, by rw [e1]; exact h.2.1, fun j hj => ?_, fun j hj => ?_⟩
    · rw [e p1 j (fun q => np q.1)]; exact h.2.2.1 j hj
    · rw [e a0 j (fun q => n0 q.1), e a1 j (fun q => n1 q.1), e a2 j (fun q => absurd q.2 (by omega))]
      exact h.2.2.2 j hj
theorem CtI.step {τ : CsC} {p0 a0 a1 a2 a3 p1 : Nat} {x : TxY} {k n : Nat} {i r c : Int32} {f0 f1 f3 : Nat → Int32} (h : CtI τ p0 a0 a1 a2 a3 p1 x k) (h0 : (eIC τ a2 k).toInt = (oneY x (atY x k)).2) (hi : i.toInt = atY x k) (hr : r.toInt = (oneY x (atY x k)).1) (hr0 : 0 < r.toInt) (hl : atY x k < x.2) (n01 : a0 ≠ a1) (n03 : a0 ≠ a3) (n13 : a1 ≠ a3) (n20 : a2 ≠ a0) (n21 : a2 ≠ a1) (n23 : a2 ≠ a3) (np0 : p1 ≠ a0) (np1 : p1 ≠ a1) (np3 : p1 ≠ a3) (hn : n = k) (hf0 : f0 = upd (eIC τ a0) n i) (hf1 : f1 = upd (eIC (qIC τ a0 f0) a1) n r) (hc : c.toInt = k + 1) : CtI (pIC (qIC (qIC (qIC τ a0 f0) a1 f1) a3 f3) p0 305 c) p0 a0 a1 a2 a3 p1 x (k + 1) := by
  rw [hn] at hf0 hf1
  subst hf0
  subst hf1
  refine ⟨h.1, ⟨?_, ?_⟩, fun j hj => ?_, fun j hj => ?_⟩
  · show (u2C (fIC τ) p0 305 c p0 308).toInt = _
    rw [u2C_nk (by decide)]
    exact h.2.1.1
  · show (u2C (fIC τ) p0 305 c p0 305).toInt = _
    rw [u2C_eq, hc]
    omega
  · rw [eI_p, eI_q2 np3, eI_q2 np1, eI_q2 np0]
    exact h.2.2.1 j hj
  · rw [eI_p, eI_q2 n03, eI_q2 n01, eI_q1, eI_q2 n13, eI_q1, eI_q2 n23, eI_q2 n21, eI_q2 n20, eI_q2 (Ne.symm n01)]
    rcases Decidable.em (j = k) with q | q
    · subst q
      rw [up_1, up_1]
      exact ⟨hi, hr, h0, by omega, hl⟩
    · rw [up_2 q, up_2 q]
      exact h.2.2.2 j (by omega)
theorem W6I.s {τ : CsC} {p0 a6 a b c d : Nat} {f g h : Nat → Int32} {v : Int32} (q : W6I τ p0 a6) : W6I (pIC (qIC (qIC (qIC τ a f) b g) c h) d 305 v) p0 a6 := q
theorem CtI.beg {σ : CsC} {p0 a0 a1 a2 a3 p1 : Nat} {p2 : Int32} {x : TxY} (e0 : fRC σ p0 300 = some a0) (e1 : fRC σ p0 301 = some a1) (e2 : fRC σ p0 302 = some a2) (e3 : fRC σ p0 303 = some a3) (hx : x.2 = p2.toInt) (hb : ∀ j : Nat, (j : Int) < x.2 → (eIC σ p1 j &&& 255).toInt = x.1 j) : CtI (pIC (pIC (pRC σ p0 307 (some p1)) p0 308 p2) p0 305 (Int32.ofInt 0)) p0 a0 a1 a2 a3 p1 x 0 := by
  have q : ∀ k, k ≠ 307 → u2C (fRC σ) p0 307 (some p1) p0 k = fRC σ p0 k := fun k hk => u2C_nk hk
  refine ⟨⟨(q 300 (by decide)).trans e0, (q 301 (by decide)).trans e1, (q 302 (by decide)).trans e2, (q 303 (by decide)).trans e3, ?_⟩, ⟨?_, ?_⟩, hb, fun j hj => absurd hj (by omega)⟩
  · show u2C (fRC σ) p0 307 (some p1) p0 307 = _
    exact u2C_eq
  · show (u2C (u2C (fIC σ) p0 308 p2) p0 305 (Int32.ofInt 0) p0 308).toInt = _
    rw [u2C_nk (by decide), u2C_eq, hx]
  · show (u2C (u2C (fIC σ) p0 308 p2) p0 305 (Int32.ofInt 0) p0 305).toInt = _
    rw [u2C_eq]
    decide
/-- all tokens are cut: n stand there, behind them an end (84), or what is no token (85) -/
def CuC (τ : CsC) (p0 p1 : Nat) (x : TxY) (n : Nat) : Prop := n ≤ 501 ∧ ∃ a0 a1 a2 a3, CtI τ p0 a0 a1 a2 a3 p1 x n ∧ (eIC τ a0 n).toInt = atY x n ∧ (((eIC τ a2 n).toInt = 84 ∧ (x.2 ≤ atY x n ∨ 500 < n)) ∨ ((eIC τ a2 n).toInt = 85 ∧ (oneY x (atY x n)).1 ≤ 0 ∧ atY x n < x.2 ∧ n ≤ 500))
theorem CuC.we {σ τ : CsC} {p0 p1 : Nat} {x : TxY} {n : Nat} (h : CuC σ p0 p1 x n) (e : WeC σ τ) : CuC τ p0 p1 x n := by
  have e1 : fIC τ = fIC σ := by unfold fIC; rw [e.2.1]
  have e2 : fRC τ = fRC σ := by unfold fRC; rw [e.2.1]
  have e3 : eIC τ = eIC σ := by unfold eIC; rw [e.2.1]
  unfold CuC CtI at h ⊢
  rw [e1, e2, e3]
  exact h
theorem CtI.fin {τ : CsC} {p0 a0 a1 a2 a3 p1 : Nat} {x : TxY} {k n : Nat} {i v : Int32} {f0 f2 : Nat → Int32} (h : CtI τ p0 a0 a1 a2 a3 p1 x k) (hk : k ≤ 501) (hi : i.toInt = atY x k) (n20 : a2 ≠ a0) (n10 : a1 ≠ a0) (n12 : a1 ≠ a2) (np0 : p1 ≠ a0) (np2 : p1 ≠ a2) (hn : n = k) (hf0 : f0 = upd (eIC τ a0) n i) (hf2 : f2 = upd (eIC (qIC τ a0 f0) a2) n v) (hv : (v.toInt = 84 ∧ (x.2 ≤ atY x k ∨ 500 < k)) ∨ (v.toInt = 85 ∧ (oneY x (atY x k)).1 ≤ 0 ∧ atY x k < x.2 ∧ k ≤ 500)) : CuC (qIC (qIC τ a0 f0) a2 f2) p0 p1 x k := by
  rw [hn] at hf0 hf2
  subst hf0
  subst hf2
  refine ⟨hk, a0, a1, a2, a3, ⟨h.1, h.2.1, fun j hj => ?_, fun j hj => ?_⟩, ?_, ?_⟩
  · rw [eI_q2 np2, eI_q2 np0]
    exact h.2.2.1 j hj
  · have q : ¬ j = k := by omega
    rw [eI_q2 (Ne.symm n20), eI_q1, eI_q2 n12, eI_q2 n10, eI_q1, eI_q2 n20, up_2 q, up_2 q]
    exact h.2.2.2 j hj
  · rw [eI_q2 (Ne.symm n20), eI_q1, up_1]
    exact hi
  · rw [eI_q1, up_1]
    exact hv
/-- but for the rows of t and three of its fields nothing has changed -/
def FrT (σ τ : CsC) (t a0 a1 a2 a3 : Nat) : Prop := (∀ b k, ¬ (b = t ∧ (k = 305 ∨ k = 308)) → fIC τ b k = fIC σ b k) ∧ (∀ b k, ¬ (b = t ∧ k = 307) → fRC τ b k = fRC σ b k) ∧ ∀ a, a ≠ a0 → a ≠ a1 → a ≠ a2 → a ≠ a3 → eIC τ a = eIC σ a
theorem FrT.fr {σ τ υ : CsC} {t a0 a1 a2 a3 : Nat} (h : FrT σ τ t a0 a1 a2 a3) (f : FrC τ υ t) (e : fRC τ t 302 = some a2) : FrT σ υ t a0 a1 a2 a3 := by
  rcases f with ⟨e1, e2, e3⟩ | ⟨d, e1, e2, e3⟩
  · unfold FrT
    rw [e1, e2, e3]
    exact h
  · have q := (e3 a2 e).2
    unfold FrT
    rw [e1, e2]
    refine ⟨h.1, h.2.1, fun a h0 h1 h2 h3 => ?_⟩
    rw [← h.2.2 a h0 h1 h2 h3]
    exact funext (fun j => q a j (fun z => h2 z.1))
theorem FrT.st {σ τ : CsC} {t a0 a1 a2 a3 : Nat} {f0 f1 f3 : Nat → Int32} {c : Int32} (h : FrT σ τ t a0 a1 a2 a3) : FrT σ (pIC (qIC (qIC (qIC τ a0 f0) a1 f1) a3 f3) t 305 c) t a0 a1 a2 a3 := by
  refine ⟨fun b k hk => ?_, h.2.1, fun a h0 h1 h2 h3 => ?_⟩
  · rw [← h.1 b k hk]
    show u2C (fIC τ) t 305 c b k = _
    rcases Decidable.em (k = 305) with q | q
    · exact u2C_na (fun z => hk ⟨z, Or.inl q⟩)
    · exact u2C_nk q
  · rw [eI_p, eI_q2 h3, eI_q2 h1, eI_q2 h0]
    exact h.2.2 a h0 h1 h2 h3
theorem FrT.fn {σ τ : CsC} {t a0 a1 a2 a3 : Nat} {f0 f2 : Nat → Int32} (h : FrT σ τ t a0 a1 a2 a3) : FrT σ (qIC (qIC τ a0 f0) a2 f2) t a0 a1 a2 a3 := by
  refine ⟨h.1, h.2.1, fun a h0 h1 h2 h3 => ?_⟩
  rw [eI_q2 h2, eI_q2 h0]
  exact h.2.2 a h0 h1 h2 h3
theorem FrT.bg {σ : CsC} {t a0 a1 a2 a3 p1 : Nat} {p2 c : Int32} : FrT σ (pIC (pIC (pRC σ t 307 (some p1)) t 308 p2) t 305 c) t a0 a1 a2 a3 := by
  refine ⟨fun b k hk => ?_, fun b k hk => ?_, fun a _ _ _ _ => rfl⟩
  · show u2C (u2C (fIC σ) t 308 p2) t 305 c b k = _
    rcases Decidable.em (b = t) with q | q
    · rw [u2C_nk (fun z => hk ⟨q, Or.inl z⟩), u2C_nk (fun z => hk ⟨q, Or.inr z⟩)]
    · rw [u2C_na q, u2C_na q]
  · show u2C (fRC σ) t 307 (some p1) b k = _
    rcases Decidable.em (b = t) with q | q
    · exact u2C_nk (fun z => hk ⟨q, z⟩)
    · exact u2C_na q
theorem FrT.we {σ τ υ : CsC} {t a0 a1 a2 a3 : Nat} (h : FrT σ τ t a0 a1 a2 a3) (e : WeC τ υ) : FrT σ υ t a0 a1 a2 a3 := by
  have e1 : fIC υ = fIC τ := by unfold fIC; rw [e.2.1]
  have e2 : fRC υ = fRC τ := by unfold fRC; rw [e.2.1]
  have e3 : eIC υ = eIC τ := by unfold eIC; rw [e.2.1]
  unfold FrT
  rw [e1, e2, e3]
  exact h
/-- the same, by the fields of t -/
def FrA (σ τ : CsC) (t : Nat) : Prop := (∀ b k, ¬ (b = t ∧ (k = 305 ∨ k = 308)) → fIC τ b k = fIC σ b k) ∧ (∀ b k, ¬ (b = t ∧ k = 307) → fRC τ b k = fRC σ b k) ∧ ∀ a, (∀ k, k = 300 ∨ k = 301 ∨ k = 302 ∨ k = 303 → ¬ fRC σ t k = some a) → eIC τ a = eIC σ a
theorem FrT.a {σ τ : CsC} {t a0 a1 a2 a3 : Nat} (h : FrT σ τ t a0 a1 a2 a3) (e0 : fRC σ t 300 = some a0) (e1 : fRC σ t 301 = some a1) (e2 : fRC σ t 302 = some a2) (e3 : fRC σ t 303 = some a3) : FrA σ τ t :=
  ⟨h.1, h.2.1, fun a q => h.2.2 a (fun z => q 300 (Or.inl rfl) (by rw [z]; exact e0)) (fun z => q 301 (Or.inr (Or.inl rfl)) (by rw [z]; exact e1)) (fun z => q 302 (Or.inr (Or.inr (Or.inl rfl))) (by rw [z]; exact e2)) (fun z => q 303 (Or.inr (Or.inr (Or.inr rfl))) (by rw [z]; exact e3))⟩
abbrev Pp_cutText (x : TxY) : CpC := fun As σ => match As with
  | [.inr (.inr (some p0)), .inr (.inr (some p1)), .inl p2] => (cnC σ < 1000000 ∧ x.2 = p2.toInt ∧ (∀ j : Nat, (j : Int) < x.2 → (eIC σ p1 j &&& 255).toInt = x.1 j) ∧ okY x) ∧ WdC σ p0
  | _ => False
abbrev Qp_cutText (x : TxY) : CqC := fun As σ w τ => match As with
  | [.inr (.inr (some p0)), .inr (.inr (some p1)), .inl p2] => (∃ n : Nat, CuC τ p0 p1 x n) ∧ FrA σ τ p0
  | _ => True
abbrev U_behindBlanks : CqC := fun As σ w τ => ∀ x, Pp_byteAt x As σ → Qp_behindBlanks x As σ w τ
theorem p_cutText (x : TxY) : PbC KX9_cutText [(190, P_X9_behindBlanks, Q_X9_behindBlanks), (191, P_X9_cutOne, Q_X9_cutOne)] [(190, U_behindBlanks), (191, U_cutOne)] (fun As σ => P_X9_cutText As σ ∧ Pp_cutText x As σ) (Qp_cutText x) := by
  rintro As σ ⟨⟨p0, p1, p2, rfl, H0, h0, hr1, hr2, hp0, hp1⟩, hx⟩ K hB hW n
  replace hx : (cnC σ < 1000000 ∧ x.2 = p2.toInt ∧ (∀ j : Nat, (j : Int) < x.2 → (eIC σ p1 j &&& 255).toInt = x.1 j) ∧ okY x) ∧ WdC σ p0 := hx
  obtain ⟨⟨hcn, hx2, hxb, hok⟩, hwd⟩ := hx
  have hx3 := hok.2.2
  have z0 := z0I
  have hp1c := hr1.1
  obtain ⟨a0, -, ea0, ta0, -, ga0⟩ := cg300 H0.1 h0
  obtain ⟨a1, -, ea1, ta1, -, ga1⟩ := cg301 H0.1 h0
  obtain ⟨a2, -, ea2, ta2, -, ga2⟩ := cg302 H0.1 h0
  obtain ⟨a3, -, ea3, ta3, -, ga3⟩ := cg303 H0.1 h0
  obtain ⟨a6, -, ea6, ta6, -, ga6⟩ := cg306 H0.1 h0
  have n01 : a0 ≠ a1 := fun q => by rw [q, ga1] at ga0; cases ga0
  have n02 : a0 ≠ a2 := fun q => by rw [q, ga2] at ga0; cases ga0
  have n03 : a0 ≠ a3 := fun q => by rw [q, ga3] at ga0; cases ga0
  have n12 : a1 ≠ a2 := fun q => by rw [q, ga2] at ga1; cases ga1
  have n13 : a1 ≠ a3 := fun q => by rw [q, ga3] at ga1; cases ga1
  have n23 : a2 ≠ a3 := fun q => by rw [q, ga3] at ga2; cases ga2
  have hrt := hr1.2.1
  have np0 : p1 ≠ a0 := fun q => by rw [q, ta0.2.1] at hrt; cases hrt
  have np1 : p1 ≠ a1 := fun q => by rw [q, ta1.2.1] at hrt; cases hrt
  have np2 : p1 ≠ a2 := fun q => by rw [q, ta2.2.1] at hrt; cases hrt
  have np3 : p1 ≠ a3 := fun q => by rw [q, ta3.2.1] at hrt; cases hrt
  change K n 0 [(0, .inr (.inr (some p0))), (1, .inr (.inr (some p1))), (2, .inl p2)] [] σ
  have t132 : ∀ (n : Nat) (τ : CsC) (k : Nat) (g i : Int32), FrT σ τ p0 a0 a1 a2 a3 → CtI τ p0 a0 a1 a2 a3 p1 x k → k ≤ 501 → ((g.toInt = 1 ∧ (x.2 ≤ atY x k ∨ 500 < k)) ∨ (g.toInt = 0 ∧ (oneY x (atY x k)).1 ≤ 0 ∧ atY x k < x.2 ∧ k ≤ 500)) → i.toInt = atY x k → K n 132 [(0, .inr (.inr (some p0))), (3, .inl g), (4, .inl i)] [] τ := by
    intro n τ k g i hFr hI hk hg hi
    refine hB _ _ _ _ _ (fun m51 hm51 => ?_)
    dsimp only [ucgo, ucwp, ucsC, uqC, uoC, ctC, rfd, KX9_cutText, KX9_cutText_0, KX9_cutText_29, KX9_cutText_33, KX9_cutText_42, KX9_cutText_52, KX9_cutText_65, KX9_cutText_69, KX9_cutText_70, KX9_cutText_75, KX9_cutText_129, KX9_cutText_132, KX9_cutText_155, KX9_cutText_160, KX9_cutText_162, lkC, s1C, s2C, dlC, kyC, Nat.beq, rcd, rno, Nat.reduceAdd, Nat.reduceBEq, Nat.reduceDiv, List.drop, List.take, List.reverse, List.reverseAux, Int.toNat, Option.toList, List.append, List.cons_append, List.nil_append, fI_qI, fR_qI, fL_qI, fI_qL, fR_qL, fL_qL, ug300, ug301, ug302, ug303, ug305, ug308]
    intro a52 e52 ob52
    cases e52
    intro a53 e53 ob53
    cases e53
    intro a54 e54 t54 v54
    intro a55 e55 ob55
    cases e55
    intro a56 e56 ob56
    cases e56
    refine ⟨fun h57 => ?_, fun h57 => ?_⟩
    · have g57 := (eqI (x := g) (y := 0) h57 : (g : Int32).toInt = (0 : Int32).toInt)
      refine hB _ _ _ _ _ (fun m58 hm58 => ?_)
      dsimp only [ucgo, ucwp, ucsC, uqC, uoC, ctC, rfd, KX9_cutText, KX9_cutText_0, KX9_cutText_29, KX9_cutText_33, KX9_cutText_42, KX9_cutText_52, KX9_cutText_65, KX9_cutText_69, KX9_cutText_70, KX9_cutText_75, KX9_cutText_129, KX9_cutText_132, KX9_cutText_155, KX9_cutText_160, KX9_cutText_162, lkC, s1C, s2C, dlC, kyC, Nat.beq, rcd, rno, Nat.reduceAdd, Nat.reduceBEq, Nat.reduceDiv, List.drop, List.take, List.reverse, List.reverseAux, Int.toNat, Option.toList, List.append, List.cons_append, List.nil_append, fI_qI, fR_qI, fL_qI, fI_qL, fR_qL, fL_qL, ug300, ug301, ug302, ug303, ug305, ug308]
      have c59 : (Int32.ofInt 85).toInt = 85 := by decide
      refine hB _ _ _ _ _ (fun m60 hm60 => ?_)
      dsimp only [ucgo, ucwp, ucsC, uqC, uoC, ctC, rfd, KX9_cutText, KX9_cutText_0, KX9_cutText_29, KX9_cutText_33, KX9_cutText_42, KX9_cutText_52, KX9_cutText_65, KX9_cutText_69, KX9_cutText_70, KX9_cutText_75, KX9_cutText_129, KX9_cutText_132, KX9_cutText_155, KX9_cutText_160, KX9_cutText_162, lkC, s1C, s2C, dlC, kyC, Nat.beq, rcd, rno, Nat.reduceAdd, Nat.reduceBEq, Nat.reduceDiv, List.drop, List.take, List.reverse, List.reverseAux, Int.toNat, Option.toList, List.append, List.cons_append, List.nil_append, fI_qI, fR_qI, fL_qI, fI_qL, fR_qL, fL_qL, ug300, ug301, ug302, ug303, ug305, ug308]
      intro a61 e61 t61 v61
      intro τ9 we9
      obtain rfl : a0 = a54 := Option.some.inj (hI.1.1.symm.trans e54)
      obtain rfl : a2 = a61 := Option.some.inj (hI.1.2.2.1.symm.trans e61)
      show (∃ n : Nat, CuC τ9 p0 p1 x n) ∧ FrA σ τ9 p0
      exact ⟨⟨k, CuC.we (CtI.fin hI hk hi (Ne.symm n02) (Ne.symm n01) n12 np0 np2 hI.ix rfl rfl (by first | exact Or.inl ⟨by decide, by omega⟩ | exact Or.inr ⟨by decide, by omega⟩)) we9⟩, ((FrT.fn hFr).we we9).a ea0 ea1 ea2 ea3⟩
    · have g57 := (neI (x := g) (y := 0) h57 : ¬ (g : Int32).toInt = (0 : Int32).toInt)
      refine hB _ _ _ _ _ (fun m62 hm62 => ?_)
      dsimp only [ucgo, ucwp, ucsC, uqC, uoC, ctC, rfd, KX9_cutText, KX9_cutText_0, KX9_cutText_29, KX9_cutText_33, KX9_cutText_42, KX9_cutText_52, KX9_cutText_65, KX9_cutText_69, KX9_cutText_70, KX9_cutText_75, KX9_cutText_129, KX9_cutText_132, KX9_cutText_155, KX9_cutText_160, KX9_cutText_162, lkC, s1C, s2C, dlC, kyC, Nat.beq, rcd, rno, Nat.reduceAdd, Nat.reduceBEq, Nat.reduceDiv, List.drop, List.take, List.reverse, List.reverseAux, Int.toNat, Option.toList, List.append, List.cons_append, List.nil_append, fI_qI, fR_qI, fL_qI, fI_qL, fR_qL, fL_qL, ug300, ug301, ug302, ug303, ug305, ug308]
      have c63 : (Int32.ofInt 84).toInt = 84 := by decide
      refine hB _ _ _ _ _ (fun m64 hm64 => ?_)
      dsimp only [ucgo, ucwp, ucsC, uqC, uoC, ctC, rfd, KX9_cutText, KX9_cutText_0, KX9_cutText_29, KX9_cutText_33, KX9_cutText_42, KX9_cutText_52, KX9_cutText_65, KX9_cutText_69, KX9_cutText_70, KX9_cutText_75, KX9_cutText_129, KX9_cutText_132, KX9_cutText_155, KX9_cutText_160, KX9_cutText_162, lkC, s1C, s2C, dlC, kyC, Nat.beq, rcd, rno, Nat.reduceAdd, Nat.reduceBEq, Nat.reduceDiv, List.drop, List.take, List.reverse, List.reverseAux, Int.toNat, Option.toList, List.append, List.cons_append, List.nil_append, fI_qI, fR_qI, fL_qI, fI_qL, fR_qL, fL_qL, ug300, ug301, ug302, ug303, ug305, ug308]
      intro a65 e65 t65 v65
      intro τ9 we9
      obtain rfl : a0 = a54 := Option.some.inj (hI.1.1.symm.trans e54)
      obtain rfl : a2 = a65 := Option.some.inj (hI.1.2.2.1.symm.trans e65)
      show (∃ n : Nat, CuC τ9 p0 p1 x n) ∧ FrA σ τ9 p0
      exact ⟨⟨k, CuC.we (CtI.fin hI hk hi (Ne.symm n02) (Ne.symm n01) n12 np0 np2 hI.ix rfl rfl (by first | exact Or.inl ⟨by decide, by omega⟩ | exact Or.inr ⟨by decide, by omega⟩)) we9⟩, ((FrT.fn hFr).we we9).a ea0 ea1 ea2 ea3⟩
  have L29 : ∀ (n : Nat) (τ : CsC) (k : Nat) (g i : Int32), FrT σ τ p0 a0 a1 a2 a3 → CtI τ p0 a0 a1 a2 a3 p1 x k → W6I τ p0 a6 → k ≤ 501 → (g.toInt = 1 ∨ (g.toInt = 0 ∧ (oneY x (atY x k)).1 ≤ 0 ∧ atY x k < x.2 ∧ k ≤ 500)) → i.toInt = atY x k → 0 ≤ i.toInt → i.toInt ≤ x.2 → K n 29 [(0, .inr (.inr (some p0))), (3, .inl g), (4, .inl i)] [] τ := by
    intro n
    induction n using Nat.strongRecOn with
    | _ n ih =>
      intro τ k g i hFr hI hw6 hk hg hi hi0 hi1
      have h308 := hI.2.1.1
      have h305 := hI.2.1.2
      refine hB _ _ _ _ _ (fun m101 hm101 => ?_)
      dsimp only [ucgo, ucwp, ucsC, uqC, uoC, ctC, rfd, KX9_cutText, KX9_cutText_0, KX9_cutText_29, KX9_cutText_33, KX9_cutText_42, KX9_cutText_52, KX9_cutText_65, KX9_cutText_69, KX9_cutText_70, KX9_cutText_75, KX9_cutText_129, KX9_cutText_132, KX9_cutText_155, KX9_cutText_160, KX9_cutText_162, lkC, s1C, s2C, dlC, kyC, Nat.beq, rcd, rno, Nat.reduceAdd, Nat.reduceBEq, Nat.reduceDiv, List.drop, List.take, List.reverse, List.reverseAux, Int.toNat, Option.toList, List.append, List.cons_append, List.nil_append, fI_qI, fR_qI, fL_qI, fI_qL, fR_qL, fL_qL, ug300, ug301, ug302, ug303, ug305, ug308]
      refine ⟨fun h102 => ?_, fun h102 => ?_⟩
      · have g102 := (eqI (x := g) (y := 0) h102 : (g : Int32).toInt = (0 : Int32).toInt)
        exact hW _ _ _ _ _ _ (List.forall_mem_cons.2 ⟨List.Mem.head _, List.forall_mem_cons.2 ⟨List.Mem.tail _ (List.Mem.head _), List.forall_mem_cons.2 ⟨List.Mem.tail _ (List.Mem.tail _ (List.Mem.head _)), fun _ h => absurd h List.not_mem_nil⟩⟩⟩) (t132 _ _ k g i hFr hI hk (by omega) hi)
      · have g102 := (neI (x := g) (y := 0) h102 : ¬ (g : Int32).toInt = (0 : Int32).toInt)
        refine hB _ _ _ _ _ (fun m103 hm103 => ?_)
        dsimp only [ucgo, ucwp, ucsC, uqC, uoC, ctC, rfd, KX9_cutText, KX9_cutText_0, KX9_cutText_29, KX9_cutText_33, KX9_cutText_42, KX9_cutText_52, KX9_cutText_65, KX9_cutText_69, KX9_cutText_70, KX9_cutText_75, KX9_cutText_129, KX9_cutText_132, KX9_cutText_155, KX9_cutText_160, KX9_cutText_162, lkC, s1C, s2C, dlC, kyC, Nat.beq, rcd, rno, Nat.reduceAdd, Nat.reduceBEq, Nat.reduceDiv, List.drop, List.take, List.reverse, List.reverseAux, Int.toNat, Option.toList, List.append, List.cons_append, List.nil_append, fI_qI, fR_qI, fL_qI, fI_qL, fR_qL, fL_qL, ug300, ug301, ug302, ug303, ug305, ug308]
        intro a104 e104 ob104
        cases e104
        refine ⟨fun h105 => ?_, fun h105 => ?_⟩
        · have g105 := leI (x := (fIC τ p0 308)) (y := i) h105
          exact hW _ _ _ _ _ _ (List.forall_mem_cons.2 ⟨List.Mem.head _, List.forall_mem_cons.2 ⟨List.Mem.tail _ (List.Mem.head _), List.forall_mem_cons.2 ⟨List.Mem.tail _ (List.Mem.tail _ (List.Mem.head _)), fun _ h => absurd h List.not_mem_nil⟩⟩⟩) (t132 _ _ k g i hFr hI hk (by omega) hi)
        · have g105 := nleI (x := (fIC τ p0 308)) (y := i) h105
          refine hB _ _ _ _ _ (fun m106 hm106 => ?_)
          dsimp only [ucgo, ucwp, ucsC, uqC, uoC, ctC, rfd, KX9_cutText, KX9_cutText_0, KX9_cutText_29, KX9_cutText_33, KX9_cutText_42, KX9_cutText_52, KX9_cutText_65, KX9_cutText_69, KX9_cutText_70, KX9_cutText_75, KX9_cutText_129, KX9_cutText_132, KX9_cutText_155, KX9_cutText_160, KX9_cutText_162, lkC, s1C, s2C, dlC, kyC, Nat.beq, rcd, rno, Nat.reduceAdd, Nat.reduceBEq, Nat.reduceDiv, List.drop, List.take, List.reverse, List.reverseAux, Int.toNat, Option.toList, List.append, List.cons_append, List.nil_append, fI_qI, fR_qI, fL_qI, fI_qL, fR_qL, fL_qL, ug300, ug301, ug302, ug303, ug305, ug308]
          intro a107 e107 ob107
          cases e107
          have c108 : (Int32.ofInt 500).toInt = 500 := by decide
          refine ⟨fun h109 => ?_, fun h109 => ?_⟩
          · have g109 := ltI (x := (Int32.ofInt 500)) (y := (fIC τ p0 305)) h109
            exact hW _ _ _ _ _ _ (List.forall_mem_cons.2 ⟨List.Mem.head _, List.forall_mem_cons.2 ⟨List.Mem.tail _ (List.Mem.head _), List.forall_mem_cons.2 ⟨List.Mem.tail _ (List.Mem.tail _ (List.Mem.head _)), fun _ h => absurd h List.not_mem_nil⟩⟩⟩) (t132 _ _ k g i hFr hI hk (by omega) hi)
          · have g109 := nltI (x := (Int32.ofInt 500)) (y := (fIC τ p0 305)) h109
            refine hB _ _ _ _ _ (fun m110 hm110 => ?_)
            dsimp only [ucgo, ucwp, ucsC, uqC, uoC, ctC, rfd, KX9_cutText, KX9_cutText_0, KX9_cutText_29, KX9_cutText_33, KX9_cutText_42, KX9_cutText_52, KX9_cutText_65, KX9_cutText_69, KX9_cutText_70, KX9_cutText_75, KX9_cutText_129, KX9_cutText_132, KX9_cutText_155, KX9_cutText_160, KX9_cutText_162, lkC, s1C, s2C, dlC, kyC, Nat.beq, rcd, rno, Nat.reduceAdd, Nat.reduceBEq, Nat.reduceDiv, List.drop, List.take, List.reverse, List.reverseAux, Int.toNat, Option.toList, List.append, List.cons_append, List.nil_append, fI_qI, fR_qI, fL_qI, fI_qL, fR_qL, fL_qL, ug300, ug301, ug302, ug303, ug305, ug308]
            intro w111 τ111 o111 q111
            obtain ⟨r111, rfl, -, ex111, rb111⟩ := o111
            have u111 := q111 x ⟨hI.tx hok, hi0, by omega, hw6.w⟩ r111 rfl
            rw [hi] at u111
            have hFr2 := hFr.fr u111.2.2 hI.1.2.2.1
            have hI2 := hI.fr u111.2.2 n02 n12 np2
            have hw2 : W6I τ111 p0 a6 := hw6.x ex111 (by decide) (by rcases u111.2.2 with y | ⟨d, y⟩ <;> rw [y.2.1])
            have y305 := hI2.2.1.2
            have u1 := u111.1
            dsimp only [Option.toList, List.cons_append, List.nil_append, s1C, s2C, dlC, kyC, Nat.beq, lkC, rcd, rno]
            refine ⟨fun h112 => ?_, fun h112 => ?_⟩
            · have g112 := leI (x := r111) (y := 0) h112
              refine hB _ _ _ _ _ (fun m113 hm113 => ?_)
              dsimp only [ucgo, ucwp, ucsC, uqC, uoC, ctC, rfd, KX9_cutText, KX9_cutText_0, KX9_cutText_29, KX9_cutText_33, KX9_cutText_42, KX9_cutText_52, KX9_cutText_65, KX9_cutText_69, KX9_cutText_70, KX9_cutText_75, KX9_cutText_129, KX9_cutText_132, KX9_cutText_155, KX9_cutText_160, KX9_cutText_162, lkC, s1C, s2C, dlC, kyC, Nat.beq, rcd, rno, Nat.reduceAdd, Nat.reduceBEq, Nat.reduceDiv, List.drop, List.take, List.reverse, List.reverseAux, Int.toNat, Option.toList, List.append, List.cons_append, List.nil_append, fI_qI, fR_qI, fL_qI, fI_qL, fR_qL, fL_qL, ug300, ug301, ug302, ug303, ug305, ug308]
              have c114 : (Int32.ofInt 0).toInt = 0 := by decide
              refine hB _ _ _ _ _ (fun m115 hm115 => ?_)
              dsimp only [ucgo, ucwp, ucsC, uqC, uoC, ctC, rfd, KX9_cutText, KX9_cutText_0, KX9_cutText_29, KX9_cutText_33, KX9_cutText_42, KX9_cutText_52, KX9_cutText_65, KX9_cutText_69, KX9_cutText_70, KX9_cutText_75, KX9_cutText_129, KX9_cutText_132, KX9_cutText_155, KX9_cutText_160, KX9_cutText_162, lkC, s1C, s2C, dlC, kyC, Nat.beq, rcd, rno, Nat.reduceAdd, Nat.reduceBEq, Nat.reduceDiv, List.drop, List.take, List.reverse, List.reverseAux, Int.toNat, Option.toList, List.append, List.cons_append, List.nil_append, fI_qI, fR_qI, fL_qI, fI_qL, fR_qL, fL_qL, ug300, ug301, ug302, ug303, ug305, ug308]
              refine ⟨fun h116 => ?_, fun h116 => ?_⟩
              · have g116 := (eqI (x := (Int32.ofInt 0)) (y := 0) h116 : ((Int32.ofInt 0) : Int32).toInt = (0 : Int32).toInt)
                refine hB _ _ _ _ _ (fun m117 hm117 => ?_)
                dsimp only [ucgo, ucwp, ucsC, uqC, uoC, ctC, rfd, KX9_cutText, KX9_cutText_0, KX9_cutText_29, KX9_cutText_33, KX9_cutText_42, KX9_cutText_52, KX9_cutText_65, KX9_cutText_69, KX9_cutText_70, KX9_cutText_75, KX9_cutText_129, KX9_cutText_132, KX9_cutText_155, KX9_cutText_160, KX9_cutText_162, lkC, s1C, s2C, dlC, kyC, Nat.beq, rcd, rno, Nat.reduceAdd, Nat.reduceBEq, Nat.reduceDiv, List.drop, List.take, List.reverse, List.reverseAux, Int.toNat, Option.toList, List.append, List.cons_append, List.nil_append, fI_qI, fR_qI, fL_qI, fI_qL, fR_qL, fL_qL, ug300, ug301, ug302, ug303, ug305, ug308]
                exact hW _ _ _ _ _ _ (List.forall_mem_cons.2 ⟨List.Mem.tail _ (List.Mem.tail _ (List.Mem.head _)), List.forall_mem_cons.2 ⟨List.Mem.head _, List.forall_mem_cons.2 ⟨List.Mem.tail _ (List.Mem.tail _ (List.Mem.tail _ (List.Mem.head _))), fun _ h => absurd h List.not_mem_nil⟩⟩⟩) (ih _ (by omega) _ k (Int32.ofInt 0) i hFr2 hI2 hw2 hk (Or.inr ⟨by decide, by omega, by omega, by omega⟩) hi hi0 hi1)
              · have g116 := (neI (x := (Int32.ofInt 0)) (y := 0) h116 : ¬ ((Int32.ofInt 0) : Int32).toInt = (0 : Int32).toInt)
                exfalso
                omega
            · have g112 := nleI (x := r111) (y := 0) h112
              refine hB _ _ _ _ _ (fun m118 hm118 => ?_)
              dsimp only [ucgo, ucwp, ucsC, uqC, uoC, ctC, rfd, KX9_cutText, KX9_cutText_0, KX9_cutText_29, KX9_cutText_33, KX9_cutText_42, KX9_cutText_52, KX9_cutText_65, KX9_cutText_69, KX9_cutText_70, KX9_cutText_75, KX9_cutText_129, KX9_cutText_132, KX9_cutText_155, KX9_cutText_160, KX9_cutText_162, lkC, s1C, s2C, dlC, kyC, Nat.beq, rcd, rno, Nat.reduceAdd, Nat.reduceBEq, Nat.reduceDiv, List.drop, List.take, List.reverse, List.reverseAux, Int.toNat, Option.toList, List.append, List.cons_append, List.nil_append, fI_qI, fR_qI, fL_qI, fI_qL, fR_qL, fL_qL, ug300, ug301, ug302, ug303, ug305, ug308]
              have c119 : (Int32.ofInt 1).toInt = 1 := by decide
              refine hB _ _ _ _ _ (fun m120 hm120 => ?_)
              dsimp only [ucgo, ucwp, ucsC, uqC, uoC, ctC, rfd, KX9_cutText, KX9_cutText_0, KX9_cutText_29, KX9_cutText_33, KX9_cutText_42, KX9_cutText_52, KX9_cutText_65, KX9_cutText_69, KX9_cutText_70, KX9_cutText_75, KX9_cutText_129, KX9_cutText_132, KX9_cutText_155, KX9_cutText_160, KX9_cutText_162, lkC, s1C, s2C, dlC, kyC, Nat.beq, rcd, rno, Nat.reduceAdd, Nat.reduceBEq, Nat.reduceDiv, List.drop, List.take, List.reverse, List.reverseAux, Int.toNat, Option.toList, List.append, List.cons_append, List.nil_append, fI_qI, fR_qI, fL_qI, fI_qL, fR_qL, fL_qL, ug300, ug301, ug302, ug303, ug305, ug308]
              refine ⟨fun h121 => ?_, fun h121 => ?_⟩
              · have g121 := (eqI (x := (Int32.ofInt 1)) (y := 0) h121 : ((Int32.ofInt 1) : Int32).toInt = (0 : Int32).toInt)
                exfalso
                omega
              · have g121 := (neI (x := (Int32.ofInt 1)) (y := 0) h121 : ¬ ((Int32.ofInt 1) : Int32).toInt = (0 : Int32).toInt)
                refine hB _ _ _ _ _ (fun m122 hm122 => ?_)
                dsimp only [ucgo, ucwp, ucsC, uqC, uoC, ctC, rfd, KX9_cutText, KX9_cutText_0, KX9_cutText_29, KX9_cutText_33, KX9_cutText_42, KX9_cutText_52, KX9_cutText_65, KX9_cutText_69, KX9_cutText_70, KX9_cutText_75, KX9_cutText_129, KX9_cutText_132, KX9_cutText_155, KX9_cutText_160, KX9_cutText_162, lkC, s1C, s2C, dlC, kyC, Nat.beq, rcd, rno, Nat.reduceAdd, Nat.reduceBEq, Nat.reduceDiv, List.drop, List.take, List.reverse, List.reverseAux, Int.toNat, Option.toList, List.append, List.cons_append, List.nil_append, fI_qI, fR_qI, fL_qI, fI_qL, fR_qL, fL_qL, ug300, ug301, ug302, ug303, ug305, ug308]
                intro a123 e123 ob123
                cases e123
                intro a124 e124 ob124
                cases e124
                intro a125 e125 t125 v125
                intro a126 e126 ob126
                cases e126
                intro a127 e127 ob127
                cases e127
                intro a128 e128 t128 v128
                intro a129 e129 ob129
                cases e129
                intro a130 e130 ob130
                cases e130
                have c131 : (Int32.ofInt (-2)).toInt = -2 := by decide
                intro a132 e132 t132 v132
                intro a133 e133 ob133
                cases e133
                have c134 : (Int32.ofInt 1).toInt = 1 := by decide
                have a135 : ((fIC τ111 p0 305) + (Int32.ofInt 1)).toInt = (fIC τ111 p0 305).toInt + 1 := addC (by omega) (by omega) (by omega)
                intro a136 e136 ob136 fk136
                cases e136
                have a137 : (i + r111).toInt = i.toInt + r111.toInt := addC (by omega) (by omega) (by omega)
                intro w138 τ138 o138 q138
                obtain rfl : a0 = a125 := Option.some.inj (hI2.1.1.symm.trans e125)
                obtain rfl : a1 = a128 := Option.some.inj (hI2.1.2.1.symm.trans e128)
                obtain rfl : a3 = a132 := Option.some.inj (hI2.1.2.2.2.1.symm.trans e132)
                have y2 := (u111.2.1 (by omega)).2.2
                rw [hI.ix] at y2
                obtain ⟨r138, rfl, rfl, s1_138, s2_138, -⟩ := o138
                have b138 : r138.toInt = skY x (i + r111).toInt := q138 x (CtI.tx (CtI.step hI2 ((y2 a2 hI.1.2.2.1).1) hi u1 (by omega) (by omega) n01 n03 n13 (Ne.symm n02) (Ne.symm n12) n23 np0 np1 np3 hI2.ix rfl rfl (by omega)) hok) r138 rfl
                have hat : r138.toInt = atY x (k + 1) := by
                  rw [b138]
                  show skY x _ = skY x (atY x k + (oneY x (atY x k)).1)
                  congr 1
                  omega
                dsimp only [Option.toList, List.cons_append, List.nil_append, s1C, s2C, dlC, kyC, Nat.beq, lkC, rcd, rno]
                refine hB _ _ _ _ _ (fun m139 hm139 => ?_)
                dsimp only [ucgo, ucwp, ucsC, uqC, uoC, ctC, rfd, KX9_cutText, KX9_cutText_0, KX9_cutText_29, KX9_cutText_33, KX9_cutText_42, KX9_cutText_52, KX9_cutText_65, KX9_cutText_69, KX9_cutText_70, KX9_cutText_75, KX9_cutText_129, KX9_cutText_132, KX9_cutText_155, KX9_cutText_160, KX9_cutText_162, lkC, s1C, s2C, dlC, kyC, Nat.beq, rcd, rno, Nat.reduceAdd, Nat.reduceBEq, Nat.reduceDiv, List.drop, List.take, List.reverse, List.reverseAux, Int.toNat, Option.toList, List.append, List.cons_append, List.nil_append, fI_qI, fR_qI, fL_qI, fI_qL, fR_qL, fL_qL, ug300, ug301, ug302, ug303, ug305, ug308]
                have sk1 := sk_le (x := x) (i := atY x k + (oneY x (atY x k)).1) (by have := one_le (x := x) (i := atY x k) (by omega) (by omega); omega)
                exact hW _ _ _ _ _ _ (List.forall_mem_cons.2 ⟨List.Mem.tail _ (List.Mem.tail _ (List.Mem.tail _ (List.Mem.head _))), List.forall_mem_cons.2 ⟨List.Mem.tail _ (List.Mem.head _), List.forall_mem_cons.2 ⟨List.Mem.head _, fun _ h => absurd h List.not_mem_nil⟩⟩⟩) (ih _ (by omega) _ (k + 1) (Int32.ofInt 1) r138 (FrT.st hFr2) (CtI.step hI2 ((y2 a2 hI.1.2.2.1).1) hi u1 (by omega) (by omega) n01 n03 n13 (Ne.symm n02) (Ne.symm n12) n23 np0 np1 np3 hI2.ix rfl rfl (by omega)) (W6I.s hw2) (by omega) (Or.inl (by decide)) hat (by omega) (by rw [hat]; exact sk1.2))
  refine hB _ _ _ _ _ (fun m301 hm301 => ?_)
  dsimp only [ucgo, ucwp, ucsC, uqC, uoC, ctC, rfd, KX9_cutText, KX9_cutText_0, KX9_cutText_29, KX9_cutText_33, KX9_cutText_42, KX9_cutText_52, KX9_cutText_65, KX9_cutText_69, KX9_cutText_70, KX9_cutText_75, KX9_cutText_129, KX9_cutText_132, KX9_cutText_155, KX9_cutText_160, KX9_cutText_162, lkC, s1C, s2C, dlC, kyC, Nat.beq, rcd, rno, Nat.reduceAdd, Nat.reduceBEq, Nat.reduceDiv, List.drop, List.take, List.reverse, List.reverseAux, Int.toNat, Option.toList, List.append, List.cons_append, List.nil_append, fI_qI, fR_qI, fL_qI, fI_qL, fR_qL, fL_qL, ug300, ug301, ug302, ug303, ug305, ug308]
  intro a302 e302 ob302 fk302
  cases e302
  intro a303 e303
  cases e303
  refine ⟨fun l1_303 l2_303 l3_303 l4_303 => ?_, fun n303 l5_303 => absurd l5_303 (by omega)⟩
  intro a305 e305 ob305 fk305
  cases e305
  have c306 : (Int32.ofInt 0).toInt = 0 := by decide
  intro a307 e307 ob307 fk307
  cases e307
  have c308 : (Int32.ofInt 1).toInt = 1 := by decide
  have c309 : (Int32.ofInt 0).toInt = 0 := by decide
  intro w310 τ310 o310 q310
  obtain ⟨r310, rfl, rfl, -⟩ := o310
  dsimp only [Option.toList, List.cons_append, List.nil_append, s1C, s2C, dlC, kyC, Nat.beq, lkC, rcd, rno]
  have m0 : (if nI (alC (pRC σ p0 307 (some p1)) p1) < p2 then nI (alC (pRC σ p0 307 (some p1)) p1) else p2) = p2 := if_neg (fun q => by
    have y := ltI q
    rw [show alC (pRC σ p0 307 (some p1)) p1 = 2500 from hr2, show (nI 2500).toInt = 2500 from by decide] at y
    omega)
  rw [m0] at q310 ⊢
  have hI0 : CtI (pIC (pIC (pRC σ p0 307 (some p1)) p0 308 p2) p0 305 (Int32.ofInt 0)) p0 a0 a1 a2 a3 p1 x 0 := CtI.beg ea0 ea1 ea2 ea3 hx2 hxb
  have b9 : r310.toInt = skY x 0 := (q310 x (hI0.tx hok) r310 rfl).trans (by rw [show (Int32.ofInt 0).toInt = 0 from by decide])
  have sk0 := sk_le (x := x) (i := 0) (by omega)
  exact hW _ _ _ _ _ _ (List.forall_mem_cons.2 ⟨List.Mem.tail _ (List.Mem.tail _ (List.Mem.head _)), List.forall_mem_cons.2 ⟨List.Mem.tail _ (List.Mem.head _), List.forall_mem_cons.2 ⟨List.Mem.head _, fun _ h => absurd h List.not_mem_nil⟩⟩⟩) (L29 _ _ 0 (Int32.ofInt 1) r310 FrT.bg hI0 ⟨(by show u2C (fRC σ) p0 307 (some p1) p0 306 = _; rw [u2C_nk (by decide)]; exact ea6), ⟨ta6.1, ta6.2.1, ga6⟩, fun k hk => hwd a6 ea6 k hk⟩ (by omega) (Or.inl (by decide)) b9 (by omega) (by omega))
abbrev U_cutText : CqC := fun As σ w τ => ∀ x, Pp_cutText x As σ → Qp_cutText x As σ w τ
theorem n_cutText (l : Launch) : CMetC l 14 188 P_X9_cutText (fun As σ w τ => Q_X9_cutText As σ w τ ∧ U_cutText As σ w τ) := CMetC.of KX9_cutText (uc2C [(190, P_X9_behindBlanks, Q_X9_behindBlanks), (191, P_X9_cutOne, Q_X9_cutOne)] [(190, U_behindBlanks), (191, U_cutOne)]) hX9_cutText (by decide) (by decide) okX9_cutText (cc1C (n_behindBlanks l) (by decide) (cc1C (n_cutOne l) (by decide) cc0C)) lg_X9_cutText (b_X9_cutText.and p_cutText)

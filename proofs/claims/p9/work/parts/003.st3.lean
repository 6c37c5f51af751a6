theorem ug365 (σ : CsC) (a : Nat) : gtC σ a 365 = .inr (.inr (fRC σ a 365)) := rfl
theorem ug366 (σ : CsC) (a : Nat) : gtC σ a 366 = .inr (.inr (fRC σ a 366)) := rfl
theorem ug217 (σ : CsC) (a : Nat) : gtC σ a 217 = .inl (fIC σ a 217) := rfl
theorem qx_X3_judgeProgram {b : Nat} {v : Option Nat} {S τ : CsC} {w : Option AvC} (o : Q_X3_judgeProgram [.inr (.inr (some b)), .inr (.inr v)] S w τ) : w = none ∧ ExC [67, 68, 69, 70, 90, 94, 121, 217, 218, 281, 282, 283, 284, 335] S τ := by sorry
theorem qx_X0_lay {b : Nat} {v : Option Nat} {S τ : CsC} {w : Option AvC} (o : Q_X0_lay [.inr (.inr (some b)), .inr (.inr v)] S w τ) : w = none ∧ ExC [34, 35, 36, 77, 289, 290] S τ := by sorry
/-- the tokens of a text, as the class has them -/
def TkS (x : TxY) (s : SpC) (n : Nat) : Prop := n ≤ 501 ∧ (∀ j, j < n → zK s j = (oneY x (atY x j)).2 ∧ zL s j = atY x j ∧ 0 < (oneY x (atY x j)).1 ∧ atY x j < x.2) ∧ zL s n = atY x n ∧ ((zK s n = 84 ∧ (x.2 ≤ atY x n ∨ 500 < n)) ∨ (zK s n = 85 ∧ (oneY x (atY x n)).1 ≤ 0 ∧ atY x n < x.2 ∧ n ≤ 500))
theorem TkS.mk {τ : CsC} {b t p2 n : Nat} {x : TxY} {s : SpC} (h : CuC τ t p2 x n) (f : fRC τ b 241 = some t) (r : ReC τ b (prlY 11 s)) : TkS x s n := by sorry
/-- the words stand in both programs' Tokens, with what is known of their places -/
def W2T (τ : CsC) (p0 P t c P' t' c' : Nat) : Prop := (p0 < cnC τ ∧ tgC τ p0 = 12) ∧ (fRC τ p0 363 = some P ∧ fRC τ p0 364 = some P') ∧ WP τ P t c ∧ WP τ P' t' c'
def KpW (σ τ : CsC) : Prop := cnC σ ≤ cnC τ ∧ ∀ b, b < cnC σ → (tgC τ b = tgC σ b ∧ ghC τ b = ghC σ b) ∧ (tgC σ b < 13 → ∀ k, finC k = true → fRC τ b k = fRC σ b k) ∧ (tgC σ b = 102 → ghC σ b = 5 → eLC τ b = eLC σ b)
theorem Kp.wk {M : List Nat} {σ τ : CsC} (e : ExC M σ τ) (m : M.elem 996 = false) : KpW σ τ := by sorry
theorem WP.ty {τ : CsC} {P t c : Nat} (h : WP τ P t c) : TyC τ P 7 := ⟨h.1.1, h.1.2, fun q => by cases q⟩
theorem WP.x {M : List Nat} {σ τ : CsC} {P t c : Nat} (h : WP σ P t c) (e : ExC M σ τ) (m : M.elem 996 = false) : WP τ P t c := by sorry
theorem W2T.x {M : List Nat} {σ τ : CsC} {p0 P t c P' t' c' : Nat} (h : W2T σ p0 P t c P' t' c') (e : ExC M σ τ) (m : M.elem 996 = false ∧ M.elem 363 = false ∧ M.elem 364 = false) : W2T τ p0 P t c P' t' c' := by sorry
theorem W2T.c {τ : CsC} {p0 P t c P' t' c' : Nat} (h : W2T τ p0 P t c P' t' c') : W2C τ p0 := by sorry
theorem W2C.t {τ : CsC} {p0 : Nat} (h : W2C τ p0) (H : HIC τ) (ty : TyC τ p0 12) : ∃ P t c P' t' c', W2T τ p0 P t c P' t' c' := by sorry
/-- the two programs change places -/
theorem W2T.sw {τ : CsC} {p0 P t c P' t' c' : Nat} (h : W2T τ p0 P t c P' t' c') : W2T (pRC (pRC τ p0 363 (some P')) p0 364 (some P)) p0 P' t' c' P t c := by sorry
/-- two Tokens and their rows are apart -/
def D2C (τ : CsC) (t t' : Nat) : Prop := t ≠ t' ∧ ∀ k, k = 300 ∨ k = 301 ∨ k = 302 → ∀ a a', fRC τ t k = some a → fRC τ t' k = some a' → a ≠ a'
theorem D2C.sy {τ : CsC} {t t' : Nat} (h : D2C τ t t') : D2C τ t' t := by sorry
theorem D2C.of {σ τ : CsC} {t t' : Nat} (h : D2C σ t t') (e : ∀ b, b = t ∨ b = t' → ∀ k, k = 300 ∨ k = 301 ∨ k = 302 → fRC τ b k = fRC σ b k) : D2C τ t t' := by sorry
theorem D2C.x {M : List Nat} {σ τ : CsC} {t t' : Nat} (h : D2C σ t t') (e : ExC M σ τ) (m : M.elem 300 = false ∧ M.elem 301 = false ∧ M.elem 302 = false) (h1 : t < cnC σ) (h2 : t' < cnC σ) : D2C τ t t' := by sorry
theorem D2C.pr {σ : CsC} {t t' a k : Nat} {v : Option Nat} (h : D2C σ t t') (h0 : 302 < k) : D2C (pRC σ a k v) t t' := h.of (fun b _ j hj => fR_w3 (by omega))
theorem DsC.d {τ : CsC} {p0 P t c P' t' c' : Nat} (h : DsC τ p0) (w : W2T τ p0 P t c P' t' c') : D2C τ t t' := h P P' t t' w.2.1.1 w.2.1.2 w.2.2.1.2.1 w.2.2.2.2.1
theorem D2C.ds {τ : CsC} {p0 P t c P' t' c' : Nat} (h : D2C τ t t') (w : W2T τ p0 P t c P' t' c') : DsC τ p0 := by sorry
theorem ApC.mk {σ : CsC} {t t' : Nat} (H : HIC σ) (ty : TyC σ t 10) (ty' : TyC σ t' 10) (d : D2C σ t t') : ApC σ t' t := by sorry
theorem D2C.sw2 {τ : CsC} {p0 t t' : Nat} {u v w : Int32} {v1 v2 : Option Nat} (h : D2C τ t t') : D2C (pIC (pIC (pRC (pRC (pIC τ p0 369 u) p0 363 v1) p0 364 v2) p0 371 v) p0 372 w) t t' := by sorry
theorem RwU.sw2 {τ : CsC} {p0 t : Nat} {u v w : Int32} {v1 v2 : Option Nat} (h : RwU τ t) : RwU (pIC (pIC (pRC (pRC (pIC τ p0 369 u) p0 363 v1) p0 364 v2) p0 371 v) p0 372 w) t := by sorry
theorem TnK.sw2 {τ : CsC} {p0 t n : Nat} {y : TxY} {u v w : Int32} {v1 v2 : Option Nat} (h : TnK τ t y n) : TnK (pIC (pIC (pRC (pRC (pIC τ p0 369 u) p0 363 v1) p0 364 v2) p0 371 v) p0 372 w) t y n := by sorry
/-- the tokens of the text y stand in the program that stands -/
def TcP (τ : CsC) (p0 : Nat) (y : TxY) (m : Nat) : Prop := ∃ P t, fRC τ p0 363 = some P ∧ fRC τ P 210 = some t ∧ TnK τ t y m
/-- the methods and variables of the program that stands -/
def LcP (τ : CsC) (p0 : Nat) (z : LzY) : Prop := ∃ P a b, fRC τ p0 363 = some P ∧ LsT τ P a b z
theorem WP.pg {τ : CsC} {P t c : Nat} (h : WP τ P t c) : PgT τ P := h.1
theorem LfT.mk {τ : CsC} {P : Nat} (H : HIC τ) (ty : TyC τ P 7) : ∃ a b, LfT τ P a b := by sorry
theorem D2L.of {σ τ : CsC} {P P' : Nat} (h : D2L σ P P') (e : ∀ b, b = P ∨ b = P' → ∀ k, k = 211 ∨ k = 212 → fRC τ b k = fRC σ b k) : D2L τ P P' := by sorry
theorem D2L.sy {τ : CsC} {P P' : Nat} (h : D2L τ P P') : D2L τ P' P := fun k hk a a' e e' q => h k hk a' a e' e q.symm
theorem D2L.x {M : List Nat} {σ τ : CsC} {P P' : Nat} (h : D2L σ P P') (e : ExC M σ τ) (p : PgT σ P) (p' : PgT σ P') : D2L τ P P' := by sorry
theorem D2L.sw2 {τ : CsC} {p0 P P' : Nat} {u v w : Int32} {v1 v2 : Option Nat} (h : D2L τ P P') : D2L (pIC (pIC (pRC (pRC (pIC τ p0 369 u) p0 363 v1) p0 364 v2) p0 371 v) p0 372 w) P P' := by sorry
theorem DlC.d {τ : CsC} {p0 P t c P' t' c' : Nat} (h : DlC τ p0) (w : W2T τ p0 P t c P' t' c') : D2L τ P P' := h P P' w.2.1.1 w.2.1.2
theorem D2L.ds {τ : CsC} {p0 P t c P' t' c' : Nat} (h : D2L τ P P') (w : W2T τ p0 P t c P' t' c') : DlC τ p0 := by sorry
theorem LsT.sw2 {τ : CsC} {p0 P a b : Nat} {z : LzY} {u v w : Int32} {v1 v2 : Option Nat} (h : LsT τ P a b z) : LsT (pIC (pIC (pRC (pRC (pIC τ p0 369 u) p0 363 v1) p0 364 v2) p0 371 v) p0 372 w) P a b z := by sorry
theorem PgT.sw2 {τ : CsC} {p0 P : Nat} {u v w : Int32} {v1 v2 : Option Nat} (h : PgT τ P) : PgT (pIC (pIC (pRC (pRC (pIC τ p0 369 u) p0 363 v1) p0 364 v2) p0 371 v) p0 372 w) P := h
theorem W2T.sw2 {τ : CsC} {p0 P t c P' t' c' : Nat} {u v w : Int32} (h : W2T τ p0 P t c P' t' c') : W2T (pIC (pIC (pRC (pRC (pIC τ p0 369 u) p0 363 (fRC (pIC τ p0 369 u) p0 364)) p0 364 (fRC (pIC τ p0 369 u) p0 363)) p0 371 v) p0 372 w) p0 P' t' c' P t c := by sorry
/-- the number of methods -/
def MsI (τ : CsC) (P ml : Nat) (N : Int) : Prop := (P < cnC τ ∧ ml < cnC τ) ∧ fRC τ P 211 = some ml ∧ (fIC τ ml 2).toInt = N
theorem MsI.x {M : List Nat} {σ τ : CsC} {P ml : Nat} {N : Int} (h : MsI σ P ml N) (e : ExC M σ τ) (m : M.elem 211 = false ∧ M.elem 2 = false) : MsI τ P ml N := by sorry
theorem MsI.pr {σ : CsC} {P ml a k : Nat} {N : Int} {v : Option Nat} (h : MsI σ P ml N) (hk : 211 ≠ k) : MsI (pRC σ a k v) P ml N := ⟨h.1, (fR_w3 hk).trans h.2.1, h.2.2⟩
theorem MsI.pi {σ : CsC} {P ml a k : Nat} {N : Int} {v : Int32} (h : MsI σ P ml N) (hk : 2 ≠ k) : MsI (pIC σ a k v) P ml N := by sorry
theorem rd_b {r : Int32} {z a : Int} (h : r.toInt = z) (g : ¬ r.toInt = (0 : Int32).toInt) (e : a = (-10) - r.toInt) : ¬ z = 0 ∧ a = -10 - z := by sorry
theorem rd_g {r : Int32} {z : Int} (h : r.toInt = z) (g : r.toInt = (0 : Int32).toInt) : z = 0 := by sorry
abbrev Pp_read (z : TxY × TxY × Nat × LzY) : CpC := fun As σ => match As with
  | [.inr (.inr (some p0))] => (cnC σ < 1000000 ∧ z.1.2 = (fIC σ p0 369).toInt ∧ (∀ c, fRC σ p0 360 = some c → ∀ j : Nat, (j : Int) < z.1.2 → (eIC σ c j &&& 255).toInt = z.1.1 j) ∧ okY z.1) ∧ W2C σ p0 ∧ DsC σ p0 ∧ TcP σ p0 z.2.1 z.2.2.1 ∧ DlC σ p0 ∧ LcP σ p0 z.2.2.2
  | _ => False
abbrev Qp_read (z : TxY × TxY × Nat × LzY) : CqC := fun As σ w τ => match As with
  | [.inr (.inr (some p0))] => ∀ r, w = some (.inl r) → (W2C τ p0 ∧ DsC τ p0 ∧ DlC τ p0) ∧ ∃ s n, Z0Y s ∧ TkS z.1 s n ∧ ((¬ zFt (prlY 11 s) = 0 ∧ r.toInt = -10 - zFt (prlY 11 s) ∧ TcP τ p0 z.2.1 z.2.2.1 ∧ LcP τ p0 z.2.2.2) ∨ (zFt (prlY 11 s) = 0 ∧ r.toInt = (zMs (prlY 11 s)).length ∧ TcP τ p0 z.1 n ∧ LcP τ p0 (prlY 11 s).2.1))
  | _ => True
theorem p_read (z : TxY × TxY × Nat × LzY) : PbC KX11_read [(123, P_X7_readProgram, Q_X7_readProgram), (49, P_X3_judgeProgram, Q_X3_judgeProgram), (234, P_Jx4a65c_size_8abf5, Q_Jx4a65c_size_8abf5), (1, P_X0_lay, Q_X0_lay), (124, P_X7_faultPlace, Q_X7_faultPlace)] [(123, U_readProgram)] (fun As σ => P_X11_read As σ ∧ Pp_read z As σ) (Qp_read z) := by sorry
abbrev U_read : CqC := fun As σ w τ => ∀ x, Pp_read x As σ → Qp_read x As σ w τ
theorem n_read (l : Launch) : CMetC l 515 204 P_X11_read (fun As σ w τ => Q_X11_read As σ w τ ∧ U_read As σ w τ) := by sorry
theorem ug180 (σ : CsC) (a : Nat) : gtC σ a 180 = .inl (fIC σ a 180) := rfl
theorem ug182 (σ : CsC) (a : Nat) : gtC σ a 182 = .inl (fIC σ a 182) := rfl
theorem ug185 (σ : CsC) (a : Nat) : gtC σ a 185 = .inl (fIC σ a 185) := rfl
theorem ug183 (σ : CsC) (a : Nat) : gtC σ a 183 = .inr (.inr (fRC σ a 183)) := rfl
/-- element k of a list that begins with the last one -/
def nE {α : Type} : List α → Nat → Option α
  | [], _ => none
  | x :: l, k => if k = l.length then some x else nE l k
theorem nE_some {α : Type} : ∀ (l : List α) (k : Nat), k < l.length → ∃ v, nE l k = some v := by sorry
theorem PtC.atk {σ : CsC} {r : Nat} : ∀ (l : List Int), PtC σ r l → ∀ k v, nE l k = some v → (eIC σ r k).toInt = v := by sorry
theorem MlC.atk {σ : CsC} {a lo hi : Nat} : ∀ (l : List (Int × Int × List Int)), MlC σ a lo hi l → ∀ k m, nE l k = some m → ∃ o r, (elC σ a k = some o ∧ fRC σ o 183 = some r) ∧ r < cnC σ ∧ MoC σ o r m := by sorry
/-- what method answers -/
def mtvY (l : List Int) (k : Nat) : Int := match nE l k with
  | some x => x
  | none => -1
def mtqY (m : Int × Int × List Int) (w : Int) : Int := if w = 0 then m.1 else if w = 1 then m.2.1 else if w = 2 then (m.2.2.length : Int) else if 10 ≤ w ∧ w - 10 < (m.2.2.length : Int) then mtvY m.2.2 (w - 10).toNat else -1
def meqY (l : List (Int × Int × List Int)) (k w : Int) : Int := if k < 0 ∨ (l.length : Int) ≤ k then -1 else match nE l k.toNat with
  | some m => mtqY m w
  | none => -1
theorem mq_b {l : List (Int × Int × List Int)} {k w : Int} (h : k < 0 ∨ (l.length : Int) ≤ k) : (-1 : Int) = meqY l k w := by sorry
theorem mq_s {l : List (Int × Int × List Int)} {k w r : Int} {m : Int × Int × List Int} (h : ¬ (k < 0 ∨ (l.length : Int) ≤ k)) (e : nE l k.toNat = some m) (q : r = mtqY m w) : r = meqY l k w := by sorry
theorem mq_0 {m : Int × Int × List Int} {w r : Int} (h : w = 0) (e : r = m.1) : r = mtqY m w := by sorry
theorem mq_1 {m : Int × Int × List Int} {w r : Int} (h : w = 1) (e : r = m.2.1) : r = mtqY m w := by sorry
theorem mq_2 {m : Int × Int × List Int} {w r : Int} (h : w = 2) (e : r = m.2.2.length) : r = mtqY m w := by sorry
theorem mq_3 {m : Int × Int × List Int} {w r : Int} (h : 10 ≤ w ∧ w - 10 < (m.2.2.length : Int)) (e : nE m.2.2 (w - 10).toNat = some r) : r = mtqY m w := by sorry
theorem mq_4 {m : Int × Int × List Int} {w : Int} (h0 : ¬ w = 0) (h1 : ¬ w = 1) (h2 : ¬ w = 2) (h3 : ¬ (10 ≤ w ∧ w - 10 < (m.2.2.length : Int))) : (-1 : Int) = mtqY m w := by sorry
/-- get, exactly -/
abbrev U_get : CqC := fun As σ w _ => match As with
  | [.inr (.inr (some p0)), .inl p1] => ∀ r, w = some (.inr (.inr (some r))) → elC σ p0 p1.toNatClampNeg = some r
  | _ => True
theorem n_get (l : Launch) : CMetC l 10 235 P_Jx4a65c_get_915e3 (fun As σ w τ => Q_Jx4a65c_get_915e3 As σ w τ ∧ U_get As σ w τ) := by sorry
abbrev Pp_method (z : LzY) : CpC := fun As σ => match As with
  | [.inr (.inr (some p0)), .inl p1, .inl p2] => cnC σ < 1000000 ∧ LcP σ p0 z
  | _ => False
abbrev Qp_method (z : LzY) : CqC := fun As σ w τ => match As with
  | [.inr (.inr (some p0)), .inl p1, .inl p2] => ∀ r, w = some (.inl r) → r.toInt = meqY z.1 p1.toInt p2.toInt
  | _ => True
theorem p_method (z : LzY) : PbC KX11_method [(234, P_Jx4a65c_size_8abf5, Q_Jx4a65c_size_8abf5), (235, P_Jx4a65c_get_915e3, Q_Jx4a65c_get_915e3)] [(235, U_get)] (fun As σ => P_X11_method As σ ∧ Pp_method z As σ) (Qp_method z) := by sorry
abbrev U_method : CqC := fun As σ w τ => ∀ z, Pp_method z As σ → Qp_method z As σ w τ
theorem n_method (l : Launch) : CMetC l 11 209 P_X11_method (fun As σ w τ => Q_X11_method As σ w τ ∧ U_method As σ w τ) := by sorry
theorem sI_id {σ : RS} {k : Nat} : sI σ k (gI σ k) = σ := by sorry
def P_at : RP := fun As σ => match As with
  | [.int k] => 0 ≤ k ∧ (gI σ 12) ≤ 2500
  | _ => False
def Q_at : RQ := fun As σ w τ => match As with
  | [.int k] => ∃ r : Int32, w = some (.int r) ∧ τ = σ
  | _ => False
set_option maxRecDepth 100000 in
set_option maxHeartbeats 4000000 in
theorem b_at : Bod Bat [] P_at Q_at := by sorry
theorem m_at (l : Launch) : RMet l 1 3 P_at Q_at := by sorry
set_option maxRecDepth 100000 in
theorem e_at (l : Launch) : RMetE l 1 3 P_at Q_at := by sorry
def P_isLetter : RP := fun As σ => match As with
  | [.int b] => True
  | _ => False
def Q_isLetter : RQ := fun As σ w τ => match As with
  | [.int b] => ∃ r : Int32, w = some (.int r) ∧ (r = 0 ∨ r = 1) ∧ τ = σ
  | _ => False
set_option maxRecDepth 100000 in
set_option maxHeartbeats 4000000 in
theorem b_isLetter : Bod BisLetter [] P_isLetter Q_isLetter := by sorry
theorem m_isLetter (l : Launch) : RMet l 1 4 P_isLetter Q_isLetter := by sorry
set_option maxRecDepth 100000 in
theorem e_isLetter (l : Launch) : RMetE l 1 4 P_isLetter Q_isLetter := by sorry
def P_isDigit : RP := fun As σ => match As with
  | [.int b] => True
  | _ => False
def Q_isDigit : RQ := fun As σ w τ => match As with
  | [.int b] => ∃ r : Int32, w = some (.int r) ∧ (r = 0 ∨ r = 1) ∧ τ = σ
  | _ => False
set_option maxRecDepth 100000 in
set_option maxHeartbeats 4000000 in
theorem b_isDigit : Bod BisDigit [] P_isDigit Q_isDigit := by sorry
theorem m_isDigit (l : Launch) : RMet l 1 5 P_isDigit Q_isDigit := by sorry
set_option maxRecDepth 100000 in
theorem e_isDigit (l : Launch) : RMetE l 1 5 P_isDigit Q_isDigit := by sorry
def P_isSign : RP := fun As σ => match As with
  | [.int b] => 0 ≤ (gI σ 14) ∧ (gI σ 14) ≤ 500
  | _ => False
def Q_isSign : RQ := fun As σ w τ => match As with
  | [.int b] => ∃ r : Int32, w = some (.int r) ∧ (r = 0 ∨ (r = 1 ∧ aI σ 6 (gI σ 14).toNatClampNeg = b)) ∧ τ = σ
  | _ => False
set_option maxRecDepth 100000 in
set_option maxHeartbeats 4000000 in
theorem b_isSign : Bod BisSign [] P_isSign Q_isSign := by sorry
theorem m_isSign (l : Launch) : RMet l 1 14 P_isSign Q_isSign := by sorry
set_option maxRecDepth 100000 in
theorem e_isSign (l : Launch) : RMetE l 1 14 P_isSign Q_isSign := by sorry
def P_isWord : RP := fun As σ => match As with
  | [.int b] => 0 ≤ (gI σ 14) ∧ (gI σ 14) ≤ 500
  | _ => False
def Q_isWord : RQ := fun As σ w τ => match As with
  | [.int b] => ∃ r : Int32, w = some (.int r) ∧ (r = 0 ∨ r = 1) ∧ τ = σ
  | _ => False
set_option maxRecDepth 100000 in
set_option maxHeartbeats 4000000 in
theorem b_isWord : Bod BisWord [] P_isWord Q_isWord := by sorry
theorem m_isWord (l : Launch) : RMet l 1 15 P_isWord Q_isWord := by sorry
set_option maxRecDepth 100000 in
theorem e_isWord (l : Launch) : RMetE l 1 15 P_isWord Q_isWord := by sorry
def P_isSignAt : RP := fun As σ => match As with
  | [.int t, .int s] => 0 ≤ t ∧ t ≤ 2000
  | _ => False
def Q_isSignAt : RQ := fun As σ w τ => match As with
  | [.int t, .int s] => ∃ r : Int32, w = some (.int r) ∧ (r = 0 ∨ (r = 1 ∧ aI σ 6 (t).toNatClampNeg = s)) ∧ τ = σ
  | _ => False
set_option maxRecDepth 100000 in
set_option maxHeartbeats 4000000 in
theorem b_isSignAt : Bod BisSignAt [] P_isSignAt Q_isSignAt := by sorry
theorem m_isSignAt (l : Launch) : RMet l 1 16 P_isSignAt Q_isSignAt := by sorry
set_option maxRecDepth 100000 in
theorem e_isSignAt (l : Launch) : RMetE l 1 16 P_isSignAt Q_isSignAt := by sorry
def P_isType : RP := fun As σ => match As with
  | [.int t] => 0 ≤ t ∧ t ≤ 2000
  | _ => False
def Q_isType : RQ := fun As σ w τ => match As with
  | [.int t] => ∃ r : Int32, w = some (.int r) ∧ (r = 0 ∨ (r = 1 ∧ aI σ 6 (t).toNatClampNeg ≤ 4)) ∧ τ = σ
  | _ => False
set_option maxRecDepth 100000 in
set_option maxHeartbeats 4000000 in
theorem b_isType : Bod BisType [] P_isType Q_isType := by sorry
theorem m_isType (l : Launch) : RMet l 1 23 P_isType Q_isType := by sorry
set_option maxRecDepth 100000 in
theorem e_isType (l : Launch) : RMetE l 1 23 P_isType Q_isType := by sorry
def P_isSetAt : RP := fun As σ => match As with
  | [.int t] => 0 ≤ t ∧ t ≤ 2000
  | _ => False
def Q_isSetAt : RQ := fun As σ w τ => match As with
  | [.int t] => ∃ r : Int32, w = some (.int r) ∧ (r = 0 ∨ (r = 1 ∧ (aI σ 6 (t).toNatClampNeg = 61 ∨ 400 < aI σ 6 (t).toNatClampNeg))) ∧ τ = σ
  | _ => False
set_option maxRecDepth 100000 in
set_option maxHeartbeats 4000000 in
theorem b_isSetAt : Bod BisSetAt [] P_isSetAt Q_isSetAt := by sorry
theorem m_isSetAt (l : Launch) : RMet l 1 24 P_isSetAt Q_isSetAt := by sorry
set_option maxRecDepth 100000 in
theorem e_isSetAt (l : Launch) : RMetE l 1 24 P_isSetAt Q_isSetAt := by sorry
def P_wrong : RP := fun As σ => match As with
  | [.int a, .int t] => 0 ≤ t ∧ t ≤ 2000
  | _ => False
def Q_wrong : RQ := fun As σ w τ => match As with
  | [.int a, .int t] => ∃ r : Int32, w = some (.int r) ∧ r = 0 ∧ ∃ a b : Int32, τ = sI (sI σ 15 a) 16 b
  | _ => False
set_option maxRecDepth 100000 in
set_option maxHeartbeats 4000000 in
theorem b_wrong : Bod Bwrong [] P_wrong Q_wrong := by sorry
theorem m_wrong (l : Launch) : RMet l 1 12 P_wrong Q_wrong := by sorry
set_option maxRecDepth 100000 in
theorem e_wrong (l : Launch) : RMetE l 1 12 P_wrong Q_wrong := by sorry
def P_cant : RP := fun As σ => match As with
  | [] => 0 ≤ (gI σ 14) ∧ (gI σ 14) ≤ 500
  | _ => False
def Q_cant : RQ := fun As σ w τ => match As with
  | [] => ∃ r : Int32, w = some (.int r) ∧ r = 0 ∧ ∃ a b : Int32, τ = sI (sI σ 15 a) 16 b
  | _ => False
set_option maxRecDepth 100000 in
set_option maxHeartbeats 4000000 in
theorem b_cant : Bod Bcant [(12, P_wrong, Q_wrong)] P_cant Q_cant := by sorry
theorem m_cant (l : Launch) : RMet l 2 13 P_cant Q_cant := by sorry
set_option maxRecDepth 100000 in
theorem e_cant (l : Launch) : RMetE l 2 13 P_cant Q_cant := by sorry
def P_take : RP := fun As σ => match As with
  | [] => 0 ≤ (gI σ 14) ∧ (gI σ 14) ≤ 500
  | _ => False
def Q_take : RQ := fun As σ w τ => match As with
  | [] => ∃ r : Int32, w = some (.int r) ∧ ((r = 1 ∧ (gI σ 14) < 500 ∧ τ = sI σ 14 ((gI σ 14) + 1)) ∨ (r = 0 ∧ ∃ a b : Int32, τ = sI (sI σ 15 a) 16 b))
  | _ => False
set_option maxRecDepth 100000 in
set_option maxHeartbeats 4000000 in
theorem b_take : Bod Btake [(12, P_wrong, Q_wrong)] P_take Q_take := by sorry
theorem m_take (l : Launch) : RMet l 2 17 P_take Q_take := by sorry
set_option maxRecDepth 100000 in
theorem e_take (l : Launch) : RMetE l 2 17 P_take Q_take := by sorry
/-! the codes that the reference's reader lays: what stands on the pile of values ahead of each (its kinds: 0 a value, 1 a left side of && || that is open, 2 a ? that is open, 3 a : that is open, 4 the value of a variable taken for += and the like) -/
def nT (x : Int32) : Nat := x.toNatClampNeg
theorem nT_nI {n : Nat} (h : n < 2 ^ 31) : nT (nI n) = n := nI_clamp h
theorem nT_of {x : Int32} (h : 0 ≤ x) : ∃ n : Nat, n < 2 ^ 31 ∧ x = nI n ∧ nT x = n := by sorry
theorem nT_add {x : Int32} (h : 0 ≤ x) (h1 : x < 2147483647) : nT (x + 1) = nT x + 1 := by sorry
theorem nT_sub {x : Int32} (h : 0 < x) : nT x = nT (x - 1) + 1 := by sorry
theorem nT_lt {x y : Int32} (h0 : 0 ≤ x) (h : x < y) : nT x < nT y := by sorry
theorem nT_le {x y : Int32} (h0 : 0 ≤ x) (h : x ≤ y) : nT x ≤ nT y := by sorry
def eSt (n : Nat) (a b : Int32) (s : List Nat) : Option (List Nat) := match n with
  | 1 => some (0 :: s)
  | 2 => some (0 :: s)
  | 3 => some (0 :: s)
  | 4 => some (0 :: s)
  | 5 => match s with
    | 0 :: r => some (0 :: r)
    | _ => none
  | 6 => match s with
    | 0 :: r => some (0 :: r)
    | _ => none
  | 7 => match s with
    | 0 :: 0 :: r => some (0 :: r)
    | _ => none
  | 8 => match s with
    | 0 :: r => some (1 :: r)
    | _ => none
  | 9 => match s with
    | 0 :: 1 :: r => some (0 :: r)
    | _ => none
  | 10 => match s with
    | 0 :: r => some (1 :: r)
    | _ => none
  | 11 => match s with
    | 0 :: 1 :: r => some (0 :: r)
    | _ => none
  | 12 => match s with
    | 0 :: r => some (2 :: r)
    | _ => none
  | 13 => match s with
    | 0 :: 2 :: r => some (3 :: r)
    | _ => none
  | 14 => match s with
    | 0 :: 3 :: r => some (0 :: r)
    | _ => none
  | 15 => match s with
    | 0 :: r => some (0 :: r)
    | _ => none
  | 16 => some (4 :: s)
  | 17 => if a = 61 then (match s with
    | 0 :: r => some (0 :: r)
    | _ => none) else (match s with
    | 0 :: 4 :: r => some (0 :: r)
    | _ => none)
  | 18 => if s.take (nT a) = List.replicate (nT a) 0 then some (0 :: s.drop (nT a)) else none
  | 21 => if s = [0] then some [] else none
  | 22 => if b = 1 then (if s = [0] then some [] else none) else if b = 0 ∨ b = 2 then (if s = [] then some [] else none) else none
  | 23 => if s = [0] then some [] else none
  | 27 => if s = [0] then some [] else none
  | 31 => if s = [0] then some [] else none
  | 37 => if s = [0] then some [] else none
  | 38 => if s = [0] then some [] else none
  | 49 => if s = [0] then some [] else none
  | 33 => if b = 0 then (if s = [] then some [] else none) else (if s = [0] then some [] else none)
  | 48 => if a = 1 then (if s = [0] then some [] else none) else if a = 0 then (if s = [] then some [] else none) else none
  | _ => if s = [] then some [] else none
def Es (o a b : Nat → Int32) : Nat → Option (List Nat)
  | 0 => some []
  | c + 1 => match Es o a b c with
    | some s => eSt (nT (o c)) (a c) (b c) s
    | none => none
theorem Es_congr {o a b o' a' b' : Nat → Int32} {n : Nat} (h : ∀ i, i < n → o' i = o i ∧ a' i = a i ∧ b' i = b i) : Es o' a' b' n = Es o a b n := by sorry
theorem upd_ne {f : Nat → Int32} {k i : Nat} {x : Int32} (h : i ≠ k) : upd f k x i = f i := if_neg h
theorem upd_eq {f : Nat → Int32} {k : Nat} {x : Int32} : upd f k x k = x := if_pos rfl
/-- one code more -/
theorem Es_emit {o a b : Nat → Int32} {n : Nat} {x y z : Int32} {s s' : List Nat} (h : Es o a b n = some s) (hs : eSt (nT x) y z s = some s') : Es (upd o n x) (upd a n y) (upd b n z) (n + 1) = some s' := by sorry
/-- what the open operators of an exp leave on the pile -/
def oks (sort sign args : Int32) : List Nat := match nT sort with
  | 2 => if sign = 307 ∨ sign = 308 then [1] else [0]
  | 4 => List.replicate (nT args) 0
  | 5 => if sign = 61 then [] else [4]
  | 6 => [2]
  | 7 => [3]
  | _ => []
def Ok (s g a : Nat → Int32) : Nat → List Nat
  | 0 => []
  | i + 1 => oks (s i) (g i) (a i) ++ Ok s g a i
theorem Ok_congr {s g a s' g' a' : Nat → Int32} {n : Nat} (h : ∀ i, i < n → s' i = s i ∧ g' i = g i ∧ a' i = a i) : Ok s' g' a' n = Ok s g a n := by sorry
theorem Ok_push {s g a : Nat → Int32} {n : Nat} {x y z : Int32} : Ok (upd s n x) (upd g n y) (upd a n z) (n + 1) = oks x y z ++ Ok s g a n := by sorry
/-- how many values the judge has of such a pile -/
def wk (k : Nat) : Nat := if k = 3 then 2 else if k = 4 then 0 else 1
def wl : List Nat → Nat
  | [] => 0
  | k :: r => wk k + wl r
theorem wl_app (x y : List Nat) : wl (x ++ y) = wl x + wl y := by sorry
theorem wl_rep (n : Nat) : wl (List.replicate n 0) = n := by sorry
/-- how deep the open operators are -/
def Od (s : Nat → Int32) : Nat → Nat
  | 0 => 0
  | i + 1 => (if s i = 2 then 0 else 1) + Od s i
theorem Od_congr {s s' : Nat → Int32} {n : Nat} (h : ∀ i, i < n → s' i = s i) : Od s' n = Od s n := by sorry
theorem Od_push {s : Nat → Int32} {n : Nat} {x : Int32} : Od (upd s n x) (n + 1) = (if x = 2 then 0 else 1) + Od s n := by sorry
theorem Od_le (s : Nat → Int32) (n : Nat) : Od s n ≤ n := by sorry
/-! frames: what the reading of an exp may change -/
def xI (k : Nat) : Bool := (14 ≤ k && k ≤ 18) || k == 29 || (31 ≤ k && k ≤ 35)
def xA (k : Nat) : Bool := (19 ≤ k && k ≤ 28) || k == 30
def Fx (σ τ : RS) : Prop := (∀ k, xI k = false → gI τ k = gI σ k) ∧ (∀ k, gL τ k = gL σ k) ∧ (∀ k, xA k = false → aI τ k = aI σ k) ∧ ∀ k, aL τ k = aL σ k
theorem Fx.rf {σ : RS} : Fx σ σ := by sorry
theorem Fx.tr {σ τ υ : RS} (h1 : Fx σ τ) (h2 : Fx τ υ) : Fx σ υ := by sorry
theorem Fx.i {σ τ : RS} (h : Fx σ τ) {k : Nat} {v : Int32} (hk : xI k = true) : Fx σ (sI τ k v) := by sorry
theorem Fx.a {σ τ : RS} (h : Fx σ τ) {k : Nat} {f : Nat → Int32} (hk : xA k = true) : Fx σ (sA τ k f) := by sorry
/-- emit, push, whole -/
def em (σ : RS) (o a t : Int32) : RS := sA (sA (sA (sA (sA (sA (sI σ 18 (gI σ 18 + 1)) 19 (upd (aI σ 19) (gI σ 18).toNatClampNeg o)) 20 (upd (aI σ 20) (gI σ 18).toNatClampNeg a)) 21 (upd (aI σ 21) (gI σ 18).toNatClampNeg 0)) 22 (upd (aI σ 22) (gI σ 18).toNatClampNeg t)) 23 (upd (aI σ 23) (gI σ 18).toNatClampNeg t)) 24 (upd (aI σ 24) (gI σ 18).toNatClampNeg t)
def pu (σ : RS) (s g t : Int32) : RS := sI (sA (sA (sA (sA σ 25 (upd (aI σ 25) (gI σ 29).toNatClampNeg s)) 26 (upd (aI σ 26) (gI σ 29).toNatClampNeg g)) 27 (upd (aI σ 27) (gI σ 29).toNatClampNeg t)) 28 (upd (aI σ 28) (gI σ 29).toNatClampNeg 0)) 29 (gI σ 29 + 1)
def wh (σ : RS) (t : Int32) : RS := sI (sA σ 30 (upd (aI σ 30) (gI σ 31).toNatClampNeg t)) 31 (gI σ 31 + 1)
theorem upd_upd {f : Nat → Int32} {k : Nat} {x y : Int32} : upd (upd f k x) k y = upd f k y := funext fun j => by by_cases h : j = k <;> simp [upd, h]
def emx (σ : RS) (o a t f l : Int32) : RS := sA (sA (em σ o a t) 23 (upd (aI σ 23) (gI σ 18).toNatClampNeg f)) 24 (upd (aI σ 24) (gI σ 18).toNatClampNeg l)
theorem emx_eq {σ : RS} {o a t f l : Int32} : sA (sA (em σ o a t) 23 (upd (aI (em σ o a t) 23) (gI σ 18).toNatClampNeg f)) 24 (upd (aI (em σ o a t) 24) (gI σ 18).toNatClampNeg l) = emx σ o a t f l := by sorry
theorem gI_em {σ : RS} {o a t : Int32} {k : Nat} : gI (em σ o a t) k = match Nat.beq k 18 with
  | true => gI σ 18 + 1
  | false => gI σ k := rfl
theorem gI_emx {σ : RS} {o a t f l : Int32} {k : Nat} : gI (emx σ o a t f l) k = match Nat.beq k 18 with
  | true => gI σ 18 + 1
  | false => gI σ k := rfl
theorem gI_pu {σ : RS} {s g t : Int32} {k : Nat} : gI (pu σ s g t) k = match Nat.beq k 29 with
  | true => gI σ 29 + 1
  | false => gI σ k := rfl
theorem gI_wh {σ : RS} {t : Int32} {k : Nat} : gI (wh σ t) k = match Nat.beq k 31 with
  | true => gI σ 31 + 1
  | false => gI σ k := rfl
def P_want : RP := fun As σ => match As with
  | [.int s] => 0 ≤ (gI σ 14) ∧ (gI σ 14) ≤ 500
  | _ => False
def Q_want : RQ := fun As σ w τ => match As with
  | [.int s] => ∃ r : Int32, w = some (.int r) ∧ ((r = 1 ∧ (gI σ 14) < 500 ∧ aI σ 6 ((gI σ 14)).toNatClampNeg = s ∧ τ = sI σ 14 ((gI σ 14) + 1)) ∨ (r = 0 ∧ ∃ a b : Int32, τ = sI (sI σ 15 a) 16 b))
  | _ => False
set_option maxRecDepth 100000 in
set_option maxHeartbeats 4000000 in
theorem b_want : Bod Bwant [(13, P_cant, Q_cant), (14, P_isSign, Q_isSign), (17, P_take, Q_take)] P_want Q_want := by sorry
theorem m_want (l : Launch) : RMet l 3 18 P_want Q_want := by sorry
set_option maxRecDepth 100000 in
theorem e_want (l : Launch) : RMetE l 3 18 P_want Q_want := by sorry
def P_enter : RP := fun As σ => match As with
  | [] => 0 ≤ (gI σ 14) ∧ (gI σ 14) ≤ 500 ∧ 0 ≤ (gI σ 17) ∧ (gI σ 17) ≤ 100
  | _ => False
def Q_enter : RQ := fun As σ w τ => match As with
  | [] => ∃ r : Int32, w = some (.int r) ∧ ((r = 1 ∧ (gI σ 17) < 20 ∧ τ = sI σ 17 ((gI σ 17) + 1)) ∨ (r = 0 ∧ ∃ a b c : Int32, τ = sI (sI (sI σ 17 a) 15 b) 16 c))
  | _ => False
set_option maxRecDepth 100000 in
set_option maxHeartbeats 4000000 in
theorem b_enter : Bod Benter [(12, P_wrong, Q_wrong)] P_enter Q_enter := by sorry
theorem m_enter (l : Launch) : RMet l 2 19 P_enter Q_enter := by sorry
set_option maxRecDepth 100000 in
theorem e_enter (l : Launch) : RMetE l 2 19 P_enter Q_enter := by sorry
def P_emit : RP := fun As σ => match As with
  | [.int o, .int a, .int t] => 0 ≤ (gI σ 18) ∧ (gI σ 18) < 4000
  | _ => False
def Q_emit : RQ := fun As σ w τ => match As with
  | [.int o, .int a, .int t] => w = some (.int (gI σ 18)) ∧ τ = em σ o a t
  | _ => False
set_option maxRecDepth 100000 in
set_option maxHeartbeats 4000000 in
theorem b_emit : Bod Bemit [] P_emit Q_emit := by sorry
theorem m_emit (l : Launch) : RMet l 1 20 P_emit Q_emit := by sorry
set_option maxRecDepth 100000 in
theorem e_emit (l : Launch) : RMetE l 1 20 P_emit Q_emit := by sorry
def P_emitExp : RP := fun As σ => match As with
  | [.int o, .int a, .int t, .int f, .int m] => 0 ≤ (gI σ 18) ∧ (gI σ 18) < 4000
  | _ => False
def Q_emitExp : RQ := fun As σ w τ => match As with
  | [.int o, .int a, .int t, .int f, .int m] => w = some (.int (gI σ 18)) ∧ τ = emx σ o a t f m
  | _ => False
set_option maxRecDepth 100000 in
set_option maxHeartbeats 4000000 in
theorem b_emitExp : Bod BemitExp [(20, P_emit, Q_emit)] P_emitExp Q_emitExp := by sorry
theorem m_emitExp (l : Launch) : RMet l 2 21 P_emitExp Q_emitExp := by sorry
set_option maxRecDepth 100000 in
theorem e_emitExp (l : Launch) : RMetE l 2 21 P_emitExp Q_emitExp := by sorry
def P_push : RP := fun As σ => match As with
  | [.int s, .int g, .int t] => 0 ≤ (gI σ 29) ∧ (gI σ 29) < 600
  | _ => False
def Q_push : RQ := fun As σ w τ => match As with
  | [.int s, .int g, .int t] => w = some (.int 1) ∧ τ = pu σ s g t
  | _ => False
set_option maxRecDepth 100000 in
set_option maxHeartbeats 4000000 in
theorem b_push : Bod Bpush [] P_push Q_push := by sorry
theorem m_push (l : Launch) : RMet l 1 25 P_push Q_push := by sorry
set_option maxRecDepth 100000 in
theorem e_push (l : Launch) : RMetE l 1 25 P_push Q_push := by sorry
def P_whole : RP := fun As σ => match As with
  | [.int t] => 0 ≤ (gI σ 31) ∧ (gI σ 31) < 600
  | _ => False
def Q_whole : RQ := fun As σ w τ => match As with
  | [.int t] => w = none ∧ τ = wh σ t
  | _ => False
set_option maxRecDepth 100000 in
set_option maxHeartbeats 4000000 in
theorem b_whole : Bod Bwhole [] P_whole Q_whole := by sorry
theorem m_whole (l : Launch) : RMet l 1 26 P_whole Q_whole := by sorry
set_option maxRecDepth 100000 in
theorem e_whole (l : Launch) : RMetE l 1 26 P_whole Q_whole := by sorry
def P_wait : RP := fun As σ => match As with
  | [.int b] => b = 0 ∨ b = 1
  | _ => False
def Q_wait : RQ := fun As σ w τ => match As with
  | [.int b] => w = some (.int 1) ∧ τ = sI (sI σ 34 1) 35 b
  | _ => False
set_option maxRecDepth 100000 in
set_option maxHeartbeats 4000000 in
theorem b_wait : Bod Bwait [] P_wait Q_wait := by sorry
theorem m_wait (l : Launch) : RMet l 1 28 P_wait Q_wait := by sorry
set_option maxRecDepth 100000 in
theorem e_wait (l : Launch) : RMetE l 1 28 P_wait Q_wait := by sorry
/-! the reading of an exp: what holds of the codes, of the open operators, of the whole operands -/
/-- an exp's last token may be any: no one looks there by it -/
def lk (_ : Int32) : Prop := True
def cx (o t f l : Int32) : Prop := 1 ≤ o ∧ o ≤ 18 ∧ 0 ≤ t ∧ t ≤ 500 ∧ 0 ≤ f ∧ f ≤ 500 ∧ lk l ∧ lk l
/-- what stands right behind the token of an assignment, of a call; how many arguments -/
def cy (W : Nat → Int32) (o a t : Int32) : Prop := ((o = 16 ∨ o = 17) → W (nT t + 1) = 61 ∨ 400 < W (nT t + 1)) ∧ (o = 18 → W (nT t + 1) = 40 ∧ 0 ≤ a ∧ a ≤ 500) ∧ ((o = 1 ∨ o = 6) → 0 ≤ a ∧ a ≤ 4)
theorem cy_no {W : Nat → Int32} {o a t : Int32} (h : o ≤ 15 ∧ ¬ o = 1 ∧ ¬ o = 6) : cy W o a t := ⟨fun q => by lia, fun q => by lia, fun q => by lia⟩
def CI (σ0 σ : RS) (s : List Nat) : Prop := 0 ≤ gI σ0 18 ∧ gI σ0 18 ≤ gI σ 18 ∧ gI σ 18 ≤ 3990 ∧
  (∀ i, i < nT (gI σ0 18) → aI σ 19 i = aI σ0 19 i ∧ aI σ 20 i = aI σ0 20 i ∧ aI σ 21 i = aI σ0 21 i ∧ aI σ 22 i = aI σ0 22 i ∧ aI σ 23 i = aI σ0 23 i ∧ aI σ 24 i = aI σ0 24 i) ∧
  (∀ i, nT (gI σ0 18) ≤ i → i < nT (gI σ 18) → cx (aI σ 19 i) (aI σ 22 i) (aI σ 23 i) (aI σ 24 i)) ∧
  Es (aI σ 19) (aI σ 20) (aI σ 21) (nT (gI σ 18)) = some s ∧
  (∀ i, nT (gI σ0 18) ≤ i → i < nT (gI σ 18) → cy (aI σ0 6) (aI σ 19 i) (aI σ 20 i) (aI σ 22 i)) ∧
  (∀ i, nT (gI σ0 18) < i → i ≤ nT (gI σ 18) → ∀ z, Es (aI σ 19) (aI σ 20) (aI σ 21) i = some z → z.length ≤ 251)
theorem CI.same {σ0 σ σ' : RS} {s : List Nat} (h : CI σ0 σ s) (e18 : gI σ' 18 = gI σ 18) (e19 : aI σ' 19 = aI σ 19) (e20 : aI σ' 20 = aI σ 20) (e21 : aI σ' 21 = aI σ 21) (e22 : aI σ' 22 = aI σ 22) (e23 : aI σ' 23 = aI σ 23) (e24 : aI σ' 24 = aI σ 24) : CI σ0 σ' s := by sorry
theorem CI.app {σ0 σ σ' : RS} {s s' : List Nat} (h : CI σ0 σ s) (o a b t f l : Int32) (e18 : gI σ' 18 = gI σ 18 + 1) (e19 : aI σ' 19 = upd (aI σ 19) (nT (gI σ 18)) o) (e20 : aI σ' 20 = upd (aI σ 20) (nT (gI σ 18)) a) (e21 : aI σ' 21 = upd (aI σ 21) (nT (gI σ 18)) b) (e22 : aI σ' 22 = upd (aI σ 22) (nT (gI σ 18)) t) (e23 : aI σ' 23 = upd (aI σ 23) (nT (gI σ 18)) f) (e24 : aI σ' 24 = upd (aI σ 24) (nT (gI σ 18)) l)
    (hc : gI σ 18 < 3990) (hx : cx o t f l) (hy : cy (aI σ0 6) o a t) (hl : s'.length ≤ 251) (he : eSt (nT o) a b s = some s') : CI σ0 σ' s' := by sorry
def ox (s t a : Int32) : Prop := 0 ≤ s ∧ s ≤ 7 ∧ 0 ≤ t ∧ t ≤ 500 ∧ 0 ≤ a ∧ a ≤ 500
/-- no token's number is less than 0 -/
def WZ (σ : RS) : Prop := ∀ t, 0 ≤ aI σ 6 t
def oy (W : Nat → Int32) (s g t : Int32) : Prop := (s = 4 → W (nT t + 1) = 40) ∧ (s = 5 → W (nT t + 1) = 61 ∨ 400 < W (nT t + 1)) ∧ (s = 1 → 0 ≤ g ∧ g ≤ 4)
theorem oy_no {W : Nat → Int32} {s g t : Int32} (h : ¬ s = 4) (h2 : ¬ s = 5) (h3 : ¬ s = 1) : oy W s g t := by sorry
def OI (W : Nat → Int32) (σ : RS) (L : List Nat) (d : Nat) : Prop := 0 ≤ gI σ 29 ∧ gI σ 29 ≤ 599 ∧ Ok (aI σ 25) (aI σ 26) (aI σ 28) (nT (gI σ 29)) = L ∧ Od (aI σ 25) (nT (gI σ 29)) = d ∧ ∀ i, i < nT (gI σ 29) → ox (aI σ 25 i) (aI σ 27 i) (aI σ 28 i) ∧ oy W (aI σ 25 i) (aI σ 26 i) (aI σ 27 i)
theorem OI.same {W : Nat → Int32} {σ σ' : RS} {L : List Nat} {d : Nat} (h : OI W σ L d) (e29 : gI σ' 29 = gI σ 29) (e25 : aI σ' 25 = aI σ 25) (e26 : aI σ' 26 = aI σ 26) (e27 : aI σ' 27 = aI σ 27) (e28 : aI σ' 28 = aI σ 28) : OI W σ' L d := by sorry
theorem OI.push {W : Nat → Int32} {σ σ' : RS} {L : List Nat} {d : Nat} (h : OI W σ L d) (s g t : Int32) (e29 : gI σ' 29 = gI σ 29 + 1) (e25 : aI σ' 25 = upd (aI σ 25) (nT (gI σ 29)) s) (e26 : aI σ' 26 = upd (aI σ 26) (nT (gI σ 29)) g) (e27 : aI σ' 27 = upd (aI σ 27) (nT (gI σ 29)) t) (e28 : aI σ' 28 = upd (aI σ 28) (nT (gI σ 29)) 0)
    (hc : gI σ 29 < 599) (hx : ox s t 0) (hy : oy W s g t) : OI W σ' (oks s g 0 ++ L) ((if s = 2 then 0 else 1) + d) := by sorry
theorem OI.pop {W : Nat → Int32} {σ σ' : RS} {L : List Nat} {d : Nat} (h : OI W σ L d) (hp : 0 < gI σ 29) (e29 : gI σ' 29 = gI σ 29 - 1) (e25 : aI σ' 25 = aI σ 25) (e26 : aI σ' 26 = aI σ 26) (e27 : aI σ' 27 = aI σ 27) (e28 : aI σ' 28 = aI σ 28) :
    ∃ (L' : List Nat) (d' : Nat), L = oks (aI σ 25 (nT (gI σ 29 - 1))) (aI σ 26 (nT (gI σ 29 - 1))) (aI σ 28 (nT (gI σ 29 - 1))) ++ L' ∧ d = (if aI σ 25 (nT (gI σ 29 - 1)) = 2 then 0 else 1) + d' ∧ OI W σ' L' d' ∧ ox (aI σ 25 (nT (gI σ 29 - 1))) (aI σ 27 (nT (gI σ 29 - 1))) (aI σ 28 (nT (gI σ 29 - 1))) ∧ oy W (aI σ 25 (nT (gI σ 29 - 1))) (aI σ 26 (nT (gI σ 29 - 1))) (aI σ 27 (nT (gI σ 29 - 1))) := by sorry
/-- one argument more of the call that is open innermost -/
theorem OI.arg {W : Nat → Int32} {σ σ' : RS} {L' : List Nat} {d : Nat} (hp : 0 < gI σ 29) (h : OI W σ L' d) (hs : aI σ 25 (nT (gI σ 29 - 1)) = 4) (hb : aI σ 28 (nT (gI σ 29 - 1)) < 500) (e29 : gI σ' 29 = gI σ 29) (e25 : aI σ' 25 = aI σ 25) (e26 : aI σ' 26 = aI σ 26) (e27 : aI σ' 27 = aI σ 27) (e28 : aI σ' 28 = upd (aI σ 28) (nT (gI σ 29 - 1)) (aI σ 28 (nT (gI σ 29 - 1)) + 1)) : OI W σ' (0 :: L') d := by sorry
/-- each code 16 (the value taken for += and the like) has its code 17 (of the same token), or its operator is still open -/
def AX (c0 n m : Nat) (o t s k : Nat → Int32) : Prop := ∀ i, c0 ≤ i → i < n → o i = 16 → (∃ i', i' < n ∧ o i' = 17 ∧ t i' = t i) ∨ (∃ q, q < m ∧ s q = 5 ∧ k q = t i)
theorem AX.app {c0 n m : Nat} {o t s k : Nat → Int32} (h : AX c0 n m o t s k) (x y : Int32) (hx : x ≠ 16) : AX c0 (n + 1) m (upd o n x) (upd t n y) s k := by sorry
theorem AX.push {c0 n m : Nat} {o t s k : Nat → Int32} (h : AX c0 n m o t s k) (x y : Int32) : AX c0 n (m + 1) o t (upd s m x) (upd k m y) := by sorry
theorem AX.pop {c0 n m : Nat} {o t s k : Nat → Int32} (h : AX c0 n (m + 1) o t s k) (hs : s m ≠ 5) : AX c0 n m o t s k := by sorry
theorem AX.asg {c0 n m : Nat} {o t s k : Nat → Int32} (h : AX c0 n (m + 1) o t s k) (y : Int32) (hy : y = k m) : AX c0 (n + 1) m (upd o n 17) (upd t n y) s k := by sorry
theorem AX.a16 {c0 n m : Nat} {o t s k : Nat → Int32} (h : AX c0 n m o t s k) (y : Int32) : AX c0 (n + 1) (m + 1) (upd o n 16) (upd t n y) (upd s m 5) (upd k m y) := by sorry
def AA (σ0 σ : RS) : Prop := AX (nT (gI σ0 18)) (nT (gI σ 18)) (nT (gI σ 29)) (aI σ 19) (aI σ 22) (aI σ 25) (aI σ 27) ∧ WZ σ0
def VI (σ : RS) (n : Nat) : Prop := 0 ≤ gI σ 31 ∧ nT (gI σ 31) = n ∧ ∀ i, i < n → 0 ≤ aI σ 30 i ∧ aI σ 30 i ≤ 500
theorem VI.same {σ σ' : RS} {n : Nat} (h : VI σ n) (e31 : gI σ' 31 = gI σ 31) (e30 : aI σ' 30 = aI σ 30) : VI σ' n := by sorry
theorem VI.push {σ σ' : RS} {n : Nat} (h : VI σ n) (t : Int32) (e31 : gI σ' 31 = gI σ 31 + 1) (e30 : aI σ' 30 = upd (aI σ 30) (nT (gI σ 31)) t) (hc : gI σ 31 < 5000) (ht : 0 ≤ t ∧ t ≤ 500) : VI σ' (n + 1) := by sorry
theorem VI.set {σ σ' : RS} {n : Nat} (h : VI σ n) (t : Int32) (k : Nat) (e31 : gI σ' 31 = gI σ 31) (e30 : aI σ' 30 = upd (aI σ 30) k t) (ht : 0 ≤ t ∧ t ≤ 500) : VI σ' n := by sorry
theorem nT_subn {x y : Int32} (h0 : 0 ≤ y) (h : y ≤ x) : nT (x - y) = nT x - nT y ∧ nT y ≤ nT x := by sorry
theorem VI.pop {σ σ' : RS} {n : Nat} (h : VI σ n) (y : Int32) (h0 : 0 ≤ y) (hy : y ≤ gI σ 31) (e31 : gI σ' 31 = gI σ 31 - y) (e30 : aI σ' 30 = aI σ 30) : VI σ' (n - nT y) := by sorry
theorem t_add1 {x : Int32} (h : x.toInt < 2147483647) : (x + 1).toInt = x.toInt + 1 := by sorry
theorem t_sub {x y : Int32} (hx : 0 ≤ x.toInt) (hy : 0 ≤ y.toInt) : (x - y).toInt = x.toInt - y.toInt := by sorry
theorem t_sub1 {x : Int32} (hx : 0 ≤ x.toInt) : (x - 1).toInt = x.toInt - 1 := t_sub hx (by decide)
theorem t_le {x y : Int32} (h : x.toInt ≤ y.toInt) : x ≤ y := Int32.le_iff_toInt_le.mpr h
theorem t_lt {x y : Int32} (h : x.toInt < y.toInt) : x < y := Int32.lt_iff_toInt_lt.mpr h
theorem t_0 {x : Int32} (h : 0 ≤ x) : 0 ≤ x.toInt := Int32.le_iff_toInt_le.mp h
theorem t_nT {x : Int32} (h : 0 ≤ x) : x.toInt = (nT x : Int) := by sorry
def XI (σ0 σ : RS) (tp : List Nat) (k j : Int) : Prop := ∃ (L : List Nat) (d : Nat), Fx σ0 σ ∧ CI σ0 σ (tp ++ L) ∧ OI (aI σ0 6) σ L d ∧ VI σ (wl (tp ++ L)) ∧
  (0 ≤ (gI σ0 14).toInt ∧ (gI σ0 14).toInt ≤ (gI σ 14).toInt ∧ (gI σ 14).toInt ≤ 500) ∧ ((gI σ 29).toInt + j ≤ (gI σ 14).toInt ∧ (gI σ 31).toInt + j ≤ (gI σ 14).toInt ∧ -1 ≤ j ∧ 2 * (L.length : Int) + (tp.length : Int) + j ≤ (gI σ 14).toInt - (gI σ0 14).toInt) ∧
  ((gI σ 18).toInt - (gI σ0 18).toInt + 2 * (gI σ 29).toInt + k ≤ 4 * ((gI σ 14).toInt - (gI σ0 14).toInt) ∧ (gI σ0 18).toInt ≤ 6 * (gI σ0 14).toInt + 30 ∧ 0 ≤ k) ∧
  (0 ≤ (gI σ0 17).toInt ∧ (gI σ 17).toInt = (gI σ0 17).toInt + d ∧ (gI σ 17).toInt ≤ 20) ∧ AA σ0 σ ∧ (tp = [0] → (gI σ0 18).toInt ≤ (gI σ 33).toInt ∧ (gI σ 33).toInt < (gI σ 18).toInt)
/-- what the other parts need of it -/
theorem XI.numz {σ0 σ : RS} {tp : List Nat} {k j : Int} (h : XI σ0 σ tp k j) : 0 ≤ (gI σ 14).toInt ∧ (gI σ 14).toInt ≤ 500 ∧ 0 ≤ (gI σ 18).toInt ∧ (gI σ 18).toInt ≤ 3100 ∧ 0 ≤ (gI σ 29).toInt ∧ (gI σ 29).toInt ≤ 501 ∧ 0 ≤ (gI σ 31).toInt ∧ (gI σ 31).toInt ≤ 501 ∧ 0 ≤ (gI σ 17).toInt ∧ (gI σ 17).toInt ≤ 20 := by sorry
theorem XI.nums {σ0 σ : RS} {tp : List Nat} {k j : Int} (h : XI σ0 σ tp k j) : 0 ≤ gI σ 14 ∧ gI σ 14 ≤ 500 ∧ 0 ≤ gI σ 18 ∧ gI σ 18 ≤ 3100 ∧ 0 ≤ gI σ 29 ∧ gI σ 29 ≤ 501 ∧ 0 ≤ gI σ 31 ∧ gI σ 31 ≤ 501 ∧ 0 ≤ gI σ 17 ∧ gI σ 17 ≤ 20 := by sorry
theorem XI.weak {σ0 σ : RS} {tp : List Nat} {k j : Int} (h : XI σ0 σ tp k j) (k' j' : Int) (hk' : 0 ≤ k' ∧ k' ≤ k) (hj' : -1 ≤ j' ∧ j' ≤ j) : XI σ0 σ tp k' j' := by sorry
theorem XI.take {σ0 σ σ' : RS} {tp : List Nat} {k j : Int} (h : XI σ0 σ tp k j) (hp5 : gI σ 14 < 500) (hs : σ' = sI σ 14 (gI σ 14 + 1)) : XI σ0 σ' tp (k + 4) (j + 1) := by sorry
theorem XI.leaf {σ0 σ σ' : RS} {k j : Int} (h : XI σ0 σ [] (k + 1) (j + 1)) (o a b t f l : Int32) (ho : o = 1 ∨ o = 2 ∨ o = 3 ∨ o = 4) (hx : cx o t f l) (hlit : o = 1 → 0 ≤ a ∧ a ≤ 4) (hkj : 0 ≤ k ∧ 0 ≤ j)  (hF : Fx σ σ' := by repeat (first | exact Fx.rf | refine Fx.a ?_ rfl | refine Fx.i ?_ rfl)) (e18 : gI σ' 18 = gI σ 18 + 1 := by rfl) (e19 : aI σ' 19 = upd (aI σ 19) (nT (gI σ 18)) o := by first | rfl | exact upd_upd) (e20 : aI σ' 20 = upd (aI σ 20) (nT (gI σ 18)) a := by first | rfl | exact upd_upd) (e21 : aI σ' 21 = upd (aI σ 21) (nT (gI σ 18)) b := by first | rfl | exact upd_upd) (e22 : aI σ' 22 = upd (aI σ 22) (nT (gI σ 18)) t := by first | rfl | exact upd_upd) (e23 : aI σ' 23 = upd (aI σ 23) (nT (gI σ 18)) f := by first | rfl | exact upd_upd) (e24 : aI σ' 24 = upd (aI σ 24) (nT (gI σ 18)) l := by first | rfl | exact upd_upd) (e29 : gI σ' 29 = gI σ 29 := by rfl) (e25 : aI σ' 25 = aI σ 25 := by rfl) (e26 : aI σ' 26 = aI σ 26 := by rfl) (e27 : aI σ' 27 = aI σ 27 := by rfl) (e28 : aI σ' 28 = aI σ 28 := by rfl) (e31 : gI σ' 31 = gI σ 31 + 1 := by rfl) (e30 : aI σ' 30 = upd (aI σ 30) (nT (gI σ 31)) f := by rfl) (e14 : gI σ' 14 = gI σ 14 := by rfl) (e17 : gI σ' 17 = gI σ 17 := by rfl) (e32 : gI σ' 32 = l := by rfl) (e33 : gI σ' 33 = gI σ 18 := by rfl) : XI σ0 σ' [0] k j := by sorry
theorem XI.un {σ0 σ σ' : RS} {k j : Int} (h : XI σ0 σ [0] k j) (o a b t l : Int32) (ho : o = 5 ∨ o = 6) (hp0 : 0 < gI σ 29) (hs : aI σ 25 (nT (gI σ 29 - 1)) = 0 ∨ aI σ 25 (nT (gI σ 29 - 1)) = 1) (hx : cx o t t l) (hos : o = 6 → aI σ 25 (nT (gI σ 29 - 1)) = 1) (hag : a = aI σ 26 (nT (gI σ 29 - 1))) (hkj : 0 ≤ k ∧ 0 ≤ j)  (hF : Fx σ σ' := by repeat (first | exact Fx.rf | refine Fx.a ?_ rfl | refine Fx.i ?_ rfl)) (e18 : gI σ' 18 = gI σ 18 + 1 := by rfl) (e19 : aI σ' 19 = upd (aI σ 19) (nT (gI σ 18)) o := by first | rfl | exact upd_upd) (e20 : aI σ' 20 = upd (aI σ 20) (nT (gI σ 18)) a := by first | rfl | exact upd_upd) (e21 : aI σ' 21 = upd (aI σ 21) (nT (gI σ 18)) b := by first | rfl | exact upd_upd) (e22 : aI σ' 22 = upd (aI σ 22) (nT (gI σ 18)) t := by first | rfl | exact upd_upd) (e23 : aI σ' 23 = upd (aI σ 23) (nT (gI σ 18)) t := by first | rfl | exact upd_upd) (e24 : aI σ' 24 = upd (aI σ 24) (nT (gI σ 18)) l := by first | rfl | exact upd_upd) (e29 : gI σ' 29 = gI σ 29 - 1 := by rfl) (e25 : aI σ' 25 = aI σ 25 := by rfl) (e26 : aI σ' 26 = aI σ 26 := by rfl) (e27 : aI σ' 27 = aI σ 27 := by rfl) (e28 : aI σ' 28 = aI σ 28 := by rfl) (e31 : gI σ' 31 = gI σ 31 := by rfl) (e30 : aI σ' 30 = upd (aI σ 30) (nT (gI σ 31 - 1)) t := by rfl) (e14 : gI σ' 14 = gI σ 14 := by rfl) (e17 : gI σ' 17 = gI σ 17 - 1 := by rfl) (e32 : gI σ' 32 = gI σ 32 := by rfl) (e33 : gI σ' 33 = gI σ 18 := by rfl) : XI σ0 σ' [0] k j := by sorry
theorem XI.bin {σ0 σ σ' : RS} {k j : Int} (h : XI σ0 σ [0] k j) (o a b t f l : Int32) (hp0 : 0 < gI σ 29) (hs : aI σ 25 (nT (gI σ 29 - 1)) = 2) (ho : (aI σ 26 (nT (gI σ 29 - 1)) = 307 ∧ o = 9) ∨ (aI σ 26 (nT (gI σ 29 - 1)) = 308 ∧ o = 11) ∨ (¬ aI σ 26 (nT (gI σ 29 - 1)) = 307 ∧ ¬ aI σ 26 (nT (gI σ 29 - 1)) = 308 ∧ o = 7)) (hx : cx o t f l) (hkj : 0 ≤ k ∧ 0 ≤ j)  (hF : Fx σ σ' := by repeat (first | exact Fx.rf | refine Fx.a ?_ rfl | refine Fx.i ?_ rfl)) (e18 : gI σ' 18 = gI σ 18 + 1 := by rfl) (e19 : aI σ' 19 = upd (aI σ 19) (nT (gI σ 18)) o := by first | rfl | exact upd_upd) (e20 : aI σ' 20 = upd (aI σ 20) (nT (gI σ 18)) a := by first | rfl | exact upd_upd) (e21 : aI σ' 21 = upd (aI σ 21) (nT (gI σ 18)) b := by first | rfl | exact upd_upd) (e22 : aI σ' 22 = upd (aI σ 22) (nT (gI σ 18)) t := by first | rfl | exact upd_upd) (e23 : aI σ' 23 = upd (aI σ 23) (nT (gI σ 18)) f := by first | rfl | exact upd_upd) (e24 : aI σ' 24 = upd (aI σ 24) (nT (gI σ 18)) l := by first | rfl | exact upd_upd) (e29 : gI σ' 29 = gI σ 29 - 1 := by rfl) (e25 : aI σ' 25 = aI σ 25 := by rfl) (e26 : aI σ' 26 = aI σ 26 := by rfl) (e27 : aI σ' 27 = aI σ 27 := by rfl) (e28 : aI σ' 28 = aI σ 28 := by rfl) (e31 : gI σ' 31 = gI σ 31 - 1 := by rfl) (e30 : aI σ' 30 = aI σ 30 := by rfl) (e14 : gI σ' 14 = gI σ 14 := by rfl) (e17 : gI σ' 17 = gI σ 17 := by rfl) (e32 : gI σ' 32 = gI σ 32 := by rfl) (e33 : gI σ' 33 = gI σ 18 := by rfl) : XI σ0 σ' [0] k j := by sorry
theorem XI.pushb {σ0 σ σ' : RS} {k j : Int} (h : XI σ0 σ [0] (k + 2) (j + 1)) (s g t : Int32) (hs : s = 2) (hg : ¬ g = 307 ∧ ¬ g = 308) (ht : 0 ≤ t ∧ t ≤ 500) (hkj : 0 ≤ k ∧ 0 ≤ j)  (hF : Fx σ σ' := by repeat (first | exact Fx.rf | refine Fx.a ?_ rfl | refine Fx.i ?_ rfl)) (e18 : gI σ' 18 = gI σ 18 := by rfl) (e19 : aI σ' 19 = aI σ 19 := by rfl) (e20 : aI σ' 20 = aI σ 20 := by rfl) (e21 : aI σ' 21 = aI σ 21 := by rfl) (e22 : aI σ' 22 = aI σ 22 := by rfl) (e23 : aI σ' 23 = aI σ 23 := by rfl) (e24 : aI σ' 24 = aI σ 24 := by rfl) (e29 : gI σ' 29 = gI σ 29 + 1 := by rfl) (e25 : aI σ' 25 = upd (aI σ 25) (nT (gI σ 29)) s := by rfl) (e26 : aI σ' 26 = upd (aI σ 26) (nT (gI σ 29)) g := by rfl) (e27 : aI σ' 27 = upd (aI σ 27) (nT (gI σ 29)) t := by rfl) (e28 : aI σ' 28 = upd (aI σ 28) (nT (gI σ 29)) 0 := by rfl) (e31 : gI σ' 31 = gI σ 31 := by rfl) (e30 : aI σ' 30 = aI σ 30 := by rfl) (e14 : gI σ' 14 = gI σ 14 := by rfl) (e17 : gI σ' 17 = gI σ 17 := by rfl) (e32 : gI σ' 32 = gI σ 32 := by rfl)  : XI σ0 σ' [] k j := by sorry
theorem XI.pushf {σ0 σ σ' : RS} {k j : Int} (h : XI σ0 σ [0] (k + 3) (j + 1)) (o a t s g : Int32) (ho : o = 8 ∨ o = 10) (hs : s = 2) (hg : g = 307 ∨ g = 308) (hx : cx o t t t) (hkj : 0 ≤ k ∧ 0 ≤ j)  (hF : Fx σ σ' := by repeat (first | exact Fx.rf | refine Fx.a ?_ rfl | refine Fx.i ?_ rfl)) (e18 : gI σ' 18 = gI σ 18 + 1 := by rfl) (e19 : aI σ' 19 = upd (aI σ 19) (nT (gI σ 18)) o := by first | rfl | exact upd_upd) (e20 : aI σ' 20 = upd (aI σ 20) (nT (gI σ 18)) a := by first | rfl | exact upd_upd) (e21 : aI σ' 21 = upd (aI σ 21) (nT (gI σ 18)) 0 := by first | rfl | exact upd_upd) (e22 : aI σ' 22 = upd (aI σ 22) (nT (gI σ 18)) t := by first | rfl | exact upd_upd) (e23 : aI σ' 23 = upd (aI σ 23) (nT (gI σ 18)) t := by first | rfl | exact upd_upd) (e24 : aI σ' 24 = upd (aI σ 24) (nT (gI σ 18)) t := by first | rfl | exact upd_upd) (e29 : gI σ' 29 = gI σ 29 + 1 := by rfl) (e25 : aI σ' 25 = upd (aI σ 25) (nT (gI σ 29)) s := by rfl) (e26 : aI σ' 26 = upd (aI σ 26) (nT (gI σ 29)) g := by rfl) (e27 : aI σ' 27 = upd (aI σ 27) (nT (gI σ 29)) t := by rfl) (e28 : aI σ' 28 = upd (aI σ 28) (nT (gI σ 29)) 0 := by rfl) (e31 : gI σ' 31 = gI σ 31 := by rfl) (e30 : aI σ' 30 = aI σ 30 := by rfl) (e14 : gI σ' 14 = gI σ 14 := by rfl) (e17 : gI σ' 17 = gI σ 17 := by rfl) (e32 : gI σ' 32 = gI σ 32 := by rfl)  : XI σ0 σ' [] k j := by sorry
theorem XI.quest {σ0 σ σ' : RS} {k j : Int} (h : XI σ0 σ [0] (k + 3) (j + 1)) (a t s g : Int32) (hs : s = 6) (hdp : gI σ 17 < 20) (hx : cx 12 t t t) (hkj : 0 ≤ k ∧ 0 ≤ j)  (hF : Fx σ σ' := by repeat (first | exact Fx.rf | refine Fx.a ?_ rfl | refine Fx.i ?_ rfl)) (e18 : gI σ' 18 = gI σ 18 + 1 := by rfl) (e19 : aI σ' 19 = upd (aI σ 19) (nT (gI σ 18)) 12 := by first | rfl | exact upd_upd) (e20 : aI σ' 20 = upd (aI σ 20) (nT (gI σ 18)) a := by first | rfl | exact upd_upd) (e21 : aI σ' 21 = upd (aI σ 21) (nT (gI σ 18)) 0 := by first | rfl | exact upd_upd) (e22 : aI σ' 22 = upd (aI σ 22) (nT (gI σ 18)) t := by first | rfl | exact upd_upd) (e23 : aI σ' 23 = upd (aI σ 23) (nT (gI σ 18)) t := by first | rfl | exact upd_upd) (e24 : aI σ' 24 = upd (aI σ 24) (nT (gI σ 18)) t := by first | rfl | exact upd_upd) (e29 : gI σ' 29 = gI σ 29 + 1 := by rfl) (e25 : aI σ' 25 = upd (aI σ 25) (nT (gI σ 29)) s := by rfl) (e26 : aI σ' 26 = upd (aI σ 26) (nT (gI σ 29)) g := by rfl) (e27 : aI σ' 27 = upd (aI σ 27) (nT (gI σ 29)) t := by rfl) (e28 : aI σ' 28 = upd (aI σ 28) (nT (gI σ 29)) 0 := by rfl) (e31 : gI σ' 31 = gI σ 31 := by rfl) (e30 : aI σ' 30 = aI σ 30 := by rfl) (e14 : gI σ' 14 = gI σ 14 := by rfl) (e17 : gI σ' 17 = gI σ 17 + 1 := by rfl) (e32 : gI σ' 32 = gI σ 32 := by rfl)  : XI σ0 σ' [] k j := by sorry
theorem XI.push0 {σ0 σ σ' : RS} {k j : Int} (h : XI σ0 σ [] (k + 2) (j + 1)) (s g t : Int32) (hs : s = 0 ∨ s = 1 ∨ s = 3 ∨ s = 4 ∨ (s = 5 ∧ g = 61)) (hdp : gI σ 17 < 20) (ht : 0 ≤ t ∧ t ≤ 500) (hw : oy (aI σ 6) s g t) (hkj : 0 ≤ k ∧ 0 ≤ j)  (hF : Fx σ σ' := by repeat (first | exact Fx.rf | refine Fx.a ?_ rfl | refine Fx.i ?_ rfl)) (e18 : gI σ' 18 = gI σ 18 := by rfl) (e19 : aI σ' 19 = aI σ 19 := by rfl) (e20 : aI σ' 20 = aI σ 20 := by rfl) (e21 : aI σ' 21 = aI σ 21 := by rfl) (e22 : aI σ' 22 = aI σ 22 := by rfl) (e23 : aI σ' 23 = aI σ 23 := by rfl) (e24 : aI σ' 24 = aI σ 24 := by rfl) (e29 : gI σ' 29 = gI σ 29 + 1 := by rfl) (e25 : aI σ' 25 = upd (aI σ 25) (nT (gI σ 29)) s := by rfl) (e26 : aI σ' 26 = upd (aI σ 26) (nT (gI σ 29)) g := by rfl) (e27 : aI σ' 27 = upd (aI σ 27) (nT (gI σ 29)) t := by rfl) (e28 : aI σ' 28 = upd (aI σ 28) (nT (gI σ 29)) 0 := by rfl) (e31 : gI σ' 31 = gI σ 31 := by rfl) (e30 : aI σ' 30 = aI σ 30 := by rfl) (e14 : gI σ' 14 = gI σ 14 := by rfl) (e17 : gI σ' 17 = gI σ 17 + 1 := by rfl) (e32 : gI σ' 32 = gI σ 32 := by rfl)  : XI σ0 σ' [] k j := by sorry
theorem XI.pusha {σ0 σ σ' : RS} {k j : Int} (h : XI σ0 σ [] (k + 3) (j + 2)) (a t s g : Int32) (hs : s = 5) (hg : ¬ g = 61) (hdp : gI σ 17 < 20) (hx : cx 16 t t t) (hw : aI σ 6 (nT t + 1) = 61 ∨ 400 < aI σ 6 (nT t + 1)) (hkj : 0 ≤ k ∧ 0 ≤ j)  (hF : Fx σ σ' := by repeat (first | exact Fx.rf | refine Fx.a ?_ rfl | refine Fx.i ?_ rfl)) (e18 : gI σ' 18 = gI σ 18 + 1 := by rfl) (e19 : aI σ' 19 = upd (aI σ 19) (nT (gI σ 18)) 16 := by first | rfl | exact upd_upd) (e20 : aI σ' 20 = upd (aI σ 20) (nT (gI σ 18)) a := by first | rfl | exact upd_upd) (e21 : aI σ' 21 = upd (aI σ 21) (nT (gI σ 18)) 0 := by first | rfl | exact upd_upd) (e22 : aI σ' 22 = upd (aI σ 22) (nT (gI σ 18)) t := by first | rfl | exact upd_upd) (e23 : aI σ' 23 = upd (aI σ 23) (nT (gI σ 18)) t := by first | rfl | exact upd_upd) (e24 : aI σ' 24 = upd (aI σ 24) (nT (gI σ 18)) t := by first | rfl | exact upd_upd) (e29 : gI σ' 29 = gI σ 29 + 1 := by rfl) (e25 : aI σ' 25 = upd (aI σ 25) (nT (gI σ 29)) s := by rfl) (e26 : aI σ' 26 = upd (aI σ 26) (nT (gI σ 29)) g := by rfl) (e27 : aI σ' 27 = upd (aI σ 27) (nT (gI σ 29)) t := by rfl) (e28 : aI σ' 28 = upd (aI σ 28) (nT (gI σ 29)) 0 := by rfl) (e31 : gI σ' 31 = gI σ 31 := by rfl) (e30 : aI σ' 30 = aI σ 30 := by rfl) (e14 : gI σ' 14 = gI σ 14 := by rfl) (e17 : gI σ' 17 = gI σ 17 + 1 := by rfl) (e32 : gI σ' 32 = gI σ 32 := by rfl)  : XI σ0 σ' [] k j := by sorry
theorem XI.qx {σ0 σ σ' : RS} {k j : Int} (h : XI σ0 σ [0] k j) (a b t f l : Int32) (hp0 : 0 < gI σ 29) (hs : aI σ 25 (nT (gI σ 29 - 1)) = 7) (hx : cx 14 t f l) (hkj : 0 ≤ k ∧ 0 ≤ j)  (hF : Fx σ σ' := by repeat (first | exact Fx.rf | refine Fx.a ?_ rfl | refine Fx.i ?_ rfl)) (e18 : gI σ' 18 = gI σ 18 + 1 := by rfl) (e19 : aI σ' 19 = upd (aI σ 19) (nT (gI σ 18)) 14 := by first | rfl | exact upd_upd) (e20 : aI σ' 20 = upd (aI σ 20) (nT (gI σ 18)) a := by first | rfl | exact upd_upd) (e21 : aI σ' 21 = upd (aI σ 21) (nT (gI σ 18)) b := by first | rfl | exact upd_upd) (e22 : aI σ' 22 = upd (aI σ 22) (nT (gI σ 18)) t := by first | rfl | exact upd_upd) (e23 : aI σ' 23 = upd (aI σ 23) (nT (gI σ 18)) f := by first | rfl | exact upd_upd) (e24 : aI σ' 24 = upd (aI σ 24) (nT (gI σ 18)) l := by first | rfl | exact upd_upd) (e29 : gI σ' 29 = gI σ 29 - 1 := by rfl) (e25 : aI σ' 25 = aI σ 25 := by rfl) (e26 : aI σ' 26 = aI σ 26 := by rfl) (e27 : aI σ' 27 = aI σ 27 := by rfl) (e28 : aI σ' 28 = aI σ 28 := by rfl) (e31 : gI σ' 31 = gI σ 31 - 2 := by rfl) (e30 : aI σ' 30 = aI σ 30 := by rfl) (e14 : gI σ' 14 = gI σ 14 := by rfl) (e17 : gI σ' 17 = gI σ 17 - 1 := by rfl) (e32 : gI σ' 32 = gI σ 32 := by rfl) (e33 : gI σ' 33 = gI σ 18 := by rfl) : XI σ0 σ' [0] k j := by sorry
theorem XI.asg {σ0 σ σ' : RS} {k j : Int} (h : XI σ0 σ [0] k j) (a b t l : Int32) (hp0 : 0 < gI σ 29) (hs : aI σ 25 (nT (gI σ 29 - 1)) = 5) (ha : a = aI σ 26 (nT (gI σ 29 - 1))) (hx : cx 17 t t l) (hkj : 0 ≤ k ∧ 0 ≤ j) (htt : t = aI σ 27 (nT (gI σ 29 - 1)) := by rfl) (hF : Fx σ σ' := by repeat (first | exact Fx.rf | refine Fx.a ?_ rfl | refine Fx.i ?_ rfl)) (e18 : gI σ' 18 = gI σ 18 + 1 := by rfl) (e19 : aI σ' 19 = upd (aI σ 19) (nT (gI σ 18)) 17 := by first | rfl | exact upd_upd) (e20 : aI σ' 20 = upd (aI σ 20) (nT (gI σ 18)) a := by first | rfl | exact upd_upd) (e21 : aI σ' 21 = upd (aI σ 21) (nT (gI σ 18)) b := by first | rfl | exact upd_upd) (e22 : aI σ' 22 = upd (aI σ 22) (nT (gI σ 18)) t := by first | rfl | exact upd_upd) (e23 : aI σ' 23 = upd (aI σ 23) (nT (gI σ 18)) t := by first | rfl | exact upd_upd) (e24 : aI σ' 24 = upd (aI σ 24) (nT (gI σ 18)) l := by first | rfl | exact upd_upd) (e29 : gI σ' 29 = gI σ 29 - 1 := by rfl) (e25 : aI σ' 25 = aI σ 25 := by rfl) (e26 : aI σ' 26 = aI σ 26 := by rfl) (e27 : aI σ' 27 = aI σ 27 := by rfl) (e28 : aI σ' 28 = aI σ 28 := by rfl) (e31 : gI σ' 31 = gI σ 31 := by rfl) (e30 : aI σ' 30 = upd (aI σ 30) (nT (gI σ 31 - 1)) t := by rfl) (e14 : gI σ' 14 = gI σ 14 := by rfl) (e17 : gI σ' 17 = gI σ 17 - 1 := by rfl) (e32 : gI σ' 32 = gI σ 32 := by rfl) (e33 : gI σ' 33 = gI σ 18 := by rfl) : XI σ0 σ' [0] k j := by sorry
theorem XI.group {σ0 σ σ' : RS} {k j : Int} (h : XI σ0 σ [0] k j) (t l : Int32) (hp0 : 0 < gI σ 29) (hp5 : gI σ 14 < 500) (hs : aI σ 25 (nT (gI σ 29 - 1)) = 3) (hx : cx 15 t t l) (hkj : 0 ≤ k ∧ 0 ≤ j)  (hF : Fx σ σ' := by repeat (first | exact Fx.rf | refine Fx.a ?_ rfl | refine Fx.i ?_ rfl)) (e18 : gI σ' 18 = gI σ 18 + 1 := by rfl) (e19 : aI σ' 19 = upd (aI σ 19) (nT (gI σ 18)) 15 := by first | rfl | exact upd_upd) (e20 : aI σ' 20 = upd (aI σ 20) (nT (gI σ 18)) 0 := by first | rfl | exact upd_upd) (e21 : aI σ' 21 = upd (aI σ 21) (nT (gI σ 18)) 0 := by first | rfl | exact upd_upd) (e22 : aI σ' 22 = upd (aI σ 22) (nT (gI σ 18)) t := by first | rfl | exact upd_upd) (e23 : aI σ' 23 = upd (aI σ 23) (nT (gI σ 18)) t := by first | rfl | exact upd_upd) (e24 : aI σ' 24 = upd (aI σ 24) (nT (gI σ 18)) l := by first | rfl | exact upd_upd) (e29 : gI σ' 29 = gI σ 29 - 1 := by rfl) (e25 : aI σ' 25 = aI σ 25 := by rfl) (e26 : aI σ' 26 = aI σ 26 := by rfl) (e27 : aI σ' 27 = aI σ 27 := by rfl) (e28 : aI σ' 28 = aI σ 28 := by rfl) (e31 : gI σ' 31 = gI σ 31 := by rfl) (e30 : aI σ' 30 = upd (aI σ 30) (nT (gI σ 31 - 1)) t := by rfl) (e14 : gI σ' 14 = gI σ 14 + 1 := by rfl) (e17 : gI σ' 17 = gI σ 17 - 1 := by rfl) (e32 : gI σ' 32 = l := by rfl) (e33 : gI σ' 33 = gI σ 18 := by rfl) : XI σ0 σ' [0] k j := by sorry
theorem XI.arg {σ0 σ σ' : RS} {k j : Int} (h : XI σ0 σ [0] k j) (hp0 : 0 < gI σ 29) (hs : aI σ 25 (nT (gI σ 29 - 1)) = 4) (hkj : 0 ≤ k ∧ 0 ≤ j)  (hF : Fx σ σ' := by repeat (first | exact Fx.rf | refine Fx.a ?_ rfl | refine Fx.i ?_ rfl)) (e18 : gI σ' 18 = gI σ 18 := by rfl) (e19 : aI σ' 19 = aI σ 19 := by rfl) (e20 : aI σ' 20 = aI σ 20 := by rfl) (e21 : aI σ' 21 = aI σ 21 := by rfl) (e22 : aI σ' 22 = aI σ 22 := by rfl) (e23 : aI σ' 23 = aI σ 23 := by rfl) (e24 : aI σ' 24 = aI σ 24 := by rfl) (e29 : gI σ' 29 = gI σ 29 := by rfl) (e25 : aI σ' 25 = aI σ 25 := by rfl) (e26 : aI σ' 26 = aI σ 26 := by rfl) (e27 : aI σ' 27 = aI σ 27 := by rfl) (e28 : aI σ' 28 = upd (aI σ 28) (nT (gI σ 29 - 1)) (aI σ 28 (nT (gI σ 29 - 1)) + 1) := by rfl) (e31 : gI σ' 31 = gI σ 31 := by rfl) (e30 : aI σ' 30 = aI σ 30 := by rfl) (e14 : gI σ' 14 = gI σ 14 := by rfl) (e17 : gI σ' 17 = gI σ 17 := by rfl) (e32 : gI σ' 32 = gI σ 32 := by rfl)  : XI σ0 σ' [] k (j - 1) := by sorry
theorem XI.call {σ0 σ σ' : RS} {k j : Int} (h : XI σ0 σ [] k j) (n t l : Int32) (hp0 : 0 < gI σ 29) (hp5 : gI σ 14 < 500) (hs : aI σ 25 (nT (gI σ 29 - 1)) = 4) (ha : n = aI σ 28 (nT (gI σ 29 - 1))) (hx : cx 18 t t l) (hjn : j = 0 ∨ (j = -1 ∧ 1 ≤ n)) (hkj : 0 ≤ k) (htt : t = aI σ 27 (nT (gI σ 29 - 1)) := by rfl) (hF : Fx σ σ' := by repeat (first | exact Fx.rf | refine Fx.a ?_ rfl | refine Fx.i ?_ rfl)) (e18 : gI σ' 18 = gI σ 18 + 1 := by rfl) (e19 : aI σ' 19 = upd (aI σ 19) (nT (gI σ 18)) 18 := by first | rfl | exact upd_upd) (e20 : aI σ' 20 = upd (aI σ 20) (nT (gI σ 18)) n := by first | rfl | exact upd_upd) (e21 : aI σ' 21 = upd (aI σ 21) (nT (gI σ 18)) 0 := by first | rfl | exact upd_upd) (e22 : aI σ' 22 = upd (aI σ 22) (nT (gI σ 18)) t := by first | rfl | exact upd_upd) (e23 : aI σ' 23 = upd (aI σ 23) (nT (gI σ 18)) t := by first | rfl | exact upd_upd) (e24 : aI σ' 24 = upd (aI σ 24) (nT (gI σ 18)) l := by first | rfl | exact upd_upd) (e29 : gI σ' 29 = gI σ 29 - 1 := by rfl) (e25 : aI σ' 25 = aI σ 25 := by rfl) (e26 : aI σ' 26 = aI σ 26 := by rfl) (e27 : aI σ' 27 = aI σ 27 := by rfl) (e28 : aI σ' 28 = aI σ 28 := by rfl) (e31 : gI σ' 31 = gI σ 31 - n + 1 := by rfl) (e30 : aI σ' 30 = upd (aI σ 30) (nT (gI σ 31 - n)) t := by rfl) (e14 : gI σ' 14 = gI σ 14 + 1 := by rfl) (e17 : gI σ' 17 = gI σ 17 - 1 := by rfl) (e32 : gI σ' 32 = l := by rfl) (e33 : gI σ' 33 = gI σ 18 := by rfl) : XI σ0 σ' [0] k 0 := by sorry
theorem XI.colon {σ0 σ σ' : RS} {k j : Int} (h : XI σ0 σ [0] k j) (t : Int32) (hp0 : 0 < gI σ 29) (hp5 : gI σ 14 < 500) (hs : aI σ 25 (nT (gI σ 29 - 1)) = 6) (hx : cx 13 t t t) (hkj : 0 ≤ k ∧ 0 ≤ j)  (hF : Fx σ σ' := by repeat (first | exact Fx.rf | refine Fx.a ?_ rfl | refine Fx.i ?_ rfl)) (e18 : gI σ' 18 = gI σ 18 + 1 := by rfl) (e19 : aI σ' 19 = upd (aI σ 19) (nT (gI σ 18)) 13 := by first | rfl | exact upd_upd) (e20 : aI σ' 20 = upd (aI σ 20) (nT (gI σ 18)) 0 := by first | rfl | exact upd_upd) (e21 : aI σ' 21 = upd (aI σ 21) (nT (gI σ 18)) 0 := by first | rfl | exact upd_upd) (e22 : aI σ' 22 = upd (aI σ 22) (nT (gI σ 18)) t := by first | rfl | exact upd_upd) (e23 : aI σ' 23 = upd (aI σ 23) (nT (gI σ 18)) t := by first | rfl | exact upd_upd) (e24 : aI σ' 24 = upd (aI σ 24) (nT (gI σ 18)) t := by first | rfl | exact upd_upd) (e29 : gI σ' 29 = gI σ 29 - 1 + 1 := by rfl) (e25 : aI σ' 25 = upd (aI σ 25) (nT (gI σ 29 - 1)) 7 := by rfl) (e26 : aI σ' 26 = upd (aI σ 26) (nT (gI σ 29 - 1)) 0 := by rfl) (e27 : aI σ' 27 = upd (aI σ 27) (nT (gI σ 29 - 1)) t := by rfl) (e28 : aI σ' 28 = upd (aI σ 28) (nT (gI σ 29 - 1)) 0 := by rfl) (e31 : gI σ' 31 = gI σ 31 := by rfl) (e30 : aI σ' 30 = aI σ 30 := by rfl) (e14 : gI σ' 14 = gI σ 14 + 1 := by rfl) (e17 : gI σ' 17 = gI σ 17 - 1 + 1 := by rfl) (e32 : gI σ' 32 = gI σ 32 := by rfl)  : XI σ0 σ' [] k j := by sorry
theorem XI.top {σ0 σ : RS} {tp : List Nat} {k j : Int} (h : XI σ0 σ tp k j) (hp : 0 < gI σ 29) : ox (aI σ 25 (gI σ 29 - 1).toNatClampNeg) (aI σ 27 (gI σ 29 - 1).toNatClampNeg) (aI σ 28 (gI σ 29 - 1).toNatClampNeg) := by sorry
theorem XI.w1 {σ0 σ : RS} {k j : Int} (h : XI σ0 σ [0] k j) : 1 ≤ gI σ 31 := by sorry
theorem XI.w2 {σ0 σ : RS} {k j : Int} (h : XI σ0 σ [0] k j) (hp : 0 < gI σ 29) (hs : aI σ 25 (gI σ 29 - 1).toNatClampNeg = 2) : 2 ≤ gI σ 31 := by sorry
theorem XI.w3 {σ0 σ : RS} {k j : Int} (h : XI σ0 σ [0] k j) (hp : 0 < gI σ 29) (hs : aI σ 25 (gI σ 29 - 1).toNatClampNeg = 7) : 3 ≤ gI σ 31 := by sorry
theorem XI.vf {σ0 σ : RS} {tp : List Nat} {k j : Int} (h : XI σ0 σ tp k j) {x : Int32} (h0 : 0 ≤ x) (hx : x < gI σ 31) : 0 ≤ aI σ 30 x.toNatClampNeg ∧ aI σ 30 x.toNatClampNeg ≤ 500 := by sorry
theorem XI.fx {σ0 σ : RS} {tp : List Nat} {k j : Int} (h : XI σ0 σ tp k j) : Fx σ0 σ := h.choose_spec.choose_spec.1
def P_strength : RP := fun As σ => match As with
  | [.int s] => True
  | _ => False
def Q_strength : RQ := fun As σ w τ => match As with
  | [.int s] => ∃ r : Int32, w = some (.int r) ∧ τ = σ
  | _ => False
set_option maxRecDepth 100000 in
set_option maxHeartbeats 4000000 in
theorem b_strength : Bod Bstrength [] P_strength Q_strength := by sorry
theorem m_strength (l : Launch) : RMet l 1 22 P_strength Q_strength := by sorry
set_option maxRecDepth 100000 in
theorem e_strength (l : Launch) : RMetE l 1 22 P_strength Q_strength := by sorry
def P_reduce : RP := fun As σ => match As with
  | [.int least] => ∃ σ0, XI σ0 σ [0] 0 0
  | _ => False
def Q_reduce : RQ := fun As σ w τ => match As with
  | [.int least] => w = none ∧ (∀ σ0, XI σ0 σ [0] 0 0 → XI σ0 τ [0] 0 0) ∧ (gI τ 14) = (gI σ 14) ∧ Fx σ τ ∧ nT (gI τ 29) ≤ nT (gI σ 29)
  | _ => False
set_option maxRecDepth 100000 in
set_option maxHeartbeats 4000000 in
theorem b_reduce : Bod Breduce [(21, P_emitExp, Q_emitExp), (22, P_strength, Q_strength)] P_reduce Q_reduce := by sorry
theorem m_reduce (l : Launch) : RMet l 3 32 P_reduce Q_reduce := by sorry
set_option maxRecDepth 100000 in
theorem e_reduce (l : Launch) : RMetE l 3 32 P_reduce Q_reduce := by sorry
def P_complete : RP := fun As σ => match As with
  | [] => ∃ σ0, XI σ0 σ [0] 0 0
  | _ => False
def Q_complete : RQ := fun As σ w τ => match As with
  | [] => w = none ∧ (∀ σ0, XI σ0 σ [0] 0 0 → XI σ0 τ [0] 0 0) ∧ (gI τ 14) = (gI σ 14) ∧ Fx σ τ ∧ nT (gI τ 29) ≤ nT (gI σ 29)
  | _ => False
set_option maxRecDepth 100000 in
set_option maxHeartbeats 4000000 in
theorem b_complete : Bod Bcomplete [(21, P_emitExp, Q_emitExp), (32, P_reduce, Q_reduce)] P_complete Q_complete := by sorry
theorem m_complete (l : Launch) : RMet l 4 33 P_complete Q_complete := by sorry
set_option maxRecDepth 100000 in
theorem e_complete (l : Launch) : RMetE l 4 33 P_complete Q_complete := by sorry
theorem XI.sm {σ0 σ σ' : RS} {tp : List Nat} {k j : Int} (h : XI σ0 σ tp k j) (hF : Fx σ σ' := by repeat (first | exact Fx.rf | refine Fx.a ?_ rfl | refine Fx.i ?_ rfl)) (e18 : gI σ' 18 = gI σ 18 := by rfl) (e19 : aI σ' 19 = aI σ 19 := by rfl) (e20 : aI σ' 20 = aI σ 20 := by rfl) (e21 : aI σ' 21 = aI σ 21 := by rfl) (e22 : aI σ' 22 = aI σ 22 := by rfl) (e23 : aI σ' 23 = aI σ 23 := by rfl) (e24 : aI σ' 24 = aI σ 24 := by rfl) (e29 : gI σ' 29 = gI σ 29 := by rfl) (e25 : aI σ' 25 = aI σ 25 := by rfl) (e26 : aI σ' 26 = aI σ 26 := by rfl) (e27 : aI σ' 27 = aI σ 27 := by rfl) (e28 : aI σ' 28 = aI σ 28 := by rfl) (e31 : gI σ' 31 = gI σ 31 := by rfl) (e30 : aI σ' 30 = aI σ 30 := by rfl) (e14 : gI σ' 14 = gI σ 14 := by rfl) (e17 : gI σ' 17 = gI σ 17 := by rfl) (e32 : gI σ' 32 = gI σ 32 := by rfl) (e33 : gI σ' 33 = gI σ 33 := by rfl) : XI σ0 σ' tp k j := by sorry
theorem XI.wz {σ0 σ : RS} {tp : List Nat} {k j : Int} (h : XI σ0 σ tp k j) : ∀ t, 0 ≤ aI σ 6 t := by sorry
theorem XI.wn {σ0 σ : RS} {tp : List Nat} {k j : Int} (h : XI σ0 σ tp k j) (hp : 0 < gI σ 29) (hs : aI σ 25 (gI σ 29 - 1).toNatClampNeg = 4) : 0 ≤ aI σ 28 (gI σ 29 - 1).toNatClampNeg ∧ aI σ 28 (gI σ 29 - 1).toNatClampNeg ≤ gI σ 31 := by sorry
theorem wn40 {W : Nat → Int32} {t v : Int32} (h0 : 0 ≤ t) (h1 : t ≤ 1000) (h : W (t + 1).toNatClampNeg = v) : W (nT t + 1) = v := by sorry
theorem wnS {W : Nat → Int32} {t : Int32} (h0 : 0 ≤ t) (h1 : t ≤ 1000) (h : W (t + 1).toNatClampNeg = 61 ∨ 400 < W (t + 1).toNatClampNeg) : W (nT t + 1) = 61 ∨ 400 < W (nT t + 1) := by sorry
def XC (σ0 σ : RS) : Prop := XI σ0 σ [] 0 0 ∨ (XI σ0 σ [] 0 (-1) ∧ 1 ≤ aI σ 28 (gI σ 29 - 1).toNatClampNeg)
theorem XC.x {σ0 σ : RS} (h : XC σ0 σ) : ∃ j, XI σ0 σ [] 0 j ∧ (j = 0 ∨ (j = -1 ∧ 1 ≤ aI σ 28 (gI σ 29 - 1).toNatClampNeg)) := by sorry
def XR (σ τ : RS) : Prop := (∀ σ0, XI σ0 σ [] 0 0 → (gI τ 34 = 1 ∧ XI σ0 τ [] 0 0 ∧ (gI τ 35 = 0 ∨ gI τ 35 = 1)) ∨ (gI τ 34 = 0 ∧ XI σ0 τ [0] 0 0)) ∧ gI σ 14 < gI τ 14
def P_closeCall : RP := fun As σ => match As with
  | [] => (∃ σ0, XC σ0 σ) ∧ 0 < (gI σ 29) ∧ aI σ 25 (gI σ 29 - 1).toNatClampNeg = 4
  | _ => False
def Q_closeCall : RQ := fun As σ w τ => match As with
  | [] => ∃ r : Int32, w = some (.int r) ∧ ((r = 0 ∧ Fx σ τ) ∨ (r = 1 ∧ (∀ σ0, XC σ0 σ → XI σ0 τ [0] 0 0) ∧ (gI τ 34) = 0 ∧ (gI σ 14) < (gI τ 14)))
  | _ => False
set_option maxRecDepth 100000 in
set_option maxHeartbeats 4000000 in
theorem b_closeCall : Bod BcloseCall [(21, P_emitExp, Q_emitExp), (17, P_take, Q_take), (26, P_whole, Q_whole)] P_closeCall Q_closeCall := by sorry
theorem m_closeCall (l : Launch) : RMet l 3 31 P_closeCall Q_closeCall := by sorry
set_option maxRecDepth 100000 in
theorem e_closeCall (l : Launch) : RMetE l 3 31 P_closeCall Q_closeCall := by sorry
def P_named : RP := fun As σ => match As with
  | [.int begins] => (∃ σ0, XI σ0 σ [] 0 0) ∧ (gI σ 34) = 0 ∧ (begins = 0 ∨ begins = 1)
  | _ => False
def Q_named : RQ := fun As σ w τ => match As with
  | [.int begins] => ∃ r : Int32, w = some (.int r) ∧ ((r = 0 ∧ Fx σ τ) ∨ (r = 1 ∧ XR σ τ))
  | _ => False
set_option maxRecDepth 100000 in
set_option maxHeartbeats 4000000 in
theorem b_named : Bod Bnamed [(31, P_closeCall, Q_closeCall), (20, P_emit, Q_emit), (21, P_emitExp, Q_emitExp), (19, P_enter, Q_enter), (24, P_isSetAt, Q_isSetAt), (14, P_isSign, Q_isSign), (25, P_push, Q_push), (17, P_take, Q_take), (28, P_wait, Q_wait), (26, P_whole, Q_whole)] P_named Q_named := by sorry
theorem m_named (l : Launch) : RMet l 4 30 P_named Q_named := by sorry
set_option maxRecDepth 100000 in
theorem e_named (l : Launch) : RMetE l 4 30 P_named Q_named := by sorry
def P_operand : RP := fun As σ => match As with
  | [.int begins] => (∃ σ0, XI σ0 σ [] 0 0) ∧ (begins = 0 ∨ begins = 1)
  | _ => False
def Q_operand : RQ := fun As σ w τ => match As with
  | [.int begins] => ∃ r : Int32, w = some (.int r) ∧ ((r = 0 ∧ Fx σ τ) ∨ (r = 1 ∧ XR σ τ))
  | _ => False
set_option maxRecDepth 100000 in
set_option maxHeartbeats 4000000 in
theorem b_operand : Bod Boperand [(13, P_cant, Q_cant), (21, P_emitExp, Q_emitExp), (19, P_enter, Q_enter), (14, P_isSign, Q_isSign), (23, P_isType, Q_isType), (15, P_isWord, Q_isWord), (30, P_named, Q_named), (25, P_push, Q_push), (17, P_take, Q_take), (28, P_wait, Q_wait), (18, P_want, Q_want), (26, P_whole, Q_whole)] P_operand Q_operand := by sorry
theorem m_operand (l : Launch) : RMet l 5 29 P_operand Q_operand := by sorry
set_option maxRecDepth 100000 in
theorem e_operand (l : Launch) : RMetE l 5 29 P_operand Q_operand := by sorry
theorem XI.d1 {σ0 σ : RS} {tp : List Nat} {k j : Int} (h : XI σ0 σ tp k j) (hp : 0 < gI σ 29) (hs : aI σ 25 (gI σ 29 - 1).toNatClampNeg = 6) : 1 ≤ gI σ 17 := by sorry
theorem XC.ar {σ0 σ : RS} (h : XI σ0 σ [0] 0 0) (hp : 0 < gI σ 29) (hs : aI σ 25 (gI σ 29 - 1).toNatClampNeg = 4) : XC σ0 (sA σ 28 (upd (aI σ 28) (gI σ 29 - 1).toNatClampNeg (aI σ 28 (gI σ 29 - 1).toNatClampNeg + 1))) := by sorry
theorem mlt {x y : Int32} {n : Nat} (hn : (500 - x.toInt).toNat = n) (h : x < y) (h5 : y ≤ 500) : (500 - y.toInt).toNat < n := by sorry
def P_behind : RP := fun As σ => match As with
  | [] => ∃ σ0, XI σ0 σ [0] 0 0
  | _ => False
def Q_behind : RQ := fun As σ w τ => match As with
  | [] => ∃ r : Int32, w = some (.int r) ∧ ((r = 0 ∧ ∀ σ0, XI σ0 σ [0] 0 0 → Fx σ0 τ) ∨ (r = 1 ∧ ∀ σ0, XI σ0 σ [0] 0 0 → (gI τ 34 = 1 ∧ XI σ0 τ [] 0 0 ∧ (gI τ 35 = 0 ∨ gI τ 35 = 1) ∧ gI σ 14 < gI τ 14) ∨ (gI τ 34 = 0 ∧ XI σ0 τ [0] 0 0 ∧ gI τ 29 = 0 ∧ gI σ 14 ≤ gI τ 14)))
  | _ => False
set_option maxRecDepth 100000 in
set_option maxHeartbeats 4000000 in
theorem b_behind : Bod Bbehind [(13, P_cant, Q_cant), (31, P_closeCall, Q_closeCall), (33, P_complete, Q_complete), (20, P_emit, Q_emit), (21, P_emitExp, Q_emitExp), (19, P_enter, Q_enter), (14, P_isSign, Q_isSign), (25, P_push, Q_push), (32, P_reduce, Q_reduce), (22, P_strength, Q_strength), (17, P_take, Q_take), (28, P_wait, Q_wait)] P_behind Q_behind := by sorry
theorem m_behind (l : Launch) : RMet l 5 34 P_behind Q_behind := by sorry
set_option maxRecDepth 100000 in
theorem e_behind (l : Launch) : RMetE l 5 34 P_behind Q_behind := by sorry
def XP (σ : RS) : Prop := (0 ≤ (gI σ 14).toInt ∧ (gI σ 14).toInt ≤ 500) ∧ (0 ≤ (gI σ 18).toInt ∧ (gI σ 18).toInt ≤ 6 * (gI σ 14).toInt + 30) ∧ (0 ≤ (gI σ 17).toInt ∧ (gI σ 17).toInt ≤ 20) ∧ WZ σ ∧ Es (aI σ 19) (aI σ 20) (aI σ 21) (nT (gI σ 18)) = some []
def AE (σ τ : RS) : Prop := ∀ i, nT (gI σ 18) ≤ i → i < nT (gI τ 18) → aI τ 19 i = 16 → ∃ i', i' < nT (gI τ 18) ∧ aI τ 19 i' = 17 ∧ aI τ 22 i' = aI τ 22 i
def XE (σ τ : RS) : Prop := Fx σ τ ∧ CI σ τ [0] ∧ ((gI σ 14).toInt < (gI τ 14).toInt ∧ (gI τ 14).toInt ≤ 500) ∧ (gI τ 18).toInt - (gI σ 18).toInt ≤ 4 * ((gI τ 14).toInt - (gI σ 14).toInt) ∧ gI τ 17 = gI σ 17 ∧ AE σ τ ∧ ((gI σ 18).toInt ≤ (gI τ 33).toInt ∧ (gI τ 33).toInt < (gI τ 18).toInt)
theorem XI.start {σ : RS} (h : XP σ) : XI σ (sI (sI σ 29 0) 31 0) [] 0 0 := by sorry
theorem XI.done {σ τ : RS} (h : XI σ τ [0] 0 0) (ho : gI τ 29 = 0) (hp : gI σ 14 < gI τ 14) : XE σ τ := by sorry
def P_expression : RP := fun As σ => match As with
  | [] => XP σ
  | _ => False
def Q_expression : RQ := fun As σ w τ => match As with
  | [] => ∃ r : Int32, w = some (.int r) ∧ ((r = 0 ∧ Fx σ τ) ∨ (r = 1 ∧ XE σ τ))
  | _ => False
set_option maxRecDepth 100000 in
set_option maxHeartbeats 4000000 in
theorem b_expression : Bod Bexpression [(34, P_behind, Q_behind), (29, P_operand, Q_operand)] P_expression Q_expression := by sorry
theorem m_expression (l : Launch) : RMet l 6 27 P_expression Q_expression := by sorry
set_option maxRecDepth 100000 in
theorem e_expression (l : Launch) : RMetE l 6 27 P_expression Q_expression := by sorry
/-! the statements among the codes: what is open ahead of each: (its latest code's sort, its thing), an S begun: (20, its code's place); and how many methods have ended -/
abbrev SS : Type := List (Nat × Nat) × Nat
def sSt (n : Nat) (a : Int32) (c : Nat) (s : SS) : Option SS := match n with
  | 20 => some ((20, c) :: s.1, s.2)
  | 45 => match s.1 with
    | q :: r => if q = (20, nT a) then some (r, s.2) else none
    | [] => none
  | 23 => some ((23, nT a) :: s.1, s.2)
  | 24 => match s.1 with
    | q :: r => if q = (23, nT a) then some ((24, nT a) :: r, s.2) else none
    | [] => none
  | 25 => match s.1 with
    | q :: r => if q = (23, nT a) ∨ q = (24, nT a) then some (r, s.2) else none
    | [] => none
  | 26 => some ((26, nT a) :: s.1, s.2)
  | 27 => match s.1 with
    | q :: r => if q = (26, nT a) then some ((27, nT a) :: r, s.2) else none
    | [] => none
  | 28 => match s.1 with
    | q :: r => if q = (27, nT a) then some (r, s.2) else none
    | [] => none
  | 29 => some ((29, nT a) :: s.1, s.2)
  | 30 => match s.1 with
    | q :: r => if q = (29, nT a) then some ((30, nT a) :: r, s.2) else none
    | [] => none
  | 31 => match s.1 with
    | q :: r => if q = (30, nT a) then some (r, s.2) else none
    | [] => none
  | 32 => some ((32, nT a) :: s.1, s.2)
  | 33 => match s.1 with
    | q :: r => if q = (32, nT a) then some ((33, nT a) :: r, s.2) else none
    | [] => none
  | 34 => match s.1 with
    | q :: r => if q = (33, nT a) then some ((34, nT a) :: r, s.2) else none
    | [] => none
  | 35 => match s.1 with
    | q :: r => if q = (34, nT a) then some ((35, nT a) :: r, s.2) else none
    | [] => none
  | 36 => match s.1 with
    | q :: r => if q = (35, nT a) then some (r, s.2) else none
    | [] => none
  | 37 => some ((37, nT a) :: s.1, s.2)
  | 38 => match s.1 with
    | q :: _ => if q = (37, nT a) then some s else none
    | [] => none
  | 39 => match s.1 with
    | q :: _ => if q = (37, nT a) then some s else none
    | [] => none
  | 40 => match s.1 with
    | q :: r => if q = (37, nT a) then some (r, s.2) else none
    | [] => none
  | 41 => some ((41, nT a) :: s.1, s.2)
  | 42 => match s.1 with
    | q :: r => if q = (41, nT a) then some (r, s.2) else none
    | [] => none
  | 50 => some ((50, nT a) :: s.1, s.2)
  | 51 => match s.1 with
    | q :: r => if q = (50, nT a) then some ((51, nT a) :: r, s.2) else none
    | [] => none
  | 52 => match s.1 with
    | q :: r => if q = (50, nT a) ∨ q = (51, nT a) then some ((52, nT a) :: r, s.2) else none
    | [] => none
  | 53 => match s.1 with
    | q :: r => if q = (51, nT a) ∨ q = (52, nT a) then some (r, s.2) else none
    | [] => none
  | 54 => if s.1 = [] then some ([], s.2 + 1) else none
  | _ => some s
def Ss (o a : Nat → Int32) : Nat → Option SS
  | 0 => some ([], 0)
  | c + 1 => match Ss o a c with
    | some s => sSt (nT (o c)) (a c) c s
    | none => none
theorem Ss_congr {o a o' a' : Nat → Int32} {n : Nat} (h : ∀ i, i < n → o' i = o i ∧ a' i = a i) : Ss o' a' n = Ss o a n := by sorry
theorem Ss_emit {o a : Nat → Int32} {n : Nat} {x y : Int32} {s s' : SS} (h : Ss o a n = some s) (hs : sSt (nT x) y n s = some s') : Ss (upd o n x) (upd a n y) (n + 1) = some s' := by sorry
/-- codes of exps leave it as it is -/
theorem sSt_exp {n : Nat} (h : n ≤ 18) (a : Int32) (c : Nat) (s : SS) : sSt n a c s = some s := by sorry
theorem Ss_exps {o a : Nat → Int32} {n : Nat} {s : SS} (h : Ss o a n = some s) : ∀ m, n ≤ m → (∀ i, n ≤ i → i < m → nT (o i) ≤ 18) → Ss o a m = some s := by sorry
/-- what a frame of the reader has open -/
def fit (sort thing step : Int32) : List (Nat × Nat) := match nT sort with
  | 0 => []
  | 1 => [(20, nT step)]
  | 2 => [(23, nT thing), (20, nT step)]
  | 3 => [(24, nT thing), (20, nT step)]
  | 4 => [(27, nT thing), (20, nT step)]
  | 5 => [(29, nT thing), (20, nT step)]
  | 6 => [(35, nT thing), (20, nT step)]
  | 7 => [(41, nT thing), (20, nT step)]
  | 8 => [(37, nT thing), (20, nT step)]
  | 9 => [(50, nT thing), (20, nT step)]
  | 10 => [(51, nT thing), (20, nT step)]
  | _ => [(52, nT thing), (20, nT step)]
def Fs (s t p : Nat → Int32) : Nat → List (Nat × Nat)
  | 0 => []
  | i + 1 => fit (s i) (t i) (p i) ++ Fs s t p i
theorem Fs_congr {s t p s' t' p' : Nat → Int32} {n : Nat} (h : ∀ i, i < n → s' i = s i ∧ t' i = t i ∧ p' i = p i) : Fs s' t' p' n = Fs s t p n := by sorry
theorem Fs_push {s t p : Nat → Int32} {n : Nat} {x y z : Int32} : Fs (upd s n x) (upd t n y) (upd p n z) (n + 1) = fit x y z ++ Fs s t p n := by sorry
/-- the pile is empty ahead of a code that is none of an exp, but for those that take its one value; an exp's codes leave one -/
theorem Es_some {o a b : Nat → Int32} {n m : Nat} {s : List Nat} (h : Es o a b m = some s) (hn : n ≤ m) : ∃ s', Es o a b n = some s' := by sorry
/-- which row of the things' numbers a code stands in -/
def ksl (n : Nat) : Nat := match n with
  | 24 => 56
  | 32 => 56
  | 25 => 55
  | 28 => 55
  | 31 => 55
  | 36 => 55
  | 40 => 55
  | 42 => 55
  | 53 => 55
  | 27 => 52
  | 30 => 52
  | 33 => 52
  | 37 => 52
  | 34 => 53
  | 35 => 54
  | 51 => 57
  | 52 => 58
  | _ => 0
/-- codes whose a is a thing; codes that begin one -/
def kop (n : Nat) : Bool := (23 ≤ n && n ≤ 42) || (50 ≤ n && n ≤ 53)
def kpu (n : Nat) : Bool := n == 23 || n == 26 || n == 29 || n == 32 || n == 37 || n == 41 || n == 50
/-! what holds of the codes, the things, the frames, the variables, the methods, between two pieces of the reading -/
/-- how many codes of exps, how many of jumps -/
def Ne (o : Nat → Int32) : Nat → Nat
  | 0 => 0
  | c + 1 => (if nT (o c) ≤ 18 then 1 else 0) + Ne o c
def Nj (o : Nat → Int32) : Nat → Nat
  | 0 => 0
  | c + 1 => (if nT (o c) = 46 ∨ nT (o c) = 47 then 1 else 0) + Nj o c
theorem Ne_congr {o o' : Nat → Int32} {n : Nat} (h : ∀ i, i < n → o' i = o i) : Ne o' n = Ne o n := by sorry
theorem Nj_congr {o o' : Nat → Int32} {n : Nat} (h : ∀ i, i < n → o' i = o i) : Nj o' n = Nj o n := by sorry
theorem Ne_emit {o : Nat → Int32} {n : Nat} {x : Int32} : Ne (upd o n x) (n + 1) = (if nT x ≤ 18 then 1 else 0) + Ne o n := by sorry
theorem Nj_emit {o : Nat → Int32} {n : Nat} {x : Int32} : Nj (upd o n x) (n + 1) = (if nT x = 46 ∨ nT x = 47 then 1 else 0) + Nj o n := by sorry
theorem Ne_le {o : Nat → Int32} {n : Nat} : ∀ m, n ≤ m → Ne o m ≤ Ne o n + (m - n) := by sorry
theorem Nj_exps {o : Nat → Int32} {n : Nat} : ∀ m, n ≤ m → (∀ i, n ≤ i → i < m → nT (o i) ≤ 18) → Nj o m = Nj o n := by sorry
/-- labels and tries that stand open -/
def nl : List (Nat × Nat) → Nat
  | [] => 0
  | q :: r => (if q.1 = 41 ∨ (50 ≤ q.1 ∧ q.1 ≤ 52) then 1 else 0) + nl r
/-- the cond of a do, the update of a for stand on top: there are exps alone -/
def zh : List (Nat × Nat) → Prop
  | [] => False
  | q :: _ => q.1 = 30 ∨ q.1 = 34
theorem Fs_nz {s t p : Nat → Int32} {n : Nat} : ¬ zh (Fs s t p n) := by sorry
theorem sSt_nl {n : Nat} {a : Int32} {c : Nat} {s s' : SS} (h : sSt n a c s = some s') : (¬ n = 41 → ¬ n = 50 → nl s'.1 ≤ nl s.1) ∧ nl s'.1 ≤ nl s.1 + 1 ∧ (¬ n = 54 → s'.2 = s.2) ∧ s'.2 ≤ s.2 + 1 := by sorry
theorem eSt_stm {n : Nat} {a b : Int32} {E E' : List Nat} (hn : 19 ≤ n) (h : eSt n a b E = some E') : E' = [] := by sorry
/-- of codes: what stands behind a NAME:, behind break's NAME; where things begin; what they are -/
def ty (W K : Nat → Int32) (o t : Int32) : Prop := (o = 41 → W (nT t + 1) = 58) ∧ ((o = 46 ∨ o = 47) → K (nT t) = 1 → W (nT t + 1) = 59)
def tz (ks : Nat → Nat → Int32) (o a : Int32) (c : Nat) : Prop := ((o = 26 ∨ o = 29 ∨ o = 50) → nT (ks 51 (nT a)) = c) ∧ (o = 26 → ks 50 (nT a) = 4) ∧ (o = 29 → ks 50 (nT a) = 5) ∧ (o = 32 → ks 50 (nT a) = 6)
def jo (n x : Nat) : Prop := x = 27 ∨ x = 29 ∨ x = 35 ∨ (n = 46 ∧ (x = 37 ∨ x = 41))
def ce (o a t f l th : Int32) (ks : Nat → Nat → Int32) (c : Nat) : Prop := (1 ≤ o ∧ o ≤ 54) ∧ (0 ≤ t ∧ t ≤ 500) ∧ (0 ≤ f ∧ f ≤ 500) ∧ (lk l ∧ lk l) ∧ (kop (nT o) = true → 0 ≤ a ∧ a < th) ∧ (o = 22 → 0 ≤ a ∧ a < 60) ∧ (o = 54 → 0 ≤ a ∧ a ≤ 9) ∧ ((o = 46 ∨ o = 47) → a = -2 ∨ (0 ≤ a ∧ a < th)) ∧ (ksl (nT o) ≠ 0 → 0 ≤ ks (ksl (nT o)) (nT a)) ∧ cy (ks 6) o a t ∧ ty (ks 6) (ks 3) o t ∧ tz ks o a c
def CE (σ : RS) : Prop := ∀ c, c < nT (gI σ 18) → ce (aI σ 19 c) (aI σ 20 c) (aI σ 22 c) (aI σ 23 c) (aI σ 24 c) (gI σ 49) (aI σ) c
def TI (σ : RS) : Prop := (∀ r, 52 ≤ r → r ≤ 58 → ∀ k, k < nT (gI σ 49) → aI σ r k = -2 ∨ (0 ≤ aI σ r k ∧ aI σ r k < gI σ 18 ∧ ksl (nT (aI σ 19 (nT (aI σ r k)))) = r ∧ nT (aI σ 20 (nT (aI σ r k))) = k)) ∧
  ∀ k, k < nT (gI σ 49) → (0 ≤ aI σ 51 k ∧ aI σ 51 k ≤ gI σ 18) ∧ (0 ≤ aI σ 60 k ∧ aI σ 60 k ≤ 500) ∧ (aI σ 61 k = -2 ∨ (0 ≤ aI σ 61 k ∧ aI σ 61 k < 60)) ∧ (0 ≤ aI σ 57 k → 0 ≤ aI σ 61 k) ∧ ((0 ≤ aI σ 50 k ∧ aI σ 50 k ≤ 11) ∧ aI σ 59 k = -2) ∧ Es (aI σ 19) (aI σ 20) (aI σ 21) (nT (aI σ 51 k)) = some []
def AG (σ : RS) : Prop := ∀ i, i < nT (gI σ 18) → aI σ 19 i = 16 → ∃ i', i' < nT (gI σ 18) ∧ aI σ 19 i' = 17 ∧ aI σ 22 i' = aI σ 22 i
/-- types are types -/
def GZ (σ : RS) : Prop := WZ σ ∧ (∀ v, 0 ≤ aI σ 44 v ∧ aI σ 44 v ≤ 4) ∧ ∀ m, 0 ≤ aI σ 38 m
theorem GZ.same {σ σ' : RS} (h : GZ σ) (f6 : aI σ' 6 = aI σ 6) (f38 : aI σ' 38 = aI σ 38) (f44 : aI σ' 44 = aI σ 44) : GZ σ' := by sorry
def UP (σ : RS) : Prop := ∀ c d, c < d → d < nT (gI σ 18) → kpu (nT (aI σ 19 c)) = true → kpu (nT (aI σ 19 d)) = true → aI σ 20 c ≠ aI σ 20 d
def FI (σ : RS) : Prop := (0 ≤ gI σ 62 ∧ gI σ 62 ≤ 40) ∧ ∀ i, i < nT (gI σ 62) → (0 ≤ aI σ 63 i ∧ aI σ 63 i ≤ 11) ∧ (0 ≤ aI σ 64 i ∧ aI σ 64 i < gI σ 49) ∧ (¬ aI σ 63 i = 0 → 0 ≤ aI σ 65 i ∧ aI σ 65 i < gI σ 18)
def VT (σ : RS) : Prop := (0 ≤ gI σ 42 ∧ gI σ 42 ≤ 60) ∧ ∀ v, v < nT (gI σ 42) → 0 ≤ aI σ 43 v ∧ aI σ 43 v ≤ 500
def MT (σ : RS) : Prop := (0 ≤ gI σ 36 ∧ gI σ 36 ≤ 10) ∧ ∀ m, m < nT (gI σ 36) → (0 ≤ aI σ 37 m ∧ aI σ 37 m ≤ 500) ∧ (0 ≤ aI σ 39 m ∧ aI σ 39 m ≤ 6) ∧ (0 ≤ aI σ 40 m ∧ aI σ 40 m + aI σ 39 m ≤ gI σ 42 ∧ aI σ 40 m ≤ gI σ 42) ∧ (0 ≤ aI σ 41 m ∧ aI σ 41 m ≤ gI σ 18) ∧ Es (aI σ 19) (aI σ 20) (aI σ 21) (nT (aI σ 41 m)) = some [] ∧ Ss (aI σ 19) (aI σ 20) (nT (aI σ 41 m)) = some ([], m)
/-- how much of all there may be ahead of each code; jumps lead to what stands open -/
def NB (o a b : Nat → Int32) (p : Int32) (n : Nat) : Prop := (Ne o n : Int) ≤ 4 * p.toInt ∧ ∀ i, i ≤ n → (∀ z, Es o a b i = some z → z.length ≤ 251) ∧ (∀ s, Ss o a i = some s → nl s.1 ≤ 40 ∧ s.2 ≤ 10)
def JI (o a : Nat → Int32) (n : Nat) : Prop := (∀ c, c < n → (o c = 46 ∨ o c = 47) → a c = -2 ∨ ∃ s, Ss o a c = some s ∧ ∃ q ∈ s.1, q.2 = nT (a c) ∧ jo (nT (o c)) q.1) ∧ ∀ c, c < n → ∀ s, Ss o a c = some s → zh s.1 → nT (o c) ≤ 18 ∨ o c = 21 ∨ o c = 31 ∨ o c = 35
def ZB (σ : RS) : Prop := NB (aI σ 19) (aI σ 20) (aI σ 21) (gI σ 14) (nT (gI σ 18)) ∧ JI (aI σ 19) (aI σ 20) (nT (gI σ 18))
/-- E: the pile ahead of the next code; s: what is begun there -/
def PI (σ : RS) (E : List Nat) (s : SS) (k j : Int) : Prop :=
  ((0 ≤ (gI σ 14).toInt ∧ (gI σ 14).toInt ≤ 500) ∧ (0 ≤ (gI σ 18).toInt ∧ (gI σ 18).toInt + 2 * (gI σ 62).toInt ≤ 6 * (gI σ 14).toInt + k ∧ k ≤ 20) ∧ ((gI σ 62).toInt = (gI σ 17).toInt ∧ (gI σ 17).toInt ≤ 20) ∧ (AG σ ∧ GZ σ) ∧ (0 ≤ (gI σ 49).toInt ∧ (gI σ 49).toInt + (Nj (aI σ 19) (nT (gI σ 18)) : Int) + j ≤ (gI σ 14).toInt + 1 ∧ 0 ≤ j)) ∧
  Es (aI σ 19) (aI σ 20) (aI σ 21) (nT (gI σ 18)) = some E ∧ Ss (aI σ 19) (aI σ 20) (nT (gI σ 18)) = some s ∧ CE σ ∧ TI σ ∧ UP σ ∧ FI σ ∧ VT σ ∧ MT σ ∧ ZB σ
theorem PI.numz {σ : RS} {E : List Nat} {s : SS} {k j : Int} (h : PI σ E s k j) : (0 ≤ (gI σ 14).toInt ∧ (gI σ 14).toInt ≤ 500) ∧ (0 ≤ (gI σ 18).toInt ∧ (gI σ 18).toInt ≤ 3020) ∧ (0 ≤ (gI σ 17).toInt ∧ (gI σ 17).toInt ≤ 20) ∧ lk (gI σ 32) ∧ (0 ≤ (gI σ 49).toInt ∧ (gI σ 49).toInt ≤ 501) ∧ (0 ≤ (gI σ 62).toInt ∧ (gI σ 62).toInt ≤ 40) ∧ (0 ≤ (gI σ 42).toInt ∧ (gI σ 42).toInt ≤ 60) ∧ (0 ≤ (gI σ 36).toInt ∧ (gI σ 36).toInt ≤ 10) := by sorry
theorem PI.nums {σ : RS} {E : List Nat} {s : SS} {k j : Int} (h : PI σ E s k j) : (0 ≤ gI σ 14 ∧ gI σ 14 ≤ 500) ∧ (0 ≤ gI σ 18 ∧ gI σ 18 ≤ 3020) ∧ (0 ≤ gI σ 17 ∧ gI σ 17 ≤ 20) ∧ lk (gI σ 32) ∧ (0 ≤ gI σ 49 ∧ gI σ 49 ≤ 501) ∧ (0 ≤ gI σ 62 ∧ gI σ 62 ≤ 40) ∧ (0 ≤ gI σ 42 ∧ gI σ 42 ≤ 60) ∧ (0 ≤ gI σ 36 ∧ gI σ 36 ≤ 10) := by sorry
/-- an exp can be read there -/
theorem PI.xp {σ : RS} {s : SS} {k j : Int} (h : PI σ [] s k j) : XP σ := by sorry
theorem nT_eq {x y : Int32} (hx : 0 ≤ x) (hy : 0 ≤ y) (h : nT x = nT y) : x = y := by sorry
theorem nT18 {o : Int32} (h1 : 1 ≤ o) (h2 : o ≤ 18) : nT o ≤ 18 := nT_le (y := 18) (by lia) h2
theorem kop18 {n : Nat} (h : n ≤ 18) : kop n = false ∧ kpu n = false ∧ ksl n = 0 := by sorry
/-- behind an exp -/
theorem PI.exp {σ τ : RS} {s : SS} {k j : Int} (h : PI σ [] s k j) (hx : XE σ τ) (k' : Int) (hk : k' ≤ 20 ∧ k ≤ k' + 2) : PI τ [0] s k' j := by sorry
theorem aI_ne {σ : RS} {k r : Nat} {f : Nat → Int32} (h : r ≠ k) : aI (sA σ k f) r = aI σ r := by sorry
theorem aI_eq {σ : RS} {k : Nat} {f : Nat → Int32} : aI (sA σ k f) k = f := by sorry
/-- what a code of a statement needs beside: j falls by one at a jump -/
def OX (σ : RS) (s : SS) (o a t : Int32) (j j' : Int) : Prop := ((o = 41 → aI σ 6 (nT t + 1) = 58) ∧ ((o = 46 ∨ o = 47) → aI σ 3 (nT t) = 1 → aI σ 6 (nT t + 1) = 59)) ∧
  (((o = 26 ∨ o = 29 ∨ o = 50) → aI σ 51 (nT a) = gI σ 18) ∧ (o = 26 → aI σ 50 (nT a) = 4) ∧ (o = 29 → aI σ 50 (nT a) = 5) ∧ (o = 32 → aI σ 50 (nT a) = 6)) ∧
  ((o = 41 ∨ o = 50) → nl s.1 ≤ 39) ∧ (o = 54 → s.2 ≤ 9) ∧ ((o = 46 ∨ o = 47) → a = -2 ∨ ∃ q ∈ s.1, q.2 = nT a ∧ jo (nT o) q.1) ∧ ((o = 46 ∨ o = 47) → j' + 1 ≤ j) ∧ (0 ≤ j' ∧ j' ≤ j)
abbrev opl (o : Int32) : Prop := ¬ o = 41 ∧ ¬ o = 46 ∧ ¬ o = 47 ∧ ¬ o = 26 ∧ ¬ o = 29 ∧ ¬ o = 50 ∧ ¬ o = 32 ∧ ¬ o = 54
theorem OX.pl {σ : RS} {s : SS} {o a t : Int32} {j : Int} (h : opl o) (hj : 0 ≤ j) : OX σ s o a t j j := by sorry
/-- a code of a statement more; w: the place of the thing's number that it stands in from now on -/
theorem PI.appg {σ σ' : RS} {E E' : List Nat} {s s' : SS} {k j : Int} (h : PI σ E s k j) (o a b t f l : Int32) (ho : 19 ≤ o ∧ o ≤ 54) (ht : 0 ≤ t ∧ t ≤ 500) (hf : 0 ≤ f ∧ f ≤ 500) (hl : 0 ≤ l ∧ l ≤ 500)
    (hka : kop (nT o) = true → 0 ≤ a ∧ a < gI σ 49) (h22 : o = 22 → 0 ≤ a ∧ a < 60) (h54 : o = 54 → 0 ≤ a ∧ a ≤ 9) (h46 : (o = 46 ∨ o = 47) → a = -2 ∨ (0 ≤ a ∧ a < gI σ 49))
    (hup : kpu (nT o) = true → ∀ c, c < nT (gI σ 18) → kpu (nT (aI σ 19 c)) = true → aI σ 20 c ≠ a) (he : eSt (nT o) a b E = some E') (hs : sSt (nT o) a (nT (gI σ 18)) s = some s') (hk20 : k + 1 ≤ 20) (j' : Int) (hox : OX σ s o a t j j')
    (hks : ∀ r, 50 ≤ r → r ≤ 61 → (aI σ' r = aI σ r ∧ ksl (nT o) ≠ r) ∨ (r = ksl (nT o) ∧ (r = 57 → 0 ≤ aI σ 61 (nT a)) ∧ kop (nT o) = true ∧ aI σ' r = upd (aI σ r) (nT a) (gI σ 18))) (f14 : gI σ' 14 = gI σ 14 := by rfl) (f17 : gI σ' 17 = gI σ 17 := by rfl) (f32 : gI σ' 32 = gI σ 32 := by rfl) (f49 : gI σ' 49 = gI σ 49 := by rfl) (f62 : gI σ' 62 = gI σ 62 := by rfl) (f42 : gI σ' 42 = gI σ 42 := by rfl) (f36 : gI σ' 36 = gI σ 36 := by rfl) (f63 : aI σ' 63 = aI σ 63 := by rfl) (f64 : aI σ' 64 = aI σ 64 := by rfl) (f65 : aI σ' 65 = aI σ 65 := by rfl) (f43 : aI σ' 43 = aI σ 43 := by rfl) (f37 : aI σ' 37 = aI σ 37 := by rfl) (f39 : aI σ' 39 = aI σ 39 := by rfl) (f40 : aI σ' 40 = aI σ 40 := by rfl) (f41 : aI σ' 41 = aI σ 41 := by rfl) (f3 : aI σ' 3 = aI σ 3 := by rfl) (f6 : aI σ' 6 = aI σ 6 := by rfl) (e18 : gI σ' 18 = gI σ 18 + 1 := by rfl) (e19 : aI σ' 19 = upd (aI σ 19) (nT (gI σ 18)) o := by first | rfl | exact upd_upd) (e20 : aI σ' 20 = upd (aI σ 20) (nT (gI σ 18)) a := by first | rfl | exact upd_upd) (e21 : aI σ' 21 = upd (aI σ 21) (nT (gI σ 18)) b := by first | rfl | exact upd_upd) (e22 : aI σ' 22 = upd (aI σ 22) (nT (gI σ 18)) t := by first | rfl | exact upd_upd) (e23 : aI σ' 23 = upd (aI σ 23) (nT (gI σ 18)) f := by first | rfl | exact upd_upd) (e24 : aI σ' 24 = upd (aI σ 24) (nT (gI σ 18)) l := by first | rfl | exact upd_upd) (hgz : GZ σ → GZ σ' := by exact fun h => h) (hzh : zh s.1 → o = 21 ∨ o = 31 ∨ o = 35 := by first | exact fun _ => Or.inl rfl | exact fun _ => Or.inr (Or.inl rfl) | exact fun _ => Or.inr (Or.inr rfl) | (intro z; simp [zh] at z; done)) : PI σ' E' s' (k + 1) j' := by sorry
theorem PI.app {σ σ' : RS} {E E' : List Nat} {s s' : SS} {k j : Int} (h : PI σ E s k j) (o a b t f l : Int32) (ho : 19 ≤ o ∧ o ≤ 54) (ht : 0 ≤ t ∧ t ≤ 500) (hf : 0 ≤ f ∧ f ≤ 500) (hl : 0 ≤ l ∧ l ≤ 500)
    (hka : kop (nT o) = true → 0 ≤ a ∧ a < gI σ 49) (h22 : o = 22 → 0 ≤ a ∧ a < 60) (h54 : o = 54 → 0 ≤ a ∧ a ≤ 9) (h46 : (o = 46 ∨ o = 47) → a = -2 ∨ (0 ≤ a ∧ a < gI σ 49))
    (hup : kpu (nT o) = true → ∀ c, c < nT (gI σ 18) → kpu (nT (aI σ 19 c)) = true → aI σ 20 c ≠ a) (he : eSt (nT o) a b E = some E') (hs : sSt (nT o) a (nT (gI σ 18)) s = some s') (hk20 : k + 1 ≤ 20)
    (hks : ∀ r, 50 ≤ r → r ≤ 61 → (aI σ' r = aI σ r ∧ ksl (nT o) ≠ r) ∨ (r = ksl (nT o) ∧ (r = 57 → 0 ≤ aI σ 61 (nT a)) ∧ kop (nT o) = true ∧ aI σ' r = upd (aI σ r) (nT a) (gI σ 18))) (hpl : opl o) (f14 : gI σ' 14 = gI σ 14 := by rfl) (f17 : gI σ' 17 = gI σ 17 := by rfl) (f32 : gI σ' 32 = gI σ 32 := by rfl) (f49 : gI σ' 49 = gI σ 49 := by rfl) (f62 : gI σ' 62 = gI σ 62 := by rfl) (f42 : gI σ' 42 = gI σ 42 := by rfl) (f36 : gI σ' 36 = gI σ 36 := by rfl) (f63 : aI σ' 63 = aI σ 63 := by rfl) (f64 : aI σ' 64 = aI σ 64 := by rfl) (f65 : aI σ' 65 = aI σ 65 := by rfl) (f43 : aI σ' 43 = aI σ 43 := by rfl) (f37 : aI σ' 37 = aI σ 37 := by rfl) (f39 : aI σ' 39 = aI σ 39 := by rfl) (f40 : aI σ' 40 = aI σ 40 := by rfl) (f41 : aI σ' 41 = aI σ 41 := by rfl) (f3 : aI σ' 3 = aI σ 3 := by rfl) (f6 : aI σ' 6 = aI σ 6 := by rfl) (e18 : gI σ' 18 = gI σ 18 + 1 := by rfl) (e19 : aI σ' 19 = upd (aI σ 19) (nT (gI σ 18)) o := by first | rfl | exact upd_upd) (e20 : aI σ' 20 = upd (aI σ 20) (nT (gI σ 18)) a := by first | rfl | exact upd_upd) (e21 : aI σ' 21 = upd (aI σ 21) (nT (gI σ 18)) b := by first | rfl | exact upd_upd) (e22 : aI σ' 22 = upd (aI σ 22) (nT (gI σ 18)) t := by first | rfl | exact upd_upd) (e23 : aI σ' 23 = upd (aI σ 23) (nT (gI σ 18)) f := by first | rfl | exact upd_upd) (e24 : aI σ' 24 = upd (aI σ 24) (nT (gI σ 18)) l := by first | rfl | exact upd_upd) (hgz : GZ σ → GZ σ' := by exact fun h => h) (hzh : zh s.1 → o = 21 ∨ o = 31 ∨ o = 35 := by first | exact fun _ => Or.inl rfl | exact fun _ => Or.inr (Or.inl rfl) | exact fun _ => Or.inr (Or.inr rfl) | (intro z; simp [zh] at z; done)) : PI σ' E' s' (k + 1) j := by sorry
/-- other numbers: pos may grow (and with it the room), what is not looked at may change -/
theorem PI.mv {σ σ' : RS} {E : List Nat} {s : SS} {k j : Int} (h : PI σ E s k j) (k' j' : Int) (hp : (gI σ 14).toInt ≤ (gI σ' 14).toInt ∧ (gI σ' 14).toInt ≤ 500) (hk : k' ≤ 20 ∧ k ≤ k' + 6 * ((gI σ' 14).toInt - (gI σ 14).toInt)) (hj : 0 ≤ j' ∧ j' ≤ j + ((gI σ' 14).toInt - (gI σ 14).toInt)) (hl : lk (gI σ' 32)) (f17 : gI σ' 17 = gI σ 17 := by rfl) (f49 : gI σ' 49 = gI σ 49 := by rfl) (f62 : gI σ' 62 = gI σ 62 := by rfl) (f42 : gI σ' 42 = gI σ 42 := by rfl) (f36 : gI σ' 36 = gI σ 36 := by rfl) (f63 : aI σ' 63 = aI σ 63 := by rfl) (f64 : aI σ' 64 = aI σ 64 := by rfl) (f65 : aI σ' 65 = aI σ 65 := by rfl) (f43 : aI σ' 43 = aI σ 43 := by rfl) (f37 : aI σ' 37 = aI σ 37 := by rfl) (f39 : aI σ' 39 = aI σ 39 := by rfl) (f40 : aI σ' 40 = aI σ 40 := by rfl) (f41 : aI σ' 41 = aI σ 41 := by rfl) (e18 : gI σ' 18 = gI σ 18 := by rfl) (e19 : aI σ' 19 = aI σ 19 := by rfl) (e20 : aI σ' 20 = aI σ 20 := by rfl) (e21 : aI σ' 21 = aI σ 21 := by rfl) (e22 : aI σ' 22 = aI σ 22 := by rfl) (e23 : aI σ' 23 = aI σ 23 := by rfl) (e24 : aI σ' 24 = aI σ 24 := by rfl) (f50 : aI σ' 50 = aI σ 50 := by rfl) (f51 : aI σ' 51 = aI σ 51 := by rfl) (f52 : aI σ' 52 = aI σ 52 := by rfl) (f53 : aI σ' 53 = aI σ 53 := by rfl) (f54 : aI σ' 54 = aI σ 54 := by rfl) (f55 : aI σ' 55 = aI σ 55 := by rfl) (f56 : aI σ' 56 = aI σ 56 := by rfl) (f57 : aI σ' 57 = aI σ 57 := by rfl) (f58 : aI σ' 58 = aI σ 58 := by rfl) (f59 : aI σ' 59 = aI σ 59 := by rfl) (f60 : aI σ' 60 = aI σ 60 := by rfl) (f61 : aI σ' 61 = aI σ 61 := by rfl) (f3 : aI σ' 3 = aI σ 3 := by rfl) (f6 : aI σ' 6 = aI σ 6 := by rfl) (hgz : GZ σ → GZ σ' := by exact fun h => h) : PI σ' E s k' j' := by sorry
theorem PI.take {σ σ' : RS} {E : List Nat} {s : SS} {k j : Int} (h : PI σ E s k j) (hp5 : gI σ 14 < 500) (hs : σ' = sI σ 14 (gI σ 14 + 1)) (k' j' : Int) (hk : k' ≤ 20 ∧ k ≤ k' + 6) (hj : 0 ≤ j' ∧ j' ≤ j + 1) : PI σ' E s k' j' := by sorry
def th (σ : RS) (s t : Int32) : RS := sA (sA (sA (sA (sA (sA (sA (sA (sA (sA (sA (sA (sI σ 49 (gI σ 49 + 1)) 50 (upd (aI σ 50) (gI σ 49).toNatClampNeg s)) 51 (upd (aI σ 51) (gI σ 49).toNatClampNeg (gI σ 18))) 52 (upd (aI σ 52) (gI σ 49).toNatClampNeg (-2))) 53 (upd (aI σ 53) (gI σ 49).toNatClampNeg (-2))) 54 (upd (aI σ 54) (gI σ 49).toNatClampNeg (-2))) 55 (upd (aI σ 55) (gI σ 49).toNatClampNeg (-2))) 56 (upd (aI σ 56) (gI σ 49).toNatClampNeg (-2))) 57 (upd (aI σ 57) (gI σ 49).toNatClampNeg (-2))) 58 (upd (aI σ 58) (gI σ 49).toNatClampNeg (-2))) 59 (upd (aI σ 59) (gI σ 49).toNatClampNeg (-2))) 60 (upd (aI σ 60) (gI σ 49).toNatClampNeg t)) 61 (upd (aI σ 61) (gI σ 49).toNatClampNeg (-2))
theorem gI_th {σ : RS} {s t : Int32} {k : Nat} : gI (th σ s t) k = match Nat.beq k 49 with
  | true => gI σ 49 + 1
  | false => gI σ k := rfl
theorem kslk {n : Nat} (h : ksl n ≠ 0) : kop n = true := by sorry
/-- a thing more -/
theorem PI.thing {σ σ' : RS} {s : SS} {k j : Int} (h : PI σ [] s k j) (sort t : Int32) (hj : 1 ≤ j) (hs : 0 ≤ sort ∧ sort ≤ 11) (ht : 0 ≤ t ∧ t ≤ 500) (f14 : gI σ' 14 = gI σ 14 := by rfl) (f17 : gI σ' 17 = gI σ 17 := by rfl) (f32 : gI σ' 32 = gI σ 32 := by rfl) (f62 : gI σ' 62 = gI σ 62 := by rfl) (f42 : gI σ' 42 = gI σ 42 := by rfl) (f36 : gI σ' 36 = gI σ 36 := by rfl) (e49 : gI σ' 49 = gI σ 49 + 1 := by rfl) (f63 : aI σ' 63 = aI σ 63 := by rfl) (f64 : aI σ' 64 = aI σ 64 := by rfl) (f65 : aI σ' 65 = aI σ 65 := by rfl) (f43 : aI σ' 43 = aI σ 43 := by rfl) (f37 : aI σ' 37 = aI σ 37 := by rfl) (f39 : aI σ' 39 = aI σ 39 := by rfl) (f40 : aI σ' 40 = aI σ 40 := by rfl) (f41 : aI σ' 41 = aI σ 41 := by rfl) (e18 : gI σ' 18 = gI σ 18 := by rfl) (e19 : aI σ' 19 = aI σ 19 := by rfl) (e20 : aI σ' 20 = aI σ 20 := by rfl) (e21 : aI σ' 21 = aI σ 21 := by rfl) (e22 : aI σ' 22 = aI σ 22 := by rfl) (e23 : aI σ' 23 = aI σ 23 := by rfl) (e24 : aI σ' 24 = aI σ 24 := by rfl) (g50 : aI σ' 50 = upd (aI σ 50) (nT (gI σ 49)) sort := by rfl) (g51 : aI σ' 51 = upd (aI σ 51) (nT (gI σ 49)) (gI σ 18) := by rfl) (g52 : aI σ' 52 = upd (aI σ 52) (nT (gI σ 49)) (-2) := by rfl) (g53 : aI σ' 53 = upd (aI σ 53) (nT (gI σ 49)) (-2) := by rfl) (g54 : aI σ' 54 = upd (aI σ 54) (nT (gI σ 49)) (-2) := by rfl) (g55 : aI σ' 55 = upd (aI σ 55) (nT (gI σ 49)) (-2) := by rfl) (g56 : aI σ' 56 = upd (aI σ 56) (nT (gI σ 49)) (-2) := by rfl) (g57 : aI σ' 57 = upd (aI σ 57) (nT (gI σ 49)) (-2) := by rfl) (g58 : aI σ' 58 = upd (aI σ 58) (nT (gI σ 49)) (-2) := by rfl) (g59 : aI σ' 59 = upd (aI σ 59) (nT (gI σ 49)) (-2) := by rfl) (g60 : aI σ' 60 = upd (aI σ 60) (nT (gI σ 49)) t := by rfl) (g61 : aI σ' 61 = upd (aI σ 61) (nT (gI σ 49)) (-2) := by rfl) (f3 : aI σ' 3 = aI σ 3 := by rfl) (f6 : aI σ' 6 = aI σ 6 := by rfl) (hgz : GZ σ → GZ σ' := by exact fun h => h) : PI σ' [] s k (j - 1) ∧ ∀ c, c < nT (gI σ' 18) → kop (nT (aI σ' 19 c)) = true → aI σ' 20 c ≠ gI σ 49 := by sorry
/-- a frame more -/
theorem PI.opn {σ σ' : RS} {E : List Nat} {s : SS} {k j : Int} (h : PI σ E s k j) (sort t p : Int32) (hk : k + 2 ≤ 20) (hd : gI σ 17 < 20) (hs : 0 ≤ sort ∧ sort ≤ 11) (ht : 0 ≤ t ∧ t < gI σ 49) (hp : ¬ sort = 0 → 0 ≤ p ∧ p < gI σ 18) (f14 : gI σ' 14 = gI σ 14 := by rfl) (f32 : gI σ' 32 = gI σ 32 := by rfl) (f49 : gI σ' 49 = gI σ 49 := by rfl) (f42 : gI σ' 42 = gI σ 42 := by rfl) (f36 : gI σ' 36 = gI σ 36 := by rfl) (e17 : gI σ' 17 = gI σ 17 + 1 := by rfl) (e62 : gI σ' 62 = gI σ 62 + 1 := by rfl) (e63 : aI σ' 63 = upd (aI σ 63) (nT (gI σ 62)) sort := by rfl) (e64 : aI σ' 64 = upd (aI σ 64) (nT (gI σ 62)) t := by rfl) (e65 : aI σ' 65 = upd (aI σ 65) (nT (gI σ 62)) p := by rfl) (f43 : aI σ' 43 = aI σ 43 := by rfl) (f37 : aI σ' 37 = aI σ 37 := by rfl) (f39 : aI σ' 39 = aI σ 39 := by rfl) (f40 : aI σ' 40 = aI σ 40 := by rfl) (f41 : aI σ' 41 = aI σ 41 := by rfl) (e18 : gI σ' 18 = gI σ 18 := by rfl) (e19 : aI σ' 19 = aI σ 19 := by rfl) (e20 : aI σ' 20 = aI σ 20 := by rfl) (e21 : aI σ' 21 = aI σ 21 := by rfl) (e22 : aI σ' 22 = aI σ 22 := by rfl) (e23 : aI σ' 23 = aI σ 23 := by rfl) (e24 : aI σ' 24 = aI σ 24 := by rfl) (f50 : aI σ' 50 = aI σ 50 := by rfl) (f51 : aI σ' 51 = aI σ 51 := by rfl) (f52 : aI σ' 52 = aI σ 52 := by rfl) (f53 : aI σ' 53 = aI σ 53 := by rfl) (f54 : aI σ' 54 = aI σ 54 := by rfl) (f55 : aI σ' 55 = aI σ 55 := by rfl) (f56 : aI σ' 56 = aI σ 56 := by rfl) (f57 : aI σ' 57 = aI σ 57 := by rfl) (f58 : aI σ' 58 = aI σ 58 := by rfl) (f59 : aI σ' 59 = aI σ 59 := by rfl) (f60 : aI σ' 60 = aI σ 60 := by rfl) (f61 : aI σ' 61 = aI σ 61 := by rfl) (f3 : aI σ' 3 = aI σ 3 := by rfl) (f6 : aI σ' 6 = aI σ 6 := by rfl) (hgz : GZ σ → GZ σ' := by exact fun h => h) : PI σ' E s (k + 2) j := by sorry
/-- a frame less -/
theorem PI.popf {σ σ' : RS} {E : List Nat} {s : SS} {k j : Int} (h : PI σ E s k j) (hp : 0 < gI σ 62) (f14 : gI σ' 14 = gI σ 14 := by rfl) (f32 : gI σ' 32 = gI σ 32 := by rfl) (f49 : gI σ' 49 = gI σ 49 := by rfl) (f42 : gI σ' 42 = gI σ 42 := by rfl) (f36 : gI σ' 36 = gI σ 36 := by rfl) (e17 : gI σ' 17 = gI σ 17 - 1 := by rfl) (e62 : gI σ' 62 = gI σ 62 - 1 := by rfl) (f63 : aI σ' 63 = aI σ 63 := by rfl) (f64 : aI σ' 64 = aI σ 64 := by rfl) (f65 : aI σ' 65 = aI σ 65 := by rfl) (f43 : aI σ' 43 = aI σ 43 := by rfl) (f37 : aI σ' 37 = aI σ 37 := by rfl) (f39 : aI σ' 39 = aI σ 39 := by rfl) (f40 : aI σ' 40 = aI σ 40 := by rfl) (f41 : aI σ' 41 = aI σ 41 := by rfl) (e18 : gI σ' 18 = gI σ 18 := by rfl) (e19 : aI σ' 19 = aI σ 19 := by rfl) (e20 : aI σ' 20 = aI σ 20 := by rfl) (e21 : aI σ' 21 = aI σ 21 := by rfl) (e22 : aI σ' 22 = aI σ 22 := by rfl) (e23 : aI σ' 23 = aI σ 23 := by rfl) (e24 : aI σ' 24 = aI σ 24 := by rfl) (f50 : aI σ' 50 = aI σ 50 := by rfl) (f51 : aI σ' 51 = aI σ 51 := by rfl) (f52 : aI σ' 52 = aI σ 52 := by rfl) (f53 : aI σ' 53 = aI σ 53 := by rfl) (f54 : aI σ' 54 = aI σ 54 := by rfl) (f55 : aI σ' 55 = aI σ 55 := by rfl) (f56 : aI σ' 56 = aI σ 56 := by rfl) (f57 : aI σ' 57 = aI σ 57 := by rfl) (f58 : aI σ' 58 = aI σ 58 := by rfl) (f59 : aI σ' 59 = aI σ 59 := by rfl) (f60 : aI σ' 60 = aI σ 60 := by rfl) (f61 : aI σ' 61 = aI σ 61 := by rfl) (f3 : aI σ' 3 = aI σ 3 := by rfl) (f6 : aI σ' 6 = aI σ 6 := by rfl) (hgz : GZ σ → GZ σ' := by exact fun h => h) : PI σ' E s k j := by sorry
/-- a variable more -/
theorem PI.var {σ σ' : RS} {E : List Nat} {s : SS} {k j : Int} (h : PI σ E s k j) (t : Int32) (hv : gI σ 42 < 60) (ht : 0 ≤ t ∧ t ≤ 500) (f14 : gI σ' 14 = gI σ 14 := by rfl) (f17 : gI σ' 17 = gI σ 17 := by rfl) (f32 : gI σ' 32 = gI σ 32 := by rfl) (f49 : gI σ' 49 = gI σ 49 := by rfl) (f62 : gI σ' 62 = gI σ 62 := by rfl) (f36 : gI σ' 36 = gI σ 36 := by rfl) (e42 : gI σ' 42 = gI σ 42 + 1 := by rfl) (e43 : aI σ' 43 = upd (aI σ 43) (nT (gI σ 42)) t := by rfl) (f63 : aI σ' 63 = aI σ 63 := by rfl) (f64 : aI σ' 64 = aI σ 64 := by rfl) (f65 : aI σ' 65 = aI σ 65 := by rfl) (f37 : aI σ' 37 = aI σ 37 := by rfl) (f39 : aI σ' 39 = aI σ 39 := by rfl) (f40 : aI σ' 40 = aI σ 40 := by rfl) (f41 : aI σ' 41 = aI σ 41 := by rfl) (e18 : gI σ' 18 = gI σ 18 := by rfl) (e19 : aI σ' 19 = aI σ 19 := by rfl) (e20 : aI σ' 20 = aI σ 20 := by rfl) (e21 : aI σ' 21 = aI σ 21 := by rfl) (e22 : aI σ' 22 = aI σ 22 := by rfl) (e23 : aI σ' 23 = aI σ 23 := by rfl) (e24 : aI σ' 24 = aI σ 24 := by rfl) (f50 : aI σ' 50 = aI σ 50 := by rfl) (f51 : aI σ' 51 = aI σ 51 := by rfl) (f52 : aI σ' 52 = aI σ 52 := by rfl) (f53 : aI σ' 53 = aI σ 53 := by rfl) (f54 : aI σ' 54 = aI σ 54 := by rfl) (f55 : aI σ' 55 = aI σ 55 := by rfl) (f56 : aI σ' 56 = aI σ 56 := by rfl) (f57 : aI σ' 57 = aI σ 57 := by rfl) (f58 : aI σ' 58 = aI σ 58 := by rfl) (f59 : aI σ' 59 = aI σ 59 := by rfl) (f60 : aI σ' 60 = aI σ 60 := by rfl) (f61 : aI σ' 61 = aI σ 61 := by rfl) (f3 : aI σ' 3 = aI σ 3 := by rfl) (f6 : aI σ' 6 = aI σ 6 := by rfl) (hgz : GZ σ → GZ σ') : PI σ' E s k j := by sorry
theorem aI_em {σ : RS} {o a t : Int32} {r : Nat} (h : 25 ≤ r) : aI (em σ o a t) r = aI σ r := by sorry
/-- a plain code more -/
theorem PI.cem {σ : RS} {E E' : List Nat} {s s' : SS} {k j : Int} (h : PI σ E s k j) (o a t : Int32) (ho : 19 ≤ o ∧ o ≤ 54) (ht : 0 ≤ t ∧ t ≤ 500) (hz : ksl (nT o) = 0) (hka : kop (nT o) = true → 0 ≤ a ∧ a < gI σ 49) (h22 : o = 22 → 0 ≤ a ∧ a < 60) (h54 : o = 54 → 0 ≤ a ∧ a ≤ 9) (h46 : (o = 46 ∨ o = 47) → a = -2 ∨ (0 ≤ a ∧ a < gI σ 49))
    (hup : kpu (nT o) = true → ∀ c, c < nT (gI σ 18) → kpu (nT (aI σ 19 c)) = true → aI σ 20 c ≠ a) (he : eSt (nT o) a 0 E = some E') (hs : sSt (nT o) a (nT (gI σ 18)) s = some s') (hk20 : k + 1 ≤ 20) (hpl : opl o := by decide) (hzh : zh s.1 → o = 21 ∨ o = 31 ∨ o = 35 := by first | exact fun _ => Or.inl rfl | exact fun _ => Or.inr (Or.inl rfl) | exact fun _ => Or.inr (Or.inr rfl) | (intro z; simp [zh] at z; done)) : PI (em σ o a t) E' s' (k + 1) j := by sorry
/-- a code that stands in the row r of its thing's numbers from now on -/
theorem PI.cems {σ : RS} {E E' : List Nat} {s s' : SS} {k j : Int} (h : PI σ E s k j) (o a t : Int32) (r : Nat) (ho : 19 ≤ o ∧ o ≤ 54) (ht : 0 ≤ t ∧ t ≤ 500) (hr : ksl (nT o) = r) (hr1 : 52 ≤ r ∧ r ≤ 58 ∧ r ≠ 57) (hko : kop (nT o) = true) (hka : 0 ≤ a ∧ a < gI σ 49) (h22 : o = 22 → 0 ≤ a ∧ a < 60) (h54 : o = 54 → 0 ≤ a ∧ a ≤ 9) (h46 : (o = 46 ∨ o = 47) → a = -2 ∨ (0 ≤ a ∧ a < gI σ 49))
    (hup : kpu (nT o) = true → ∀ c, c < nT (gI σ 18) → kpu (nT (aI σ 19 c)) = true → aI σ 20 c ≠ a) (he : eSt (nT o) a 0 E = some E') (hs : sSt (nT o) a (nT (gI σ 18)) s = some s') (hk20 : k + 1 ≤ 20) (hpl : opl o := by decide) (hzh : zh s.1 → o = 21 ∨ o = 31 ∨ o = 35 := by first | exact fun _ => Or.inl rfl | exact fun _ => Or.inr (Or.inl rfl) | exact fun _ => Or.inr (Or.inr rfl) | (intro z; simp [zh] at z; done)) : PI (sA (em σ o a t) r (upd (aI σ r) (nT a) (gI σ 18))) E' s' (k + 1) j := by sorry
theorem PI.pop {σ : RS} {s : SS} {k j : Int} (h : PI σ [0] s k j) (a t : Int32) (ht : 0 ≤ t ∧ t ≤ 500) (hk : k + 1 ≤ 20) : PI (em σ 21 a t) [] s (k + 1) j := by sorry
theorem PI.step {σ : RS} {s : SS} {k j : Int} (h : PI σ [] s k j) (t : Int32) (ht : 0 ≤ t ∧ t ≤ 500) (hk : k + 1 ≤ 20) (hnz : ¬ zh s.1 := by first | exact Fs_nz | (intro z; simp [zh] at z; done)) : PI (em σ 20 0 t) [] ((20, nT (gI σ 18)) :: s.1, s.2) (k + 1) j := by sorry
theorem PI.ends {σ : RS} {r : List (Nat × Nat)} {m : Nat} {k j : Int} {a : Int32} (h : PI σ [] ((20, nT a) :: r, m) k j) (t : Int32) (ht : 0 ≤ t ∧ t ≤ 500) (hk : k + 1 ≤ 20) : PI (em σ 45 a t) [] (r, m) (k + 1) j := by sorry
theorem PI.wk {σ : RS} {E : List Nat} {s : SS} {k j : Int} (h : PI σ E s k j) (k' j' : Int) (hk : k' ≤ 20 ∧ k ≤ k') (hj : 0 ≤ j' ∧ j' ≤ j) : PI σ E s k' j' := by sorry
/-- a plain code more -/
theorem PI.cemg {σ : RS} {E E' : List Nat} {s s' : SS} {k j : Int} (h : PI σ E s k j) (o a t : Int32) (ho : 19 ≤ o ∧ o ≤ 54) (ht : 0 ≤ t ∧ t ≤ 500) (hz : ksl (nT o) = 0) (hka : kop (nT o) = true → 0 ≤ a ∧ a < gI σ 49) (h22 : o = 22 → 0 ≤ a ∧ a < 60) (h54 : o = 54 → 0 ≤ a ∧ a ≤ 9) (h46 : (o = 46 ∨ o = 47) → a = -2 ∨ (0 ≤ a ∧ a < gI σ 49))
    (hup : kpu (nT o) = true → ∀ c, c < nT (gI σ 18) → kpu (nT (aI σ 19 c)) = true → aI σ 20 c ≠ a) (he : eSt (nT o) a 0 E = some E') (hs : sSt (nT o) a (nT (gI σ 18)) s = some s') (hk20 : k + 1 ≤ 20) (j' : Int) (hox : OX σ s o a t j j') (hzh : zh s.1 → o = 21 ∨ o = 31 ∨ o = 35 := by first | exact fun _ => Or.inl rfl | exact fun _ => Or.inr (Or.inl rfl) | exact fun _ => Or.inr (Or.inr rfl) | (intro z; simp [zh] at z; done)) : PI (em σ o a t) E' s' (k + 1) j' := by sorry
/-- a code that stands in the row r of its thing's numbers from now on -/
theorem PI.cemsg {σ : RS} {E E' : List Nat} {s s' : SS} {k j : Int} (h : PI σ E s k j) (o a t : Int32) (r : Nat) (ho : 19 ≤ o ∧ o ≤ 54) (ht : 0 ≤ t ∧ t ≤ 500) (hr : ksl (nT o) = r) (hr1 : 52 ≤ r ∧ r ≤ 58 ∧ (r = 57 → 0 ≤ aI σ 61 (nT a))) (hko : kop (nT o) = true) (hka : 0 ≤ a ∧ a < gI σ 49) (h22 : o = 22 → 0 ≤ a ∧ a < 60) (h54 : o = 54 → 0 ≤ a ∧ a ≤ 9) (h46 : (o = 46 ∨ o = 47) → a = -2 ∨ (0 ≤ a ∧ a < gI σ 49))
    (hup : kpu (nT o) = true → ∀ c, c < nT (gI σ 18) → kpu (nT (aI σ 19 c)) = true → aI σ 20 c ≠ a) (he : eSt (nT o) a 0 E = some E') (hs : sSt (nT o) a (nT (gI σ 18)) s = some s') (hk20 : k + 1 ≤ 20) (j' : Int) (hox : OX σ s o a t j j') (hzh : zh s.1 → o = 21 ∨ o = 31 ∨ o = 35 := by first | exact fun _ => Or.inl rfl | exact fun _ => Or.inr (Or.inl rfl) | exact fun _ => Or.inr (Or.inr rfl) | (intro z; simp [zh] at z; done)) : PI (sA (em σ o a t) r (upd (aI σ r) (nT a) (gI σ 18))) E' s' (k + 1) j' := by sorry
/-- a code c tells of no thing K yet -/
def Fr (σ : RS) (K : Int32) : Prop := ∀ c, c < nT (gI σ 18) → kop (nT (aI σ 19 c)) = true → aI σ 20 c ≠ K
theorem kpu_kop {n : Nat} (h : kpu n = true) : kop n = true := by sorry
theorem Fr.up {σ : RS} {K : Int32} (h : Fr σ K) : ∀ c, c < nT (gI σ 18) → kpu (nT (aI σ 19 c)) = true → aI σ 20 c ≠ K := fun c hc hk => h c hc (kpu_kop hk)
theorem Fr.exp {σ τ : RS} (hx : XE σ τ) (K : Int32) (h : Fr σ K) : Fr τ K := by sorry
theorem Fr.e1 {σ : RS} {K : Int32} (h : Fr σ K) (o a t : Int32) (hc : 0 ≤ gI σ 18 ∧ gI σ 18 < 4000) (hk : kop (nT o) = true → a ≠ K) : Fr (em σ o a t) K := by sorry
def pI (k : Nat) : Bool := (14 ≤ k && k ≤ 18) || k == 29 || (31 ≤ k && k ≤ 35) || k == 42 || k == 49 || k == 62
def pA (k : Nat) : Bool := (19 ≤ k && k ≤ 28) || k == 30 || (37 ≤ k && k ≤ 41) || (43 ≤ k && k ≤ 48) || (50 ≤ k && k ≤ 61) || (63 ≤ k && k ≤ 65)
def Fp (σ τ : RS) : Prop := (∀ k, pI k = false → gI τ k = gI σ k) ∧ (∀ k, gL τ k = gL σ k) ∧ (∀ k, pA k = false → aI τ k = aI σ k) ∧ (∀ k, aL τ k = aL σ k) ∧ (GZ σ → GZ τ)
def pB (k : Nat) : Bool := pA k && !(k == 38) && !(k == 44)
theorem pBA {k : Nat} (h : pB k = true) : pA k = true ∧ k ≠ 6 ∧ k ≠ 38 ∧ k ≠ 44 := by sorry
theorem Fp.rf {σ : RS} : Fp σ σ := by sorry
theorem Fp.tr {σ τ υ : RS} (h1 : Fp σ τ) (h2 : Fp τ υ) : Fp σ υ := by sorry
theorem Fp.i {σ τ : RS} (h : Fp σ τ) {k : Nat} {v : Int32} (hk : pI k = true) : Fp σ (sI τ k v) := by sorry
theorem Fp.a {σ τ : RS} (h : Fp σ τ) {k : Nat} {f : Nat → Int32} (hk : pB k = true) : Fp σ (sA τ k f) := by sorry
theorem Fp.y {σ τ : RS} (h : Fp σ τ) {f : Nat → Int32} {i : Nat} {v : Int32} (hf : f = upd (aI τ 44) i v) (hv : 0 ≤ v ∧ v ≤ 4) : Fp σ (sA τ 44 f) := by sorry
theorem xpI {k : Nat} (h : pI k = false) : xI k = false := by sorry
theorem xpA {k : Nat} (h : pA k = false) : xA k = false := by sorry
theorem Fx.p {σ τ : RS} (h : Fx σ τ) : Fp σ τ := by sorry
def fo (σ : RS) (s k p : Int32) : RS := sI (sI (sA (sA (sA σ 63 (upd (aI σ 63) (gI σ 62).toNatClampNeg s)) 64 (upd (aI σ 64) (gI σ 62).toNatClampNeg k)) 65 (upd (aI σ 65) (gI σ 62).toNatClampNeg p)) 62 (gI σ 62 + 1)) 17 (gI σ 17 + 1)
def va (σ : RS) (ty fx m k : Int32) : RS := sI (sA (sA (sA (sA (sA (sA (sI σ 42 (gI σ 42 + 1)) 43 (upd (aI σ 43) (gI σ 42).toNatClampNeg (gI σ 14))) 44 (upd (aI σ 44) (gI σ 42).toNatClampNeg ty)) 45 (upd (aI σ 45) (gI σ 42).toNatClampNeg fx)) 46 (upd (aI σ 46) (gI σ 42).toNatClampNeg m)) 47 (upd (aI σ 47) (gI σ 42).toNatClampNeg k)) 48 (upd (aI σ 48) (gI σ 42).toNatClampNeg (-2))) 14 (gI σ 14 + 1)
theorem Fp.vr {σ X : RS} {ty fx m k : Int32} (h : Fp σ X) (ht : 0 ≤ ty ∧ ty ≤ 4) : Fp σ (va X ty fx m k) := by sorry
theorem mlt6 {x : Int32} {n : Nat} (hn : (60 - x.toInt).toNat = n) (h0 : 0 ≤ x) (h : x < 60) : (60 - (x + 1).toInt).toNat < n := by sorry
theorem sA_id {σ : RS} {k : Nat} : sA σ k (aI σ k) = σ := by sorry
theorem sA_sA {σ : RS} {k : Nat} {f g : Nat → Int32} : sA (sA σ k f) k g = sA σ k g := by sorry
def P_thing : RP := fun As σ => match As with
  | [.int s, .int t] => (0 ≤ (gI σ 49) ∧ (gI σ 49) < 600)
  | _ => False
def Q_thing : RQ := fun As σ w τ => match As with
  | [.int s, .int t] => w = some (.int (gI σ 49)) ∧ τ = th σ s t
  | _ => False
set_option maxRecDepth 100000 in
set_option maxHeartbeats 4000000 in
theorem b_thing : Bod Bthing [] P_thing Q_thing := by sorry
theorem m_thing (l : Launch) : RMet l 1 35 P_thing Q_thing := by sorry
set_option maxRecDepth 100000 in
theorem e_thing (l : Launch) : RMetE l 1 35 P_thing Q_thing := by sorry
def P_isRow : RP := fun As σ => match As with
  | [.int s] => True
  | _ => False
def Q_isRow : RQ := fun As σ w τ => match As with
  | [.int s] => ∃ r : Int32, w = some (.int r) ∧ ((r = 0 ∧ ¬ s = 0 ∧ ¬ s = 1 ∧ s < 9) ∨ (r = 1 ∧ (s = 0 ∨ s = 1 ∨ 9 ≤ s))) ∧ τ = σ
  | _ => False
set_option maxRecDepth 100000 in
set_option maxHeartbeats 4000000 in
theorem b_isRow : Bod BisRow [] P_isRow Q_isRow := by sorry
theorem m_isRow (l : Launch) : RMet l 1 43 P_isRow Q_isRow := by sorry
set_option maxRecDepth 100000 in
theorem e_isRow (l : Launch) : RMetE l 1 43 P_isRow Q_isRow := by sorry
def P_isTold : RP := fun As σ => match As with
  | [] => 0 ≤ (gI σ 14) ∧ (gI σ 14) ≤ 500
  | _ => False
def Q_isTold : RQ := fun As σ w τ => match As with
  | [] => ∃ r : Int32, w = some (.int r) ∧ (r = 0 ∨ r = 1) ∧ τ = σ
  | _ => False
set_option maxRecDepth 100000 in
set_option maxHeartbeats 4000000 in
theorem b_isTold : Bod BisTold [(23, P_isType, Q_isType), (15, P_isWord, Q_isWord)] P_isTold Q_isTold := by sorry
theorem m_isTold (l : Launch) : RMet l 2 46 P_isTold Q_isTold := by sorry
set_option maxRecDepth 100000 in
theorem e_isTold (l : Launch) : RMetE l 2 46 P_isTold Q_isTold := by sorry
def P_sameName : RP := fun As σ => match As with
  | [.int t, .int u] => (0 ≤ t ∧ t ≤ 2000) ∧ (0 ≤ u ∧ u ≤ 2000)
  | _ => False
def Q_sameName : RQ := fun As σ w τ => match As with
  | [.int t, .int u] => ∃ r : Int32, w = some (.int r) ∧ (r = 0 ∨ r = 1) ∧ τ = σ
  | _ => False
set_option maxRecDepth 100000 in
set_option maxHeartbeats 4000000 in
theorem b_sameName : Bod BsameName [] P_sameName Q_sameName := by sorry
theorem m_sameName (l : Launch) : RMet l 1 63 P_sameName Q_sameName := by sorry
set_option maxRecDepth 100000 in
theorem e_sameName (l : Launch) : RMetE l 1 63 P_sameName Q_sameName := by sorry
def P_open : RP := fun As σ => match As with
  | [.int s, .int k, .int p] => (0 ≤ (gI σ 62) ∧ (gI σ 62) ≤ 70) ∧ (0 ≤ (gI σ 14) ∧ (gI σ 14) ≤ 500) ∧ (0 ≤ (gI σ 17) ∧ (gI σ 17) ≤ 100)
  | _ => False
def Q_open : RQ := fun As σ w τ => match As with
  | [.int s, .int k, .int p] => ∃ r : Int32, w = some (.int r) ∧ ((r = 1 ∧ (gI σ 17) < 20 ∧ τ = fo σ s k p) ∨ (r = 0 ∧ Fp σ τ))
  | _ => False
set_option maxRecDepth 100000 in
set_option maxHeartbeats 4000000 in
theorem b_open : Bod Bopen [(19, P_enter, Q_enter)] P_open Q_open := by sorry
theorem m_open (l : Launch) : RMet l 3 36 P_open Q_open := by sorry
set_option maxRecDepth 100000 in
theorem e_open (l : Launch) : RMetE l 3 36 P_open Q_open := by sorry
def P_variable : RP := fun As σ => match As with
  | [.int ty, .int fx, .int k] => (0 ≤ (gI σ 42) ∧ (gI σ 42) ≤ 60) ∧ (0 ≤ (gI σ 14) ∧ (gI σ 14) ≤ 500) ∧ (fx = 0 ∨ fx = 1) ∧ (0 ≤ ty ∧ ty ≤ 4)
  | _ => False
def Q_variable : RQ := fun As σ w τ => match As with
  | [.int ty, .int fx, .int k] => ∃ r : Int32, w = some (.int r) ∧ ((r = 1 ∧ (gI σ 42) < 60 ∧ (gI σ 14) < 500 ∧ ∃ m : Int32, τ = va σ ty fx m k) ∨ (r = 0 ∧ Fp σ τ))
  | _ => False
set_option maxRecDepth 100000 in
set_option maxHeartbeats 4000000 in
theorem b_variable : Bod Bvariable [(17, P_take, Q_take), (12, P_wrong, Q_wrong)] P_variable Q_variable := by sorry
theorem m_variable (l : Launch) : RMet l 3 40 P_variable Q_variable := by sorry
set_option maxRecDepth 100000 in
theorem e_variable (l : Launch) : RMetE l 3 40 P_variable Q_variable := by sorry
def P_pop : RP := fun As σ => match As with
  | [] => (0 ≤ (gI σ 33) ∧ (gI σ 33) < 4000) ∧ (0 ≤ (gI σ 18) ∧ (gI σ 18) < 4000)
  | _ => False
def Q_pop : RQ := fun As σ w τ => match As with
  | [] => w = none ∧ ∃ a : Int32, τ = em σ 21 a (aI σ 23 (gI σ 33).toNatClampNeg)
  | _ => False
set_option maxRecDepth 100000 in
set_option maxHeartbeats 4000000 in
theorem b_pop : Bod Bpop [(20, P_emit, Q_emit)] P_pop Q_pop := by sorry
theorem m_pop (l : Launch) : RMet l 2 51 P_pop Q_pop := by sorry
set_option maxRecDepth 100000 in
theorem e_pop (l : Launch) : RMetE l 2 51 P_pop Q_pop := by sorry
def P_scope : RP := fun As σ => match As with
  | [] => (0 < (gI σ 62) ∧ (gI σ 62) ≤ 40) ∧ (aI σ 63 (gI σ 62 - 1).toNatClampNeg = 0 ∨ aI σ 63 (gI σ 62 - 1).toNatClampNeg = 1 ∨ aI σ 63 (gI σ 62 - 1).toNatClampNeg = 8 ∨ 9 ≤ aI σ 63 (gI σ 62 - 1).toNatClampNeg)
  | _ => False
def Q_scope : RQ := fun As σ w τ => match As with
  | [] => ∃ r : Int32, w = some (.int r) ∧ τ = σ
  | _ => False
set_option maxRecDepth 100000 in
set_option maxHeartbeats 4000000 in
theorem b_scope : Bod Bscope [] P_scope Q_scope := by sorry
theorem m_scope (l : Launch) : RMet l 1 41 P_scope Q_scope := by sorry
set_option maxRecDepth 100000 in
theorem e_scope (l : Launch) : RMetE l 1 41 P_scope Q_scope := by sorry
def P_leave : RP := fun As σ => match As with
  | [.int k, .int t] => 0 ≤ (gI σ 42) ∧ (gI σ 42) ≤ 60
  | _ => False
def Q_leave : RQ := fun As σ w τ => match As with
  | [.int k, .int t] => w = none ∧ ∃ f : Nat → Int32, τ = sA σ 48 f
  | _ => False
set_option maxRecDepth 100000 in
set_option maxHeartbeats 4000000 in
theorem b_leave : Bod Bleave [] P_leave Q_leave := by sorry
theorem m_leave (l : Launch) : RMet l 1 42 P_leave Q_leave := by sorry
set_option maxRecDepth 100000 in
theorem e_leave (l : Launch) : RMetE l 1 42 P_leave Q_leave := by sorry
def P_condition : RP := fun As σ => match As with
  | [] => ∃ s k j, PI σ [] s k j
  | _ => False
def Q_condition : RQ := fun As σ w τ => match As with
  | [] => ∃ r : Int32, w = some (.int r) ∧ ((r = 0 ∧ Fx σ τ) ∨ (r = 1 ∧ Fx σ τ ∧ (∀ s k j, PI σ [] s k j → PI τ [0] s k j) ∧ (∀ K, Fr σ K → Fr τ K) ∧ (gI σ 14) < (gI τ 14) ∧ (0 ≤ (gI τ 33) ∧ (gI τ 33) < (gI τ 18))))
  | _ => False
set_option maxRecDepth 100000 in
set_option maxHeartbeats 4000000 in
theorem b_condition : Bod Bcondition [(27, P_expression, Q_expression), (18, P_want, Q_want)] P_condition Q_condition := by sorry
theorem m_condition (l : Launch) : RMet l 7 52 P_condition Q_condition := by sorry
set_option maxRecDepth 100000 in
theorem e_condition (l : Launch) : RMetE l 7 52 P_condition Q_condition := by sorry
def P_exps : RP := fun As σ => match As with
  | [] => ∃ s k j, PI σ [] s k j
  | _ => False
def Q_exps : RQ := fun As σ w τ => match As with
  | [] => ∃ r : Int32, w = some (.int r) ∧ ((r = 0 ∧ Fx σ τ) ∨ (r = 1 ∧ Fx σ τ ∧ (∀ s k j, PI σ [] s k j → PI τ [] s k j) ∧ (∀ K, Fr σ K → Fr τ K) ∧ (gI σ 14) < (gI τ 14)))
  | _ => False
set_option maxRecDepth 100000 in
set_option maxHeartbeats 4000000 in
theorem b_exps : Bod Bexps [(27, P_expression, Q_expression), (14, P_isSign, Q_isSign), (51, P_pop, Q_pop), (17, P_take, Q_take)] P_exps Q_exps := by sorry
theorem m_exps (l : Launch) : RMet l 7 56 P_exps Q_exps := by sorry
set_option maxRecDepth 100000 in
theorem e_exps (l : Launch) : RMetE l 7 56 P_exps Q_exps := by sorry
/-- the frames that are open, and how many things and methods there are, stand as they stood -/
def Ff (σ τ : RS) : Prop := gI τ 36 = gI σ 36 ∧ gI τ 49 = gI σ 49 ∧ gI τ 62 = gI σ 62 ∧ aI τ 63 = aI σ 63 ∧ aI τ 64 = aI σ 64 ∧ aI τ 65 = aI σ 65 ∧ aI τ 50 = aI σ 50 ∧ aI τ 51 = aI σ 51
theorem Ff.tr {σ τ υ : RS} (h1 : Ff σ τ) (h2 : Ff τ υ) : Ff σ υ := by sorry
theorem Fx.f {σ τ : RS} (h : Fx σ τ) : Ff σ τ := by sorry
def vb (σ : RS) (ty fx m k : Int32) : RS := sA (sA (sA (sA (sA (sA (sI σ 42 (gI σ 42 + 1)) 43 (upd (aI σ 43) (gI σ 42).toNatClampNeg (gI σ 14))) 44 (upd (aI σ 44) (gI σ 42).toNatClampNeg ty)) 45 (upd (aI σ 45) (gI σ 42).toNatClampNeg fx)) 46 (upd (aI σ 46) (gI σ 42).toNatClampNeg m)) 47 (upd (aI σ 47) (gI σ 42).toNatClampNeg k)) 48 (upd (aI σ 48) (gI σ 42).toNatClampNeg (-2))
theorem PI.vari {σ : RS} {E : List Nat} {s : SS} {k j : Int} (h : PI σ E s k j) (ty fx m kk : Int32) (hv : gI σ 42 < 60) (hp : gI σ 14 < 500) (hty : 0 ≤ ty ∧ ty ≤ 4) (k' : Int) (hk : k' ≤ 20 ∧ k ≤ k' + 6) : PI (va σ ty fx m kk) E s k' j := by sorry
theorem PI.dcl {σ : RS} {E : List Nat} {s : SS} {k j : Int} (h : PI σ E s k j) (v b t : Int32) (hv : 0 ≤ v ∧ v < 60) (ht : 0 ≤ t ∧ t ≤ 500) (hE : (b = 1 ∧ E = [0]) ∨ ((b = 0 ∨ b = 2) ∧ E = [])) (hk : k + 1 ≤ 20) (hnz : ¬ zh s.1) : PI (sA (em σ 22 v t) 21 (upd (aI (em σ 22 v t) 21) (gI σ 18).toNatClampNeg b)) [] s (k + 1) j := by sorry
theorem gI_va {σ : RS} {ty fx m k : Int32} {q : Nat} : gI (va σ ty fx m k) q = match Nat.beq q 14 with
  | true => gI σ 14 + 1
  | false => match Nat.beq q 42 with
    | true => gI σ 42 + 1
    | false => gI σ q := rfl
def P_declaration : RP := fun As σ => match As with
  | [.int kq] => ∃ s k j, PI σ [] s k j ∧ ¬ zh s.1
  | _ => False
def Q_declaration : RQ := fun As σ w τ => match As with
  | [.int kq] => ∃ r : Int32, w = some (.int r) ∧ ((r = 0 ∧ Fp σ τ) ∨ (r = 1 ∧ Fp σ τ ∧ (∀ s k j, PI σ [] s k j → ¬ zh s.1 → PI τ [] s k j) ∧ (∀ K, Fr σ K → Fr τ K) ∧ (gI σ 14) < (gI τ 14) ∧ Ff σ τ))
  | _ => False
set_option maxRecDepth 100000 in
set_option maxHeartbeats 4000000 in
theorem b_declaration : Bod Bdeclaration [(13, P_cant, Q_cant), (20, P_emit, Q_emit), (27, P_expression, Q_expression), (14, P_isSign, Q_isSign), (23, P_isType, Q_isType), (15, P_isWord, Q_isWord), (17, P_take, Q_take), (40, P_variable, Q_variable)] P_declaration Q_declaration := by sorry
theorem m_declaration (l : Launch) : RMet l 7 48 P_declaration Q_declaration := by sorry
set_option maxRecDepth 100000 in
theorem e_declaration (l : Launch) : RMetE l 7 48 P_declaration Q_declaration := by sorry
theorem sSt_20 {n : Nat} {a : Int32} {c : Nat} {s s' : SS} (h : sSt n a c s = some s') : ∀ q ∈ s'.1, q.1 = 20 → q ∈ s.1 ∨ q.2 = c := by sorry
theorem Ss_20 {o a : Nat → Int32} (n : Nat) : ∀ s, Ss o a n = some s → ∀ q ∈ s.1, q.1 = 20 → q.2 < n := by sorry
/-- an S that has begun has its token -/
theorem PI.tok {σ : RS} {E : List Nat} {s : SS} {k j : Int} (h : PI σ E s k j) {c : Nat} (hc : (20, c) ∈ s.1) : c < nT (gI σ 18) ∧ 0 ≤ aI σ 22 c ∧ aI σ 22 c ≤ 500 := by sorry
def P_told : RP := fun As σ => match As with
  | [] => ∃ s k j, PI σ [] s k j ∧ k ≤ 19 ∧ ¬ zh s.1 ∧ 0 < (gI σ 62) ∧ (aI σ 63 (gI σ 62 - 1).toNatClampNeg = 0 ∨ aI σ 63 (gI σ 62 - 1).toNatClampNeg = 1 ∨ aI σ 63 (gI σ 62 - 1).toNatClampNeg = 8 ∨ 9 ≤ aI σ 63 (gI σ 62 - 1).toNatClampNeg)
  | _ => False
def Q_told : RQ := fun As σ w τ => match As with
  | [] => ∃ r : Int32, w = some (.int r) ∧ ((r = 0 ∧ Fp σ τ) ∨ (r = 1 ∧ Fp σ τ ∧ (∀ s k j, PI σ [] s k j → k ≤ 19 → ¬ zh s.1 → PI τ [] s k j) ∧ (gI σ 14) < (gI τ 14) ∧ Ff σ τ))
  | _ => False
set_option maxRecDepth 100000 in
set_option maxHeartbeats 4000000 in
theorem b_told : Bod Btold [(48, P_declaration, Q_declaration), (20, P_emit, Q_emit), (41, P_scope, Q_scope), (18, P_want, Q_want)] P_told Q_told := by sorry
theorem m_told (l : Launch) : RMet l 8 47 P_told Q_told := by sorry
set_option maxRecDepth 100000 in
theorem e_told (l : Launch) : RMetE l 8 47 P_told Q_told := by sorry
theorem PI.kk {σ : RS} {E : List Nat} {s : SS} {k j : Int} (h : PI σ E s k j) (k' : Int) (hk : k' ≤ 20 ∧ (gI σ 18).toInt + 2 * (gI σ 62).toInt ≤ 6 * (gI σ 14).toInt + k') : PI σ E s k' j := by sorry
theorem PI.ife {σ : RS} {r : List (Nat × Nat)} {m : Nat} {k j : Int} {a : Int32} (h : PI σ [] ((23, nT a) :: r, m) k j) (t : Int32) (ha : 0 ≤ a ∧ a < gI σ 49) (ht : 0 ≤ t ∧ t ≤ 500) (hk : k + 1 ≤ 20) : PI (sA (em σ 24 a t) 56 (upd (aI σ 56) (nT a) (gI σ 18))) [] ((24, nT a) :: r, m) (k + 1) j := by sorry
theorem PI.ifx3 {σ : RS} {r : List (Nat × Nat)} {m : Nat} {k j : Int} {a : Int32} (h : PI σ [] ((23, nT a) :: r, m) k j) (t : Int32) (ha : 0 ≤ a ∧ a < gI σ 49) (ht : 0 ≤ t ∧ t ≤ 500) (hk : k + 1 ≤ 20) : PI (sA (em σ 25 a t) 55 (upd (aI σ 55) (nT a) (gI σ 18))) [] (r, m) (k + 1) j := by sorry
theorem PI.ifx4 {σ : RS} {r : List (Nat × Nat)} {m : Nat} {k j : Int} {a : Int32} (h : PI σ [] ((24, nT a) :: r, m) k j) (t : Int32) (ha : 0 ≤ a ∧ a < gI σ 49) (ht : 0 ≤ t ∧ t ≤ 500) (hk : k + 1 ≤ 20) : PI (sA (em σ 25 a t) 55 (upd (aI σ 55) (nT a) (gI σ 18))) [] (r, m) (k + 1) j := by sorry
theorem PI.wht {σ : RS} {r : List (Nat × Nat)} {m : Nat} {k j : Int} {a : Int32} (h : PI σ [0] ((26, nT a) :: r, m) k j) (t : Int32) (ha : 0 ≤ a ∧ a < gI σ 49) (ht : 0 ≤ t ∧ t ≤ 500) (hk : k + 1 ≤ 20) : PI (sA (em σ 27 a t) 52 (upd (aI σ 52) (nT a) (gI σ 18))) [] ((27, nT a) :: r, m) (k + 1) j := by sorry
theorem PI.whx {σ : RS} {r : List (Nat × Nat)} {m : Nat} {k j : Int} {a : Int32} (h : PI σ [] ((27, nT a) :: r, m) k j) (t : Int32) (ha : 0 ≤ a ∧ a < gI σ 49) (ht : 0 ≤ t ∧ t ≤ 500) (hk : k + 1 ≤ 20) : PI (sA (em σ 28 a t) 55 (upd (aI σ 55) (nT a) (gI σ 18))) [] (r, m) (k + 1) j := by sorry
theorem PI.doc {σ : RS} {r : List (Nat × Nat)} {m : Nat} {k j : Int} {a : Int32} (h : PI σ [] ((29, nT a) :: r, m) k j) (t : Int32) (ha : 0 ≤ a ∧ a < gI σ 49) (ht : 0 ≤ t ∧ t ≤ 500) (hk : k + 1 ≤ 20) : PI (sA (em σ 30 a t) 52 (upd (aI σ 52) (nT a) (gI σ 18))) [] ((30, nT a) :: r, m) (k + 1) j := by sorry
theorem PI.dot {σ : RS} {r : List (Nat × Nat)} {m : Nat} {k j : Int} {a : Int32} (h : PI σ [0] ((30, nT a) :: r, m) k j) (t : Int32) (ha : 0 ≤ a ∧ a < gI σ 49) (ht : 0 ≤ t ∧ t ≤ 500) (hk : k + 1 ≤ 20) : PI (sA (em σ 31 a t) 55 (upd (aI σ 55) (nT a) (gI σ 18))) [] (r, m) (k + 1) j := by sorry
theorem PI.foru {σ : RS} {r : List (Nat × Nat)} {m : Nat} {k j : Int} {a : Int32} (h : PI σ [] ((33, nT a) :: r, m) k j) (t : Int32) (ha : 0 ≤ a ∧ a < gI σ 49) (ht : 0 ≤ t ∧ t ≤ 500) (hk : k + 1 ≤ 20) : PI (sA (em σ 34 a t) 53 (upd (aI σ 53) (nT a) (gI σ 18))) [] ((34, nT a) :: r, m) (k + 1) j := by sorry
theorem PI.forb {σ : RS} {r : List (Nat × Nat)} {m : Nat} {k j : Int} {a : Int32} (h : PI σ [] ((34, nT a) :: r, m) k j) (t : Int32) (ha : 0 ≤ a ∧ a < gI σ 49) (ht : 0 ≤ t ∧ t ≤ 500) (hk : k + 1 ≤ 20) : PI (sA (em σ 35 a t) 54 (upd (aI σ 54) (nT a) (gI σ 18))) [] ((35, nT a) :: r, m) (k + 1) j := by sorry
theorem PI.forx {σ : RS} {r : List (Nat × Nat)} {m : Nat} {k j : Int} {a : Int32} (h : PI σ [] ((35, nT a) :: r, m) k j) (t : Int32) (ha : 0 ≤ a ∧ a < gI σ 49) (ht : 0 ≤ t ∧ t ≤ 500) (hk : k + 1 ≤ 20) : PI (sA (em σ 36 a t) 55 (upd (aI σ 55) (nT a) (gI σ 18))) [] (r, m) (k + 1) j := by sorry
theorem PI.swx {σ : RS} {r : List (Nat × Nat)} {m : Nat} {k j : Int} {a : Int32} (h : PI σ [] ((37, nT a) :: r, m) k j) (t : Int32) (ha : 0 ≤ a ∧ a < gI σ 49) (ht : 0 ≤ t ∧ t ≤ 500) (hk : k + 1 ≤ 20) : PI (sA (em σ 40 a t) 55 (upd (aI σ 55) (nT a) (gI σ 18))) [] (r, m) (k + 1) j := by sorry
theorem PI.labx {σ : RS} {r : List (Nat × Nat)} {m : Nat} {k j : Int} {a : Int32} (h : PI σ [] ((41, nT a) :: r, m) k j) (t : Int32) (ha : 0 ≤ a ∧ a < gI σ 49) (ht : 0 ≤ t ∧ t ≤ 500) (hk : k + 1 ≤ 20) : PI (sA (em σ 42 a t) 55 (upd (aI σ 55) (nT a) (gI σ 18))) [] (r, m) (k + 1) j := by sorry
theorem PI.ift {σ : RS} {s : SS} {k j : Int} (h : PI σ [0] s k j) (a t : Int32) (hF : Fr σ a) (ha : 0 ≤ a ∧ a < gI σ 49) (ht : 0 ≤ t ∧ t ≤ 500) (hk : k + 1 ≤ 20) (hnz : ¬ zh s.1 := by first | exact Fs_nz | (intro z; simp [zh] at z; done)) : PI (em σ 23 a t) [] ((23, nT a) :: s.1, s.2) (k + 1) j := by sorry
theorem PI.whb {σ : RS} {s : SS} {k j : Int} (h : PI σ [] s k j) (a t : Int32) (hF : Fr σ a) (ha : 0 ≤ a ∧ a < gI σ 49) (ht : 0 ≤ t ∧ t ≤ 500) (hk : k + 1 ≤ 20) (h51 : aI σ 51 (nT a) = gI σ 18) (h50 : aI σ 50 (nT a) = 4) (hnz : ¬ zh s.1 := by first | exact Fs_nz | (intro z; simp [zh] at z; done)) : PI (em σ 26 a t) [] ((26, nT a) :: s.1, s.2) (k + 1) j := by sorry
theorem PI.dob {σ : RS} {s : SS} {k j : Int} (h : PI σ [] s k j) (a t : Int32) (hF : Fr σ a) (ha : 0 ≤ a ∧ a < gI σ 49) (ht : 0 ≤ t ∧ t ≤ 500) (hk : k + 1 ≤ 20) (h51 : aI σ 51 (nT a) = gI σ 18) (h50 : aI σ 50 (nT a) = 5) (hnz : ¬ zh s.1 := by first | exact Fs_nz | (intro z; simp [zh] at z; done)) : PI (em σ 29 a t) [] ((29, nT a) :: s.1, s.2) (k + 1) j := by sorry
theorem PI.forc {σ : RS} {s : SS} {k j : Int} (h : PI σ [] s k j) (a t : Int32) (hF : Fr σ a) (ha : 0 ≤ a ∧ a < gI σ 49) (ht : 0 ≤ t ∧ t ≤ 500) (hk : k + 1 ≤ 20) (h50 : aI σ 50 (nT a) = 6) (hnz : ¬ zh s.1 := by first | exact Fs_nz | (intro z; simp [zh] at z; done)) : PI (sA (em σ 32 a t) 56 (upd (aI σ 56) (nT a) (gI σ 18))) [] ((32, nT a) :: s.1, s.2) (k + 1) j := by sorry
theorem PI.swb {σ : RS} {s : SS} {k j : Int} (h : PI σ [0] s k j) (a t : Int32) (hF : Fr σ a) (ha : 0 ≤ a ∧ a < gI σ 49) (ht : 0 ≤ t ∧ t ≤ 500) (hk : k + 1 ≤ 20) (hnz : ¬ zh s.1 := by first | exact Fs_nz | (intro z; simp [zh] at z; done)) : PI (sA (em σ 37 a t) 52 (upd (aI σ 52) (nT a) (gI σ 18))) [] ((37, nT a) :: s.1, s.2) (k + 1) j := by sorry
theorem PI.lab {σ : RS} {s : SS} {k j : Int} (h : PI σ [] s k j) (a t : Int32) (hF : Fr σ a) (ha : 0 ≤ a ∧ a < gI σ 49) (ht : 0 ≤ t ∧ t ≤ 500) (hk : k + 1 ≤ 20) (hw : aI σ 6 (nT t + 1) = 58) (hnl : nl s.1 ≤ 39) (hnz : ¬ zh s.1 := by first | exact Fs_nz | (intro z; simp [zh] at z; done)) : PI (em σ 41 a t) [] ((41, nT a) :: s.1, s.2) (k + 1) j := by sorry
theorem PI.tryb {σ : RS} {s : SS} {k j : Int} (h : PI σ [] s k j) (a t : Int32) (hF : Fr σ a) (ha : 0 ≤ a ∧ a < gI σ 49) (ht : 0 ≤ t ∧ t ≤ 500) (hk : k + 1 ≤ 20) (h51 : aI σ 51 (nT a) = gI σ 18) (hnl : nl s.1 ≤ 39) (hnz : ¬ zh s.1 := by first | exact Fs_nz | (intro z; simp [zh] at z; done)) : PI (em σ 50 a t) [] ((50, nT a) :: s.1, s.2) (k + 1) j := by sorry
def FF (σ : RS) : List (Nat × Nat) := Fs (aI σ 63) (aI σ 64) (aI σ 65) (nT (gI σ 62))
theorem FF_of {σ τ : RS} (h0 : gI τ 62 = gI σ 62) (h1 : aI τ 63 = aI σ 63) (h2 : aI τ 64 = aI σ 64) (h3 : aI τ 65 = aI σ 65) : FF τ = FF σ := by sorry
theorem FF_ff {σ τ : RS} (h : Ff σ τ) : FF τ = FF σ := FF_of h.2.2.1 h.2.2.2.1 h.2.2.2.2.1 h.2.2.2.2.2.1
theorem aI_th {σ : RS} {s t : Int32} {r : Nat} (h : 62 ≤ r) : aI (th σ s t) r = aI σ r := by sorry
theorem FF_em {σ : RS} {o a t : Int32} : FF (em σ o a t) = FF σ := by sorry
theorem FF_th {σ : RS} {s t : Int32} : FF (th σ s t) = FF σ := by sorry
theorem FF_sI {σ : RS} {k : Nat} {v : Int32} (h : k ≠ 62) : FF (sI σ k v) = FF σ := FF_of (by rw [gI_sI, nb_ne (Ne.symm h)]) rfl rfl rfl
theorem FF_sA {σ : RS} {k : Nat} {f : Nat → Int32} (h : k < 63 ∨ 65 < k) : FF (sA σ k f) = FF σ := by sorry
theorem FF_fo {σ : RS} {s k p : Int32} (h : 0 ≤ gI σ 62 ∧ gI σ 62 ≤ 40) : FF (fo σ s k p) = fit s k p ++ FF σ := by sorry
theorem FF_pop {σ : RS} (h : 0 < gI σ 62) : FF σ = fit (aI σ 63 (nT (gI σ 62 - 1))) (aI σ 64 (nT (gI σ 62 - 1))) (aI σ 65 (nT (gI σ 62 - 1))) ++ Fs (aI σ 63) (aI σ 64) (aI σ 65) (nT (gI σ 62 - 1)) := by sorry
theorem fit1 {t p : Int32} : fit 1 t p = [(20, nT p)] := rfl
theorem fit2 {t p : Int32} : fit 2 t p = [(23, nT t), (20, nT p)] := rfl
theorem fit3 {t p : Int32} : fit 3 t p = [(24, nT t), (20, nT p)] := rfl
theorem fit4 {t p : Int32} : fit 4 t p = [(27, nT t), (20, nT p)] := rfl
theorem fit5 {t p : Int32} : fit 5 t p = [(29, nT t), (20, nT p)] := rfl
theorem fit6 {t p : Int32} : fit 6 t p = [(35, nT t), (20, nT p)] := rfl
theorem fit7 {t p : Int32} : fit 7 t p = [(41, nT t), (20, nT p)] := rfl
theorem fit8 {t p : Int32} : fit 8 t p = [(37, nT t), (20, nT p)] := rfl
theorem fit9 {t p : Int32} : fit 9 t p = [(50, nT t), (20, nT p)] := rfl
theorem fit10 {t p : Int32} : fit 10 t p = [(51, nT t), (20, nT p)] := rfl
theorem fit11 {t p : Int32} : fit 11 t p = [(52, nT t), (20, nT p)] := rfl
theorem fit0 {t p : Int32} : fit 0 t p = [] := rfl
def MF (σ : RS) : Prop := 0 < gI σ 36 ∧ (∀ i, i < nT (gI σ 62) → aI σ 63 i = 0 → i = 0) ∧ 0 < gI σ 62 ∧ aI σ 63 0 = 0
theorem MF.of {σ τ : RS} (h : MF σ) (h36 : gI τ 36 = gI σ 36) (h62 : gI τ 62 = gI σ 62) (h63 : aI τ 63 = aI σ 63) : MF τ := by sorry
theorem MF.ff {σ τ : RS} (hf : Ff σ τ) (h : MF σ) : MF τ := h.of hf.1 hf.2.2.1 hf.2.2.2.1
theorem MF.fop {σ : RS} {s k p : Int32} (h : MF σ) (hs : s ≠ 0) (hb : 0 ≤ gI σ 62 ∧ gI σ 62 ≤ 40) : MF (fo σ s k p) := by sorry
theorem MF.nz {σ : RS} (h : MF σ) (hs : ¬ aI σ 63 (nT (gI σ 62 - 1)) = 0) : ¬ gI σ 62 - 1 = 0 := by sorry
theorem MF.pop {σ τ : RS} (h : MF σ) (hp : 0 < gI σ 62) (hs : ¬ aI σ 63 (nT (gI σ 62 - 1)) = 0) (h36 : gI τ 36 = gI σ 36) (h62 : gI τ 62 = gI σ 62 - 1) (h63 : aI τ 63 = aI σ 63) : MF τ := by sorry
theorem PI.fop {σ : RS} {E : List Nat} {s : SS} {k j : Int} (h : PI σ E s k j) (sort t p : Int32) (hk : k + 2 ≤ 20) (hd : gI σ 17 < 20) (hs : 0 ≤ sort ∧ sort ≤ 11) (ht : 0 ≤ t ∧ t < gI σ 49) (hp : ¬ sort = 0 → 0 ≤ p ∧ p < gI σ 18) : PI (fo σ sort t p) E s (k + 2) j := h.opn (σ' := fo σ sort t p) sort t p hk hd hs ht hp
theorem th51 {σ : RS} {sort t : Int32} : aI (th σ sort t) 51 (nT (gI σ 49)) = gI σ 18 := by sorry
theorem th51a {σ : RS} {sort t : Int32} : aI (th σ sort t) 51 (nT (gI σ 49)) = gI (th σ sort t) 18 := th51
theorem s14a {σ : RS} {v : Int32} : aI (sI σ 14 v) 51 = aI σ 51 := rfl
theorem s14g {σ : RS} {v : Int32} : gI (sI σ 14 v) 18 = gI σ 18 := rfl
theorem th51b {σ : RS} {sort t v : Int32} : aI (sI (th σ sort t) 14 v) 51 (nT (gI σ 49)) = gI (sI (th σ sort t) 14 v) 18 := by sorry
theorem th50 {σ : RS} {sort t : Int32} : aI (th σ sort t) 50 (nT (gI σ 49)) = sort := by sorry
theorem nl_Fs {s t p : Nat → Int32} (n : Nat) : nl (Fs s t p n) ≤ n := by sorry
theorem PI.nf {σ : RS} {E : List Nat} {s : SS} {k j : Int} (h : PI σ E s k j) (q : Nat) : nl ((20, q) :: FF σ) ≤ 39 := by sorry
theorem PI.thg {σ : RS} {s : SS} {k j : Int} (h : PI σ [] s k j) (sort t : Int32) (hj : 1 ≤ j) (hs : 0 ≤ sort ∧ sort ≤ 11) (ht : 0 ≤ t ∧ t ≤ 500) : PI (th σ sort t) [] s k (j - 1) ∧ Fr (th σ sort t) (gI σ 49) := h.thing (σ' := th σ sort t) sort t hj hs ht
theorem lt_nT {x y : Int32} (hx : 0 ≤ x) (hy : 0 ≤ y) (h : nT x < nT y) : x < y := by sorry
theorem aI_em37 {σ : RS} {o a t : Int32} : aI (em σ o a t) 37 = aI σ 37 := rfl
theorem aI_em38 {σ : RS} {o a t : Int32} : aI (em σ o a t) 38 = aI σ 38 := rfl
theorem aI_em39 {σ : RS} {o a t : Int32} : aI (em σ o a t) 39 = aI σ 39 := rfl
theorem aI_em40 {σ : RS} {o a t : Int32} : aI (em σ o a t) 40 = aI σ 40 := rfl
theorem aI_em41 {σ : RS} {o a t : Int32} : aI (em σ o a t) 41 = aI σ 41 := rfl
theorem aI_em43 {σ : RS} {o a t : Int32} : aI (em σ o a t) 43 = aI σ 43 := rfl
theorem aI_em44 {σ : RS} {o a t : Int32} : aI (em σ o a t) 44 = aI σ 44 := rfl
theorem aI_em45 {σ : RS} {o a t : Int32} : aI (em σ o a t) 45 = aI σ 45 := rfl
theorem aI_em46 {σ : RS} {o a t : Int32} : aI (em σ o a t) 46 = aI σ 46 := rfl
theorem aI_em47 {σ : RS} {o a t : Int32} : aI (em σ o a t) 47 = aI σ 47 := rfl
theorem aI_em48 {σ : RS} {o a t : Int32} : aI (em σ o a t) 48 = aI σ 48 := rfl
theorem aI_em50 {σ : RS} {o a t : Int32} : aI (em σ o a t) 50 = aI σ 50 := rfl
theorem aI_em51 {σ : RS} {o a t : Int32} : aI (em σ o a t) 51 = aI σ 51 := rfl
theorem aI_em52 {σ : RS} {o a t : Int32} : aI (em σ o a t) 52 = aI σ 52 := rfl
theorem aI_em53 {σ : RS} {o a t : Int32} : aI (em σ o a t) 53 = aI σ 53 := rfl
theorem aI_em54 {σ : RS} {o a t : Int32} : aI (em σ o a t) 54 = aI σ 54 := rfl
theorem aI_em55 {σ : RS} {o a t : Int32} : aI (em σ o a t) 55 = aI σ 55 := rfl
theorem aI_em56 {σ : RS} {o a t : Int32} : aI (em σ o a t) 56 = aI σ 56 := rfl
theorem aI_em57 {σ : RS} {o a t : Int32} : aI (em σ o a t) 57 = aI σ 57 := rfl
theorem aI_em58 {σ : RS} {o a t : Int32} : aI (em σ o a t) 58 = aI σ 58 := rfl
theorem aI_em59 {σ : RS} {o a t : Int32} : aI (em σ o a t) 59 = aI σ 59 := rfl
theorem aI_em60 {σ : RS} {o a t : Int32} : aI (em σ o a t) 60 = aI σ 60 := rfl
theorem aI_em61 {σ : RS} {o a t : Int32} : aI (em σ o a t) 61 = aI σ 61 := rfl
theorem aI_em63 {σ : RS} {o a t : Int32} : aI (em σ o a t) 63 = aI σ 63 := rfl
theorem aI_em64 {σ : RS} {o a t : Int32} : aI (em σ o a t) 64 = aI σ 64 := rfl
theorem aI_em65 {σ : RS} {o a t : Int32} : aI (em σ o a t) 65 = aI σ 65 := rfl
/-- a frame less, and the room that it held -/
theorem PI.pk {σ : RS} {E : List Nat} {s : SS} {k j : Int} (h : PI σ E s k j) (hp : 0 < gI σ 62) : (gI σ 18).toInt + 2 * (gI σ 62 - 1).toInt ≤ 6 * (gI σ 14).toInt + (k - 2) := by sorry
theorem PI.popk {σ : RS} {E : List Nat} {s : SS} {k j : Int} (h : PI σ E s k j) (hp : 0 < gI σ 62) : PI (sI (sI σ 17 (gI σ 17 - 1)) 62 (gI σ 62 - 1)) E s (k - 2) j := by sorry
theorem PI.popl {σ : RS} {E : List Nat} {s : SS} {k j : Int} (h : PI σ E s k j) (hp : 0 < gI σ 62) : PI (sI (sI σ 62 (gI σ 62 - 1)) 17 (gI σ 17 - 1)) E s (k - 2) j := by sorry
theorem PI.ktok {σ : RS} {E : List Nat} {s : SS} {k j : Int} (h : PI σ E s k j) {K : Int32} (h0 : 0 ≤ K) (h1 : K < gI σ 49) : 0 ≤ aI σ 60 (nT K) ∧ aI σ 60 (nT K) ≤ 500 := (h.2.2.2.2.1.2 (nT K) (nT_lt h0 h1)).2.1
theorem PI.ctok {σ : RS} {E : List Nat} {s : SS} {k j : Int} (h : PI σ E s k j) {c : Int32} (h0 : 0 ≤ c) (h1 : c < gI σ 18) : 0 ≤ aI σ 22 (nT c) ∧ aI σ 22 (nT c) ≤ 500 := (h.2.2.2.1 (nT c) (nT_lt h0 h1)).2.1
theorem PI.s48 {σ : RS} {E : List Nat} {s : SS} {k j : Int} (h : PI σ E s k j) (f : Nat → Int32) : PI (sA σ 48 f) E s k j := by sorry
/-- the top frame -/
theorem PI.top {σ : RS} {E : List Nat} {s : SS} {k j : Int} (h : PI σ E s k j) (hp : 0 < gI σ 62) : (0 ≤ aI σ 63 (nT (gI σ 62 - 1)) ∧ aI σ 63 (nT (gI σ 62 - 1)) ≤ 11) ∧ (0 ≤ aI σ 64 (nT (gI σ 62 - 1)) ∧ aI σ 64 (nT (gI σ 62 - 1)) < gI σ 49) ∧ (¬ aI σ 63 (nT (gI σ 62 - 1)) = 0 → 0 ≤ aI σ 65 (nT (gI σ 62 - 1)) ∧ aI σ 65 (nT (gI σ 62 - 1)) < gI σ 18) := by sorry
def els (σ : RS) : RS := sA σ 63 (upd (aI σ 63) (nT (gI σ 62 - 1)) 3)
theorem PI.elsx {σ σ' : RS} {E : List Nat} {s : SS} {k j : Int} (h : PI σ E s k j) (hp : 0 < gI σ 62) (hs : ¬ aI σ 63 (nT (gI σ 62 - 1)) = 0) (f14 : gI σ' 14 = gI σ 14 := by rfl) (f17 : gI σ' 17 = gI σ 17 := by rfl) (f32 : gI σ' 32 = gI σ 32 := by rfl) (f49 : gI σ' 49 = gI σ 49 := by rfl) (f62 : gI σ' 62 = gI σ 62 := by rfl) (f42 : gI σ' 42 = gI σ 42 := by rfl) (f36 : gI σ' 36 = gI σ 36 := by rfl) (e63 : aI σ' 63 = upd (aI σ 63) (nT (gI σ 62 - 1)) 3 := by rfl) (f64 : aI σ' 64 = aI σ 64 := by rfl) (f65 : aI σ' 65 = aI σ 65 := by rfl) (f43 : aI σ' 43 = aI σ 43 := by rfl) (f37 : aI σ' 37 = aI σ 37 := by rfl) (f39 : aI σ' 39 = aI σ 39 := by rfl) (f40 : aI σ' 40 = aI σ 40 := by rfl) (f41 : aI σ' 41 = aI σ 41 := by rfl) (e18 : gI σ' 18 = gI σ 18 := by rfl) (e19 : aI σ' 19 = aI σ 19 := by rfl) (e20 : aI σ' 20 = aI σ 20 := by rfl) (e21 : aI σ' 21 = aI σ 21 := by rfl) (e22 : aI σ' 22 = aI σ 22 := by rfl) (e23 : aI σ' 23 = aI σ 23 := by rfl) (e24 : aI σ' 24 = aI σ 24 := by rfl) (f50 : aI σ' 50 = aI σ 50 := by rfl) (f51 : aI σ' 51 = aI σ 51 := by rfl) (f52 : aI σ' 52 = aI σ 52 := by rfl) (f53 : aI σ' 53 = aI σ 53 := by rfl) (f54 : aI σ' 54 = aI σ 54 := by rfl) (f55 : aI σ' 55 = aI σ 55 := by rfl) (f56 : aI σ' 56 = aI σ 56 := by rfl) (f57 : aI σ' 57 = aI σ 57 := by rfl) (f58 : aI σ' 58 = aI σ 58 := by rfl) (f59 : aI σ' 59 = aI σ 59 := by rfl) (f60 : aI σ' 60 = aI σ 60 := by rfl) (f61 : aI σ' 61 = aI σ 61 := by rfl) (f3 : aI σ' 3 = aI σ 3 := by rfl) (f6 : aI σ' 6 = aI σ 6 := by rfl) (hgz : GZ σ → GZ σ' := by exact fun h => h) : PI σ' E s k j := by sorry
theorem PI.elz {σ : RS} {E : List Nat} {s : SS} {k j : Int} (h : PI σ E s k j) (hp : 0 < gI σ 62) (hs : ¬ aI σ 63 (nT (gI σ 62 - 1)) = 0) : PI (els σ) E s k j := by sorry
theorem FF_els {σ : RS} (h : 0 < gI σ 62) : FF (els σ) = fit 3 (aI σ 64 (nT (gI σ 62 - 1))) (aI σ 65 (nT (gI σ 62 - 1))) ++ Fs (aI σ 63) (aI σ 64) (aI σ 65) (nT (gI σ 62 - 1)) := by sorry
theorem MF.elz {σ : RS} (h : MF σ) (hs : ¬ aI σ 63 (nT (gI σ 62 - 1)) = 0) : MF (els σ) := by sorry
def P_doOf : RP := fun As σ => match As with
  | [] => ∃ mn k j, PI σ [] (FF σ, mn) k j ∧ k ≤ 12 ∧ 1 ≤ j ∧ MF σ
  | _ => False
def Q_doOf : RQ := fun As σ w τ => match As with
  | [] => ∃ r : Int32, w = some (.int r) ∧ ((r = 0 ∧ Fp σ τ) ∨ (r = 1 ∧ Fp σ τ ∧ (∀ mn k j, PI σ [] (FF σ, mn) k j → k ≤ 12 → 1 ≤ j → PI τ [] (FF τ, mn) k j) ∧ MF τ ∧ (gI σ 14) < (gI τ 14)))
  | _ => False
set_option maxRecDepth 100000 in
set_option maxHeartbeats 4000000 in
theorem b_doOf : Bod BdoOf [(20, P_emit, Q_emit), (36, P_open, Q_open), (17, P_take, Q_take), (35, P_thing, Q_thing)] P_doOf Q_doOf := by sorry
theorem m_doOf (l : Launch) : RMet l 4 55 P_doOf Q_doOf := by sorry
set_option maxRecDepth 100000 in
theorem e_doOf (l : Launch) : RMetE l 4 55 P_doOf Q_doOf := by sorry
def P_ifOf : RP := fun As σ => match As with
  | [] => ∃ mn k j, PI σ [] (FF σ, mn) k j ∧ k ≤ 12 ∧ 1 ≤ j ∧ MF σ
  | _ => False
def Q_ifOf : RQ := fun As σ w τ => match As with
  | [] => ∃ r : Int32, w = some (.int r) ∧ ((r = 0 ∧ Fp σ τ) ∨ (r = 1 ∧ Fp σ τ ∧ (∀ mn k j, PI σ [] (FF σ, mn) k j → k ≤ 12 → 1 ≤ j → PI τ [] (FF τ, mn) k j) ∧ MF τ ∧ (gI σ 14) < (gI τ 14)))
  | _ => False
set_option maxRecDepth 100000 in
set_option maxHeartbeats 4000000 in
theorem b_ifOf : Bod BifOf [(52, P_condition, Q_condition), (20, P_emit, Q_emit), (36, P_open, Q_open), (17, P_take, Q_take), (35, P_thing, Q_thing)] P_ifOf Q_ifOf := by sorry
theorem m_ifOf (l : Launch) : RMet l 8 53 P_ifOf Q_ifOf := by sorry
set_option maxRecDepth 100000 in
theorem e_ifOf (l : Launch) : RMetE l 8 53 P_ifOf Q_ifOf := by sorry
def P_whileOf : RP := fun As σ => match As with
  | [] => ∃ mn k j, PI σ [] (FF σ, mn) k j ∧ k ≤ 12 ∧ 1 ≤ j ∧ MF σ
  | _ => False
def Q_whileOf : RQ := fun As σ w τ => match As with
  | [] => ∃ r : Int32, w = some (.int r) ∧ ((r = 0 ∧ Fp σ τ) ∨ (r = 1 ∧ Fp σ τ ∧ (∀ mn k j, PI σ [] (FF σ, mn) k j → k ≤ 12 → 1 ≤ j → PI τ [] (FF τ, mn) k j) ∧ MF τ ∧ (gI σ 14) < (gI τ 14)))
  | _ => False
set_option maxRecDepth 100000 in
set_option maxHeartbeats 4000000 in
theorem b_whileOf : Bod BwhileOf [(52, P_condition, Q_condition), (20, P_emit, Q_emit), (36, P_open, Q_open), (17, P_take, Q_take), (35, P_thing, Q_thing)] P_whileOf Q_whileOf := by sorry
theorem m_whileOf (l : Launch) : RMet l 8 54 P_whileOf Q_whileOf := by sorry
set_option maxRecDepth 100000 in
theorem e_whileOf (l : Launch) : RMetE l 8 54 P_whileOf Q_whileOf := by sorry
def P_switchOf : RP := fun As σ => match As with
  | [] => ∃ mn k j, PI σ [] (FF σ, mn) k j ∧ k ≤ 12 ∧ 1 ≤ j ∧ MF σ
  | _ => False
def Q_switchOf : RQ := fun As σ w τ => match As with
  | [] => ∃ r : Int32, w = some (.int r) ∧ ((r = 0 ∧ Fp σ τ) ∨ (r = 1 ∧ Fp σ τ ∧ (∀ mn k j, PI σ [] (FF σ, mn) k j → k ≤ 12 → 1 ≤ j → PI τ [] (FF τ, mn) k j) ∧ MF τ ∧ (gI σ 14) < (gI τ 14)))
  | _ => False
set_option maxRecDepth 100000 in
set_option maxHeartbeats 4000000 in
theorem b_switchOf : Bod BswitchOf [(52, P_condition, Q_condition), (20, P_emit, Q_emit), (36, P_open, Q_open), (17, P_take, Q_take), (35, P_thing, Q_thing), (18, P_want, Q_want)] P_switchOf Q_switchOf := by sorry
theorem m_switchOf (l : Launch) : RMet l 8 58 P_switchOf Q_switchOf := by sorry
set_option maxRecDepth 100000 in
theorem e_switchOf (l : Launch) : RMetE l 8 58 P_switchOf Q_switchOf := by sorry
def P_tryOf : RP := fun As σ => match As with
  | [] => ∃ mn k j, PI σ [] (FF σ, mn) k j ∧ k ≤ 12 ∧ 1 ≤ j ∧ MF σ
  | _ => False
def Q_tryOf : RQ := fun As σ w τ => match As with
  | [] => ∃ r : Int32, w = some (.int r) ∧ ((r = 0 ∧ Fp σ τ) ∨ (r = 1 ∧ Fp σ τ ∧ (∀ mn k j, PI σ [] (FF σ, mn) k j → k ≤ 12 → 1 ≤ j → PI τ [] (FF τ, mn) k j) ∧ MF τ ∧ (gI σ 14) < (gI τ 14)))
  | _ => False
set_option maxRecDepth 100000 in
set_option maxHeartbeats 4000000 in
theorem b_tryOf : Bod BtryOf [(20, P_emit, Q_emit), (36, P_open, Q_open), (17, P_take, Q_take), (35, P_thing, Q_thing), (18, P_want, Q_want)] P_tryOf Q_tryOf := by sorry
theorem m_tryOf (l : Launch) : RMet l 4 66 P_tryOf Q_tryOf := by sorry
set_option maxRecDepth 100000 in
theorem e_tryOf (l : Launch) : RMetE l 4 66 P_tryOf Q_tryOf := by sorry
theorem PI.tokA {σ : RS} {r : Nat} {f : Nat → Int32} {E : List Nat} {s : SS} {k j : Int} (h : PI (sA σ r f) E s k j) (hr : 22 ≠ r) {c : Nat} (hc : (20, c) ∈ s.1) : c < nT (gI σ 18) ∧ 0 ≤ aI σ 22 c ∧ aI σ 22 c ≤ 500 := by sorry
def fS (τ : RS) : RS := sI (sI τ 17 (gI τ 17 - 1)) 62 (gI τ 62 - 1)
def fX (S τ : RS) (o : Int32) : RS := sA (em S o (aI τ 64 (nT (gI τ 62 - 1))) (aI τ 60 (nT (aI τ 64 (nT (gI τ 62 - 1)))))) 55 (upd (aI τ 55) (nT (aI τ 64 (nT (gI τ 62 - 1)))) (gI τ 18))
theorem FF_fS {τ : RS} : FF (fS τ) = (Fs (aI τ 63) (aI τ 64) (aI τ 65) (nT (gI τ 62 - 1))) := rfl
theorem FF_fX {S τ : RS} {o : Int32} : FF (fX S τ o) = FF S := by sorry
theorem PI.fx2 {τ : RS} {mn : Nat} {k j : Int} (h : PI τ [] (FF τ, mn) k j) (hk : k ≤ 18) (hop : 0 < gI τ 62) (hxs : (aI τ 63 (nT (gI τ 62 - 1))) = 2) : PI (fX (fS τ) τ 25) [] ((20, nT (aI τ 65 (nT (gI τ 62 - 1)))) :: FF (fX (fS τ) τ 25), mn) (k - 1) j := by sorry
theorem PI.fx3 {τ : RS} {mn : Nat} {k j : Int} (h : PI τ [] (FF τ, mn) k j) (hk : k ≤ 18) (hop : 0 < gI τ 62) (hxs : (aI τ 63 (nT (gI τ 62 - 1))) = 3) : PI (fX (fS τ) τ 25) [] ((20, nT (aI τ 65 (nT (gI τ 62 - 1)))) :: FF (fX (fS τ) τ 25), mn) (k - 1) j := by sorry
theorem PI.fx4 {τ : RS} {mn : Nat} {k j : Int} (h : PI τ [] (FF τ, mn) k j) (hk : k ≤ 18) (hop : 0 < gI τ 62) (hxs : (aI τ 63 (nT (gI τ 62 - 1))) = 4) : PI (fX (fS τ) τ 28) [] ((20, nT (aI τ 65 (nT (gI τ 62 - 1)))) :: FF (fX (fS τ) τ 28), mn) (k - 1) j := by sorry
theorem PI.fx6 {τ : RS} {f : Nat → Int32} {mn : Nat} {k j : Int} (h : PI τ [] (FF τ, mn) k j) (hk : k ≤ 18) (hop : 0 < gI τ 62) (hxs : (aI τ 63 (nT (gI τ 62 - 1))) = 6) : PI (fX (sA (fS τ) 48 f) τ 36) [] ((20, nT (aI τ 65 (nT (gI τ 62 - 1)))) :: FF (fX (sA (fS τ) 48 f) τ 36), mn) (k - 1) j := by sorry
theorem PI.fx7 {τ : RS} {mn : Nat} {k j : Int} (h : PI τ [] (FF τ, mn) k j) (hk : k ≤ 18) (hop : 0 < gI τ 62) (hxs : (aI τ 63 (nT (gI τ 62 - 1))) = 7) : PI (fX (fS τ) τ 42) [] ((20, nT (aI τ 65 (nT (gI τ 62 - 1)))) :: FF (fX (fS τ) τ 42), mn) (k - 1) j := by sorry
theorem MF.mX {τ : RS} {o : Int32} (h : MF τ) (hop : 0 < gI τ 62) (hs : ¬ aI τ 63 (nT (gI τ 62 - 1)) = 0) : MF (fX (fS τ) τ o) := MF.pop h hop hs rfl rfl rfl
theorem MF.mY {τ : RS} {o : Int32} {f : Nat → Int32} (h : MF τ) (hop : 0 < gI τ 62) (hs : ¬ aI τ 63 (nT (gI τ 62 - 1)) = 0) : MF (fX (sA (fS τ) 48 f) τ o) := MF.pop h hop hs rfl rfl rfl
def dX (τ : RS) : RS := sA (em (sI (fS τ) 14 (gI τ 14 + 1)) 30 (aI τ 64 (nT (gI τ 62 - 1))) (aI τ 60 (nT (aI τ 64 (nT (gI τ 62 - 1)))))) 52 (upd (aI τ 52) (nT (aI τ 64 (nT (gI τ 62 - 1)))) (gI τ 18))
theorem PI.dx {τ : RS} {mn : Nat} {k j : Int} (h : PI τ [] (FF τ, mn) k j) (hk : k ≤ 18) (hop : 0 < gI τ 62) (hxs : (aI τ 63 (nT (gI τ 62 - 1))) = 5) (hp : gI τ 14 < 500) : PI (dX τ) [] ((30, nT (aI τ 64 (nT (gI τ 62 - 1)))) :: (20, nT (aI τ 65 (nT (gI τ 62 - 1)))) :: (Fs (aI τ 63) (aI τ 64) (aI τ 65) (nT (gI τ 62 - 1))), mn) (k - 7) (j + 1) := by sorry
def dY (υ : RS) (K : Int32) : RS := sA (em (sI υ 14 (gI υ 14 + 1)) 31 K (aI υ 60 (nT K))) 55 (upd (aI υ 55) (nT K) (gI υ 18))
theorem FF_dY {υ : RS} {K : Int32} : FF (dY υ K) = FF υ := by sorry
theorem PI.dy {υ : RS} {K P : Int32} {R : List (Nat × Nat)} {mn : Nat} {k j : Int} (h : PI υ [0] ((30, nT K) :: (20, nT P) :: R, mn) k j) (hk : k ≤ 18) (hp : gI υ 14 < 500) (hK : 0 ≤ K ∧ K < gI υ 49) : PI (dY υ K) [] ((20, nT P) :: R, mn) (k - 5) (j + 1) := by sorry
theorem MF.mD {υ τ : RS} {K : Int32} (hf : Ff (dX τ) υ) (h : MF τ) (hop : 0 < gI τ 62) (hs : ¬ aI τ 63 (nT (gI τ 62 - 1)) = 0) : MF (dY υ K) := MF.of (MF.ff hf (MF.pop h hop hs rfl rfl rfl)) rfl rfl rfl
def elq (τ : RS) : RS := sI (sA (em τ 24 (aI τ 64 (nT (gI τ 62 - 1))) (gI τ 14)) 56 (upd (aI τ 56) (nT (aI τ 64 (nT (gI τ 62 - 1)))) (gI τ 18))) 14 (gI τ 14 + 1)
def eL (τ : RS) : RS := sI (sA (sI (sA (em (sI τ 17 (gI τ 17 - 1)) 24 (aI τ 64 (nT (gI τ 62 - 1))) (gI τ 14)) 56 (upd (aI τ 56) (nT (aI τ 64 (nT (gI τ 62 - 1)))) (gI τ 18))) 14 (gI τ 14 + 1)) 63 (upd (aI τ 63) (nT (gI τ 62 - 1)) 3)) 17 (gI τ 17 - 1 + 1)
theorem FF_elq {τ : RS} (hop : 0 < gI τ 62) : FF (els (elq τ)) = fit 3 (aI τ 64 (nT (gI τ 62 - 1))) (aI τ 65 (nT (gI τ 62 - 1))) ++ (Fs (aI τ 63) (aI τ 64) (aI τ 65) (nT (gI τ 62 - 1))) := FF_els (σ := elq τ) hop
theorem PI.elv {τ : RS} {s : SS} {k j : Int} (h : PI (els (elq τ)) [] s k j) (e17 : gI τ 17 - 1 + 1 = gI τ 17) : PI (eL τ) [] s k j := by sorry
theorem PI.elf {τ : RS} {mn : Nat} {k j : Int} (h : PI τ [] (FF τ, mn) k j) (hk : k ≤ 18) (hop : 0 < gI τ 62) (hxs : (aI τ 63 (nT (gI τ 62 - 1))) = 2) (hp : gI τ 14 < 500) : PI (eL τ) [] (FF (eL τ), mn) k j := by sorry
theorem MF.elf {τ : RS} (h : MF τ) (hs : ¬ aI τ 63 (nT (gI τ 62 - 1)) = 0) : MF (eL τ) := MF.of (MF.elz h hs) rfl rfl rfl
def P_finished : RP := fun As σ => match As with
  | [] => ∃ mn k j, PI σ [] (FF σ, mn) k j ∧ k ≤ 18 ∧ MF σ
  | _ => False
def Q_finished : RQ := fun As σ w τ => match As with
  | [] => ∃ r : Int32, w = some (.int r) ∧ ((r = 0 ∧ Fp σ τ) ∨ (r = 1 ∧ Fp σ τ ∧ (∀ mn k j, PI σ [] (FF σ, mn) k j → k ≤ 18 → PI τ [] (FF τ, mn) k j) ∧ MF τ ∧ (gI σ 14) ≤ (gI τ 14)))
  | _ => False
set_option maxRecDepth 100000 in
set_option maxHeartbeats 4000000 in
theorem b_finished : Bod Bfinished [(13, P_cant, Q_cant), (52, P_condition, Q_condition), (20, P_emit, Q_emit), (19, P_enter, Q_enter), (43, P_isRow, Q_isRow), (15, P_isWord, Q_isWord), (42, P_leave, Q_leave), (17, P_take, Q_take), (18, P_want, Q_want)] P_finished Q_finished := by sorry
theorem m_finished (l : Launch) : RMet l 8 69 P_finished Q_finished := by sorry
set_option maxRecDepth 100000 in
theorem e_finished (l : Launch) : RMetE l 8 69 P_finished Q_finished := by sorry
theorem aI_em22 {σ : RS} {o a t : Int32} : aI (em σ o a t) 22 = upd (aI σ 22) (gI σ 18).toNatClampNeg t := rfl
/-- a code whose cB is set behind it -/
theorem PI.cbm {σ : RS} {E E' : List Nat} {s s' : SS} {k j : Int} (h : PI σ E s k j) (o a b t : Int32) (ho : 19 ≤ o ∧ o ≤ 54) (ht : 0 ≤ t ∧ t ≤ 500) (hz : ksl (nT o) = 0) (hka : kop (nT o) = true → 0 ≤ a ∧ a < gI σ 49) (h22 : o = 22 → 0 ≤ a ∧ a < 60) (h54 : o = 54 → 0 ≤ a ∧ a ≤ 9) (h46 : (o = 46 ∨ o = 47) → a = -2 ∨ (0 ≤ a ∧ a < gI σ 49)) (hup : kpu (nT o) = true → ∀ c, c < nT (gI σ 18) → kpu (nT (aI σ 19 c)) = true → aI σ 20 c ≠ a) (he : eSt (nT o) a b E = some E') (hs : sSt (nT o) a (nT (gI σ 18)) s = some s') (hk : k + 1 ≤ 20) (hpl : opl o := by decide) (hzh : zh s.1 → o = 21 ∨ o = 31 ∨ o = 35 := by first | exact fun _ => Or.inl rfl | exact fun _ => Or.inr (Or.inl rfl) | exact fun _ => Or.inr (Or.inr rfl) | (intro z; simp [zh] at z; done)) : PI (sA (em σ o a t) 21 (upd (aI (em σ o a t) 21) (gI σ 18).toNatClampNeg b)) E' s' (k + 1) j := by sorry
def p0 (σ : RS) : RS := em (sI (em σ 20 0 (gI σ 14)) 14 (gI σ 14 + 1)) 45 (gI σ 18) (upd (aI σ 22) (nT (gI σ 18)) (gI σ 14) (nT (gI σ 18)))
theorem PI.pl0 {σ : RS} {mn : Nat} {k j : Int} (h : PI σ [] (FF σ, mn) k j) (hk : k ≤ 18) (hp : gI σ 14 < 500) : PI (p0 σ) [] (FF (p0 σ), mn) (k - 4) (j + 1) := by sorry
def p1 (τ : RS) (P a t : Int32) : RS := em (sI (em τ 21 a t) 14 (gI τ 14 + 1)) 45 P (upd (aI τ 22) (nT (gI τ 18)) t (nT P))
theorem PI.pl1 {σ τ : RS} {mn : Nat} {k j : Int} (h : PI σ [] (FF σ, mn) k j) (hk : k ≤ 18) (hx : XE (em σ 20 0 (gI σ 14)) τ) (a t : Int32) (ht : 0 ≤ t ∧ t ≤ 500) (hp : gI τ 14 < 500) : PI (p1 τ (gI σ 18) a t) [] (FF (p1 τ (gI σ 18) a t), mn) (k - 4) (j + 1) := by sorry
def cS (σ : RS) (p : Int32) : RS := sI (sI (em σ 45 p (aI σ 22 (nT p))) 62 (gI σ 62 - 1)) 17 (gI σ 17 - 1)
theorem FF_cS {σ : RS} {p : Int32} : FF (cS σ p) = Fs (aI σ 63) (aI σ 64) (aI σ 65) (nT (gI σ 62 - 1)) := FF_of (σ := sI σ 62 (gI σ 62 - 1)) rfl rfl rfl rfl
theorem PI.cs {σ : RS} {p : Int32} {mn : Nat} {k j : Int} (h : PI σ [] ((20, nT p) :: Fs (aI σ 63) (aI σ 64) (aI σ 65) (nT (gI σ 62 - 1)), mn) k j) (hk : k ≤ 18) (hop : 0 < gI σ 62) : PI (cS σ p) [] (FF (cS σ p), mn) k j := by sorry
theorem MF.cs {σ : RS} {p : Int32} (h : MF σ) (hop : 0 < gI σ 62) (hs : ¬ aI σ 63 (nT (gI σ 62 - 1)) = 0) : MF (cS σ p) := MF.pop h hop hs rfl rfl rfl
/-- return, throw -/
def g0 (X : RS) (o a b t P : Int32) : RS := em (sI (sA (em X o a t) 21 (upd (aI (em X o a t) 21) (gI X 18).toNatClampNeg b)) 14 (gI X 14 + 1)) 45 P t
theorem FF_g0 {X : RS} {o a b t P : Int32} : FF (g0 X o a b t P) = FF X := by sorry
theorem PI.g0x {X : RS} {E : List Nat} {o a b t P : Int32} {r : List (Nat × Nat)} {mn : Nat} {k j : Int} (h : PI X E ((20, nT P) :: r, mn) k j) (ho : o = 48 ∨ o = 49) (he : eSt (nT o) a b E = some []) (ht : 0 ≤ t ∧ t ≤ 500) (hp : gI X 14 < 500) (hk : k ≤ 18) : PI (g0 X o a b t P) [] (r, mn) (k - 4) (j + 1) := by sorry
/-- break, continue -/
def jX (X : RS) (o a u t P : Int32) : RS := em (sI (em X o a u) 14 (gI X 14 + 1)) 45 P t
theorem FF_jX {X : RS} {o a u t P : Int32} : FF (jX X o a u t P) = FF X := by sorry
theorem PI.jx {X : RS} {o a u t P : Int32} {r : List (Nat × Nat)} {mn : Nat} {k j : Int} (h : PI X [] ((20, nT P) :: r, mn) k j) (ho : o = 46 ∨ o = 47) (ha : a = -2 ∨ (0 ≤ a ∧ a < gI X 49)) (hq : a = -2 ∨ ∃ q ∈ r, q.2 = nT a ∧ jo (nT o) q.1) (hw : aI X 3 (nT u) = 1 → aI X 6 (nT u + 1) = 59) (hj : 1 ≤ j) (hu : 0 ≤ u ∧ u ≤ 500) (ht : 0 ≤ t ∧ t ≤ 500) (hp : gI X 14 < 500) (hk : k ≤ 18) : PI (jX X o a u t P) [] (r, mn) (k - 4) j := by sorry
def P_closed : RP := fun As σ => match As with
  | [.int p] => ∃ mn k j, PI σ [] ((20, nT p) :: Fs (aI σ 63) (aI σ 64) (aI σ 65) (nT (gI σ 62 - 1)), mn) k j ∧ k ≤ 18 ∧ 0 < (gI σ 62) ∧ MF σ ∧ (0 ≤ p ∧ p < (gI σ 18)) ∧ ¬ aI σ 63 (nT (gI σ 62 - 1)) = 0
  | _ => False
def Q_closed : RQ := fun As σ w τ => match As with
  | [.int p] => ∃ r : Int32, w = some (.int r) ∧ ((r = 0 ∧ Fp σ τ) ∨ (r = 1 ∧ Fp σ τ ∧ (∀ mn k j, PI σ [] ((20, nT p) :: Fs (aI σ 63) (aI σ 64) (aI σ 65) (nT (gI σ 62 - 1)), mn) k j → k ≤ 18 → PI τ [] (FF τ, mn) k j) ∧ MF τ ∧ (gI σ 14) ≤ (gI τ 14)))
  | _ => False
set_option maxRecDepth 100000 in
set_option maxHeartbeats 4000000 in
theorem b_closed : Bod Bclosed [(20, P_emit, Q_emit), (69, P_finished, Q_finished)] P_closed Q_closed := by sorry
theorem m_closed (l : Launch) : RMet l 9 61 P_closed Q_closed := by sorry
set_option maxRecDepth 100000 in
theorem e_closed (l : Launch) : RMetE l 9 61 P_closed Q_closed := by sorry
def P_plain : RP := fun As σ => match As with
  | [] => ∃ mn k j, PI σ [] (FF σ, mn) k j ∧ k ≤ 12 ∧ 1 ≤ j ∧ MF σ
  | _ => False
def Q_plain : RQ := fun As σ w τ => match As with
  | [] => ∃ r : Int32, w = some (.int r) ∧ ((r = 0 ∧ Fp σ τ) ∨ (r = 1 ∧ Fp σ τ ∧ (∀ mn k j, PI σ [] (FF σ, mn) k j → k ≤ 12 → 1 ≤ j → PI τ [] (FF τ, mn) k j) ∧ MF τ ∧ (gI σ 14) < (gI τ 14)))
  | _ => False
set_option maxRecDepth 100000 in
set_option maxHeartbeats 4000000 in
theorem b_plain : Bod Bplain [(20, P_emit, Q_emit), (27, P_expression, Q_expression), (69, P_finished, Q_finished), (14, P_isSign, Q_isSign), (51, P_pop, Q_pop), (18, P_want, Q_want)] P_plain Q_plain := by sorry
theorem m_plain (l : Launch) : RMet l 9 50 P_plain Q_plain := by sorry
set_option maxRecDepth 100000 in
theorem e_plain (l : Launch) : RMetE l 9 50 P_plain Q_plain := by sorry
def P_gives : RP := fun As σ => match As with
  | [] => ∃ mn k j, PI σ [] (FF σ, mn) k j ∧ k ≤ 12 ∧ 1 ≤ j ∧ MF σ
  | _ => False
def Q_gives : RQ := fun As σ w τ => match As with
  | [] => ∃ r : Int32, w = some (.int r) ∧ ((r = 0 ∧ Fp σ τ) ∨ (r = 1 ∧ Fp σ τ ∧ (∀ mn k j, PI σ [] (FF σ, mn) k j → k ≤ 12 → 1 ≤ j → PI τ [] (FF τ, mn) k j) ∧ MF τ ∧ (gI σ 14) < (gI τ 14)))
  | _ => False
set_option maxRecDepth 100000 in
set_option maxHeartbeats 4000000 in
theorem b_gives : Bod Bgives [(20, P_emit, Q_emit), (27, P_expression, Q_expression), (69, P_finished, Q_finished), (14, P_isSign, Q_isSign), (15, P_isWord, Q_isWord), (17, P_take, Q_take), (18, P_want, Q_want)] P_gives Q_gives := by sorry
theorem m_gives (l : Launch) : RMet l 9 65 P_gives Q_gives := by sorry
set_option maxRecDepth 100000 in
theorem e_gives (l : Launch) : RMetE l 9 65 P_gives Q_gives := by sorry
theorem PI.frm {σ : RS} {E : List Nat} {s : SS} {k j : Int} (h : PI σ E s k j) {f : Int32} (h0 : 0 ≤ f) (h1 : f < gI σ 62) : (0 ≤ aI σ 63 f.toNatClampNeg ∧ aI σ 63 f.toNatClampNeg ≤ 11) ∧ (0 ≤ aI σ 64 f.toNatClampNeg ∧ aI σ 64 f.toNatClampNeg < gI σ 49) ∧ (0 ≤ aI σ 60 (aI σ 64 f.toNatClampNeg).toNatClampNeg ∧ aI σ 60 (aI σ 64 f.toNatClampNeg).toNatClampNeg ≤ 500) := by sorry
theorem mdn {f : Int32} {n : Nat} (hn : nT (f + 1) = n) (h0 : 0 ≤ f) (h1 : f ≤ 1000) : nT (f + -1 + 1) < n := by sorry
theorem PI.csx {X : RS} {K : Int32} {r : List (Nat × Nat)} {mn : Nat} {k j : Int} (h : PI X [0] ((37, nT K) :: r, mn) k j) (b t : Int32) (hK : 0 ≤ K ∧ K < gI X 49) (ht : 0 ≤ t ∧ t ≤ 500) (hk : k ≤ 18) : PI (sA (em X 38 K t) 21 (upd (aI (em X 38 K t) 21) (gI X 18).toNatClampNeg b)) [] ((37, nT K) :: r, mn) (k + 1) j := by sorry
theorem PI.dfx {X : RS} {K : Int32} {r : List (Nat × Nat)} {mn : Nat} {k j : Int} (h : PI X [] ((37, nT K) :: r, mn) k j) (t : Int32) (hK : 0 ≤ K ∧ K < gI X 49) (ht : 0 ≤ t ∧ t ≤ 500) (hk : k ≤ 18) : PI (em X 39 K t) [] ((37, nT K) :: r, mn) (k + 1) j := by sorry
theorem FF8 {σ : RS} (hop : 0 < gI σ 62) (hxs : (aI σ 63 (nT (gI σ 62 - 1))) = 8) : FF σ = (37, nT (aI σ 64 (nT (gI σ 62 - 1)))) :: (20, nT (aI σ 65 (nT (gI σ 62 - 1)))) :: (Fs (aI σ 63) (aI σ 64) (aI σ 65) (nT (gI σ 62 - 1))) := by sorry
def lbA (X : RS) (K b t : Int32) : RS := sI (sA (em X 38 K t) 21 (upd (aI (em X 38 K t) 21) (gI X 18).toNatClampNeg b)) 14 (gI X 14 + 1)
def lbB (X : RS) (K t : Int32) : RS := sI (em X 39 K t) 14 (gI X 14 + 1)
theorem FF_lbA {X : RS} {K b t : Int32} : FF (lbA X K b t) = FF X := by sorry
theorem FF_lbB {X : RS} {K t : Int32} : FF (lbB X K t) = FF X := by sorry
theorem PI.lba {σ τ : RS} {mn : Nat} {k j : Int} (h : PI σ [] (FF σ, mn) k j) (hk : k ≤ 12) (hj : 1 ≤ j) (hop : 0 < gI σ 62) (hxs : (aI σ 63 (nT (gI σ 62 - 1))) = 8) (hp : gI σ 14 < 500) (hx : XE (sI σ 14 (gI σ 14 + 1)) τ) (hq : gI τ 14 < 500) (b t : Int32) (ht : 0 ≤ t ∧ t ≤ 500) : PI (lbA τ (aI σ 64 (nT (gI σ 62 - 1))) b t) [] (FF (lbA τ (aI σ 64 (nT (gI σ 62 - 1))) b t), mn) k j := by sorry
theorem PI.lbb {σ : RS} {mn : Nat} {k j : Int} (h : PI σ [] (FF σ, mn) k j) (hk : k ≤ 12) (hj : 1 ≤ j) (hop : 0 < gI σ 62) (hxs : (aI σ 63 (nT (gI σ 62 - 1))) = 8) (hp : gI σ 14 < 500) (hq : gI σ 14 + 1 < 500) (t : Int32) (ht : 0 ≤ t ∧ t ≤ 500) : PI (lbB (sI σ 14 (gI σ 14 + 1)) (aI σ 64 (nT (gI σ 62 - 1))) t) [] (FF (lbB (sI σ 14 (gI σ 14 + 1)) (aI σ 64 (nT (gI σ 62 - 1))) t), mn) k j := by sorry
theorem mem_Fs {s t p : Nat → Int32} {i : Nat} (n : Nat) (hi : i < n) {q : Nat × Nat} (hq : q ∈ fit (s i) (t i) (p i)) : q ∈ Fs s t p n := by sorry
/-- what a jump may lead to -/
def jq (σ : RS) (on r : Int32) : Prop := r = -2 ∨ ((0 ≤ r ∧ r < gI σ 49) ∧ ∃ q ∈ FF σ, q.2 = nT r ∧ (jo 47 q.1 ∨ (on = 0 ∧ jo 46 q.1)))
theorem jq.of {σ τ : RS} {on r : Int32} (h : jq σ on r) (h1 : FF τ = FF σ) (h2 : gI τ 49 = gI σ 49) : jq τ on r := by sorry
theorem PI.jf {σ : RS} {E : List Nat} {s : SS} {k j : Int} (h : PI σ E s k j) {on f : Int32} (h0 : 0 ≤ f) (h1 : f < gI σ 62) (hs : aI σ 63 f.toNatClampNeg = 4 ∨ aI σ 63 f.toNatClampNeg = 5 ∨ aI σ 63 f.toNatClampNeg = 6) : jq σ on (aI σ 64 f.toNatClampNeg) := by sorry
theorem PI.jf7 {σ : RS} {E : List Nat} {s : SS} {k j : Int} (h : PI σ E s k j) {on f : Int32} (h0 : 0 ≤ f) (h1 : f < gI σ 62) (hs : aI σ 63 f.toNatClampNeg = 7 ∨ aI σ 63 f.toNatClampNeg = 8) (hon : on = 0) : jq σ on (aI σ 64 f.toNatClampNeg) := by sorry
def cW (σ : RS) (f : Nat → Int32) : RS := sA (em (sI (sA σ 48 f) 14 (gI σ 14 + 1)) 40 (aI σ 64 (nT (gI σ 62 - 1))) (aI σ 60 (nT (aI σ 64 (nT (gI σ 62 - 1)))))) 55 (upd (aI σ 55) (nT (aI σ 64 (nT (gI σ 62 - 1)))) (gI σ 18))
theorem PI.cw {σ : RS} {f : Nat → Int32} {mn : Nat} {k j : Int} (h : PI σ [] (FF σ, mn) k j) (hk : k ≤ 12) (hj : 1 ≤ j) (hop : 0 < gI σ 62) (hxs : (aI σ 63 (nT (gI σ 62 - 1))) = 8) (hp : gI σ 14 < 500) : PI (cW σ f) [] ((20, nT (aI σ 65 (nT (gI σ 62 - 1)))) :: Fs (aI (cW σ f) 63) (aI (cW σ f) 64) (aI (cW σ f) 65) (nT (gI (cW σ f) 62 - 1)), mn) k j := by sorry
theorem MF.cw {σ : RS} {f : Nat → Int32} (h : MF σ) : MF (cW σ f) := MF.of h rfl rfl rfl
theorem mlt4 {x : Int32} {n : Nat} (hn : (4000 - x.toInt).toNat = n) (h0 : 0 ≤ x) (h : x < 4000) : (4000 - (x + 1).toInt).toNat < n := by sorry
def P_label : RP := fun As σ => match As with
  | [] => ∃ mn k j, PI σ [] (FF σ, mn) k j ∧ k ≤ 12 ∧ 1 ≤ j ∧ MF σ ∧ 0 < (gI σ 62) ∧ aI σ 63 (gI σ 62 - 1).toNatClampNeg = 8
  | _ => False
def Q_label : RQ := fun As σ w τ => match As with
  | [] => ∃ r : Int32, w = some (.int r) ∧ ((r = 0 ∧ Fp σ τ) ∨ (r = 1 ∧ Fp σ τ ∧ (∀ mn k j, PI σ [] (FF σ, mn) k j → k ≤ 12 → 1 ≤ j → PI τ [] (FF τ, mn) k j) ∧ MF τ ∧ (gI σ 14) < (gI τ 14)))
  | _ => False
set_option maxRecDepth 100000 in
set_option maxHeartbeats 4000000 in
theorem b_label : Bod Blabel [(20, P_emit, Q_emit), (27, P_expression, Q_expression), (15, P_isWord, Q_isWord), (17, P_take, Q_take), (18, P_want, Q_want)] P_label Q_label := by sorry
theorem m_label (l : Launch) : RMet l 7 59 P_label Q_label := by sorry
set_option maxRecDepth 100000 in
theorem e_label (l : Launch) : RMetE l 7 59 P_label Q_label := by sorry
def P_grouped : RP := fun As σ => match As with
  | [] => (∃ E s k j, PI σ E s k j) ∧ 0 < (gI σ 62)
  | _ => False
def Q_grouped : RQ := fun As σ w τ => match As with
  | [] => ∃ r : Int32, w = some (.int r) ∧ (r = 0 ∨ r = 1) ∧ τ = σ
  | _ => False
set_option maxRecDepth 100000 in
set_option maxHeartbeats 4000000 in
theorem b_grouped : Bod Bgrouped [] P_grouped Q_grouped := by sorry
theorem m_grouped (l : Launch) : RMet l 1 45 P_grouped Q_grouped := by sorry
set_option maxRecDepth 100000 in
theorem e_grouped (l : Launch) : RMetE l 1 45 P_grouped Q_grouped := by sorry
def P_closeSwitch : RP := fun As σ => match As with
  | [] => ∃ mn k j, PI σ [] (FF σ, mn) k j ∧ k ≤ 12 ∧ 1 ≤ j ∧ MF σ ∧ 0 < (gI σ 62) ∧ aI σ 63 (gI σ 62 - 1).toNatClampNeg = 8
  | _ => False
def Q_closeSwitch : RQ := fun As σ w τ => match As with
  | [] => ∃ r : Int32, w = some (.int r) ∧ ((r = 0 ∧ Fp σ τ) ∨ (r = 1 ∧ Fp σ τ ∧ (∀ mn k j, PI σ [] (FF σ, mn) k j → k ≤ 12 → 1 ≤ j → PI τ [] (FF τ, mn) k j) ∧ MF τ ∧ (gI σ 14) < (gI τ 14)))
  | _ => False
set_option maxRecDepth 100000 in
set_option maxHeartbeats 4000000 in
theorem b_closeSwitch : Bod BcloseSwitch [(61, P_closed, Q_closed), (20, P_emit, Q_emit), (42, P_leave, Q_leave), (17, P_take, Q_take)] P_closeSwitch Q_closeSwitch := by sorry
theorem m_closeSwitch (l : Launch) : RMet l 10 60 P_closeSwitch Q_closeSwitch := by sorry
set_option maxRecDepth 100000 in
theorem e_closeSwitch (l : Launch) : RMetE l 10 60 P_closeSwitch Q_closeSwitch := by sorry
def P_named2 : RP := fun As σ => match As with
  | [.int t, .int on] => (∃ E s k j, PI σ E s k j) ∧ (0 ≤ t ∧ t ≤ 2000)
  | _ => False
def Q_named2 : RQ := fun As σ w τ => match As with
  | [.int t, .int on] => ∃ r : Int32, w = some (.int r) ∧ jq σ on r ∧ τ = σ
  | _ => False
set_option maxRecDepth 100000 in
set_option maxHeartbeats 4000000 in
theorem b_named2 : Bod Bnamed_ [(63, P_sameName, Q_sameName)] P_named2 Q_named2 := by sorry
theorem m_named2 (l : Launch) : RMet l 2 64 P_named2 Q_named2 := by sorry
set_option maxRecDepth 100000 in
theorem e_named2 (l : Launch) : RMetE l 2 64 P_named2 Q_named2 := by sorry
theorem jq.r {σ : RS} {on r : Int32} (h : jq σ on r) : r = -2 ∨ (0 ≤ r ∧ r < gI σ 49) := h.imp id (fun z => z.1)
theorem jq.m0 {σ : RS} {r : Int32} (h : jq σ 0 r) : r = -2 ∨ ∃ q ∈ FF σ, q.2 = nT r ∧ jo (nT 46) q.1 := by sorry
theorem jq.m1 {σ : RS} {on r : Int32} (hon : ¬ on = 0) (h : jq σ on r) : r = -2 ∨ ∃ q ∈ FF σ, q.2 = nT r ∧ jo (nT 47) q.1 := by sorry
def P_jump : RP := fun As σ => match As with
  | [] => ∃ mn k j, PI σ [] (FF σ, mn) k j ∧ k ≤ 12 ∧ 1 ≤ j ∧ MF σ
  | _ => False
def Q_jump : RQ := fun As σ w τ => match As with
  | [] => ∃ r : Int32, w = some (.int r) ∧ ((r = 0 ∧ Fp σ τ) ∨ (r = 1 ∧ Fp σ τ ∧ (∀ mn k j, PI σ [] (FF σ, mn) k j → k ≤ 12 → 1 ≤ j → PI τ [] (FF τ, mn) k j) ∧ MF τ ∧ (gI σ 14) < (gI τ 14)))
  | _ => False
set_option maxRecDepth 100000 in
set_option maxHeartbeats 4000000 in
theorem b_jump : Bod Bjump [(20, P_emit, Q_emit), (69, P_finished, Q_finished), (15, P_isWord, Q_isWord), (64, P_named2, Q_named2), (17, P_take, Q_take), (18, P_want, Q_want)] P_jump Q_jump := by sorry
theorem m_jump (l : Launch) : RMet l 9 62 P_jump Q_jump := by sorry
set_option maxRecDepth 100000 in
theorem e_jump (l : Launch) : RMetE l 9 62 P_jump Q_jump := by sorry
theorem PI.s61x {σ σ' : RS} {E : List Nat} {s : SS} {k j : Int} (h : PI σ E s k j) (K v : Int32) (hv : 0 ≤ v ∧ v < 60) (f14 : gI σ' 14 = gI σ 14 := by rfl) (f17 : gI σ' 17 = gI σ 17 := by rfl) (f32 : gI σ' 32 = gI σ 32 := by rfl) (f49 : gI σ' 49 = gI σ 49 := by rfl) (f62 : gI σ' 62 = gI σ 62 := by rfl) (f42 : gI σ' 42 = gI σ 42 := by rfl) (f36 : gI σ' 36 = gI σ 36 := by rfl) (f63 : aI σ' 63 = aI σ 63 := by rfl) (f64 : aI σ' 64 = aI σ 64 := by rfl) (f65 : aI σ' 65 = aI σ 65 := by rfl) (f43 : aI σ' 43 = aI σ 43 := by rfl) (f37 : aI σ' 37 = aI σ 37 := by rfl) (f39 : aI σ' 39 = aI σ 39 := by rfl) (f40 : aI σ' 40 = aI σ 40 := by rfl) (f41 : aI σ' 41 = aI σ 41 := by rfl) (e18 : gI σ' 18 = gI σ 18 := by rfl) (e19 : aI σ' 19 = aI σ 19 := by rfl) (e20 : aI σ' 20 = aI σ 20 := by rfl) (e21 : aI σ' 21 = aI σ 21 := by rfl) (e22 : aI σ' 22 = aI σ 22 := by rfl) (e23 : aI σ' 23 = aI σ 23 := by rfl) (e24 : aI σ' 24 = aI σ 24 := by rfl) (f50 : aI σ' 50 = aI σ 50 := by rfl) (f51 : aI σ' 51 = aI σ 51 := by rfl) (f52 : aI σ' 52 = aI σ 52 := by rfl) (f53 : aI σ' 53 = aI σ 53 := by rfl) (f54 : aI σ' 54 = aI σ 54 := by rfl) (f55 : aI σ' 55 = aI σ 55 := by rfl) (f56 : aI σ' 56 = aI σ 56 := by rfl) (f57 : aI σ' 57 = aI σ 57 := by rfl) (f58 : aI σ' 58 = aI σ 58 := by rfl) (f59 : aI σ' 59 = aI σ 59 := by rfl) (f60 : aI σ' 60 = aI σ 60 := by rfl) (f3 : aI σ' 3 = aI σ 3 := by rfl) (f6 : aI σ' 6 = aI σ 6 := by rfl) (g61 : aI σ' 61 = upd (aI σ 61) (nT K) v := by rfl) (hgz : GZ σ → GZ σ' := by exact fun h => h) : PI σ' E s k j := by sorry
theorem PI.s61 {σ : RS} {E : List Nat} {s : SS} {k j : Int} (h : PI σ E s k j) (K v : Int32) (hv : 0 ≤ v ∧ v < 60) : PI (sA σ 61 (upd (aI σ 61) (nT K) v)) E s k j := h.s61x (σ' := sA σ 61 (upd (aI σ 61) (nT K) v)) K v hv
theorem sA_cm {σ : RS} {k l : Nat} {f g : Nat → Int32} (hkl : k ≠ l) : sA (sA σ k f) l g = sA (sA σ l g) k f := by sorry
theorem sA_sIc {σ : RS} {k l : Nat} {v : Int32} {g : Nat → Int32} : sA (sI σ k v) l g = sI (sA σ l g) k v := rfl
theorem em_sA {σ : RS} {o a t : Int32} {g : Nat → Int32} : sA (em σ o a t) 61 g = em (sA σ 61 g) o a t := by sorry
def ctA (X : RS) (K : Int32) : RS := sA (sI (sI (sA (em X 51 K (gI X 14)) 57 (upd (aI X 57) (nT K) (gI X 18))) 14 (gI X 14 + 1)) 14 (gI X 14 + 1 + 1)) 61 (upd (aI X 61) (nT K) (gI X 42))
theorem ctA_eq {X : RS} {K : Int32} : ctA X K = sI (sI (sA (em (sA X 61 (upd (aI X 61) (nT K) (gI X 42))) 51 K (gI X 14)) 57 (upd (aI X 57) (nT K) (gI X 18))) 14 (gI X 14 + 1)) 14 (gI X 14 + 1 + 1) := by sorry
theorem PI.ct {X : RS} {K : Int32} {r : List (Nat × Nat)} {mn : Nat} {k j : Int} (h : PI X [] ((50, nT K) :: r, mn) k j) (hk : k ≤ 12) (hK : 0 ≤ K ∧ K < gI X 49) (hp : gI X 14 < 500) (hp1 : gI X 14 + 1 < 500) (hp2 : gI X 14 + 1 + 1 < 500) (hv : gI X 42 < 60) (ty fx m q : Int32) (hty : 0 ≤ ty ∧ ty ≤ 4) : PI (va (ctA X K) ty fx m q) [] ((51, nT K) :: r, mn) (k - 16) (j + 2) := by sorry
theorem FF_ct {X : RS} {K ty fx m q : Int32} : FF (va (ctA X K) ty fx m q) = FF X := by sorry
def pS (σ : RS) : RS := sI (sI σ 62 (gI σ 62 - 1)) 17 (gI σ 17 - 1)
theorem FF_pS {σ : RS} : FF (pS σ) = (Fs (aI σ 63) (aI σ 64) (aI σ 65) (nT (gI σ 62 - 1))) := rfl
def tq (so : Int32) : Nat := if so = 9 then 50 else if so = 10 then 51 else 52
theorem tq9 : tq 9 = 50 := rfl
theorem tq10 : tq 10 = 51 := rfl
theorem tq11 : tq 11 = 52 := rfl
theorem PI.ps {σ : RS} {so K p : Int32} {mn : Nat} {k j : Int} (h : PI σ [] (FF σ, mn) k j) (hop : 0 < gI σ 62) (hxs : (aI σ 63 (nT (gI σ 62 - 1))) = so) (h9 : so = 9 ∨ so = 10 ∨ so = 11) (hK : (aI σ 64 (nT (gI σ 62 - 1))) = K) (hp : (aI σ 65 (nT (gI σ 62 - 1))) = p) : PI (pS σ) [] ((tq so, nT K) :: (20, nT p) :: FF (pS σ), mn) (k - 2) j := by sorry
theorem PI.fnx {X : RS} {K t : Int32} {so : Int32} {r : List (Nat × Nat)} {mn : Nat} {k j : Int} (h : PI X [] ((tq so, nT K) :: r, mn) k j) (h9 : so = 9 ∨ so = 10) (hk : k ≤ 18) (hK : 0 ≤ K ∧ K < gI X 49) (ht : 0 ≤ t ∧ t ≤ 500) : PI (sA (em X 52 K t) 58 (upd (aI X 58) (nT K) (gI X 18))) [] ((52, nT K) :: r, mn) (k + 1) j := by sorry
theorem PI.trx {X : RS} {K t : Int32} {so : Int32} {r : List (Nat × Nat)} {mn : Nat} {k j : Int} (h : PI X [] ((tq so, nT K) :: r, mn) k j) (h9 : so = 10 ∨ so = 11) (hk : k ≤ 18) (hK : 0 ≤ K ∧ K < gI X 49) (ht : 0 ≤ t ∧ t ≤ 500) : PI (sA (em X 53 K t) 55 (upd (aI X 55) (nT K) (gI X 18))) [] (r, mn) (k + 1) j := by sorry
def tX (X : RS) (K p t : Int32) : RS := em (sA (em X 53 K t) 55 (upd (aI X 55) (nT K) (gI X 18))) 45 p (upd (aI X 22) (nT (gI X 18)) t (nT p))
theorem PI.tx {X : RS} {K p t : Int32} {so : Int32} {mn : Nat} {k j : Int} (h : PI X [] ((tq so, nT K) :: (20, nT p) :: FF X, mn) k j) (h9 : so = 10 ∨ so = 11) (hk : k ≤ 16) (hK : 0 ≤ K ∧ K < gI X 49) (ht : 0 ≤ t ∧ t ≤ 500) : PI (tX X K p t) [] (FF (tX X K p t), mn) (k + 2) j := by sorry
def cX (X : RS) (K p ty fx m q a b : Int32) : RS := fo (sI (sI (va (ctA X K) ty fx m q) 14 a) 14 b) 10 K p
theorem PI.cx {X : RS} {K p : Int32} {mn : Nat} {k j : Int} (h : PI X [] ((50, nT K) :: (20, nT p) :: FF X, mn) k j) (hk : k ≤ 12) (hK : 0 ≤ K ∧ K < gI X 49) (hpp : 0 ≤ p ∧ p < gI X 18) (hp : gI X 14 < 500) (hp1 : gI X 14 + 1 < 500) (hp2 : gI X 14 + 1 + 1 < 500) (hp3 : gI X 14 + 1 + 1 + 1 < 500) (hp4 : gI X 14 + 1 + 1 + 1 + 1 < 500) (hd : gI X 17 < 20) (hv : gI X 42 < 60) (ty fx m q : Int32) (hty : 0 ≤ ty ∧ ty ≤ 4) : PI (cX X K p ty fx m q (gI X 14 + 1 + 1 + 1 + 1) (gI X 14 + 1 + 1 + 1 + 1 + 1)) [] (FF (cX X K p ty fx m q (gI X 14 + 1 + 1 + 1 + 1) (gI X 14 + 1 + 1 + 1 + 1 + 1)), mn) k j := by sorry
def fX2 (X : RS) (K p a b : Int32) : RS := fo (sI (sI (sA (em X 52 K (gI X 14)) 58 (upd (aI X 58) (nT K) (gI X 18))) 14 a) 14 b) 11 K p
theorem PI.fx2x {X : RS} {K p so : Int32} {mn : Nat} {k j : Int} (h : PI X [] ((tq so, nT K) :: (20, nT p) :: FF X, mn) k j) (h9 : so = 9 ∨ so = 10) (hk : k ≤ 12) (hK : 0 ≤ K ∧ K < gI X 49) (hpp : 0 ≤ p ∧ p < gI X 18) (hp : gI X 14 < 500) (hp1 : gI X 14 + 1 < 500) (hd : gI X 17 < 20) : PI (fX2 X K p (gI X 14 + 1) (gI X 14 + 1 + 1)) [] (FF (fX2 X K p (gI X 14 + 1) (gI X 14 + 1 + 1)), mn) k j := by sorry
def mE (σ : RS) (f : Nat → Int32) : RS := sI (sI (em (sI (sA σ 48 f) 14 (gI σ 14 + 1)) 54 (gI σ 36 - 1) (aI σ 37 (nT (gI σ 36 - 1)))) 62 (gI σ 62 - 1)) 17 (gI σ 17 - 1)
theorem PI.mend {σ : RS} {f : Nat → Int32} {mn : Nat} {k j : Int} (h : PI σ [] (FF σ, mn) k j) (hk : k ≤ 12) (hj : 1 ≤ j) (hM : MF σ) (hmn : mn < 10) (hop : 0 < gI σ 62) (hxs : (aI σ 63 (nT (gI σ 62 - 1))) = 0) (hp : gI σ 14 < 500) : PI (mE σ f) [] (FF (mE σ f), mn + 1) k j ∧ gI (mE σ f) 62 = 0 := by sorry
def bL (σ : RS) (f : Nat → Int32) : RS := sI (sA σ 48 f) 14 (gI σ 14 + 1)
theorem FF_bL {σ : RS} {f : Nat → Int32} : FF (bL σ f) = FF σ := FF_of rfl rfl rfl rfl
theorem PI.bl {σ : RS} {f : Nat → Int32} {mn : Nat} {k j : Int} (h : PI σ [] (FF σ, mn) k j) (hk : k ≤ 12) (hj : 1 ≤ j) (hp : gI σ 14 < 500) : PI (bL σ f) [] (FF (bL σ f), mn) k j := by sorry
theorem PI.blk {σ : RS} {f : Nat → Int32} {mn : Nat} {k j : Int} (h : PI σ [] (FF σ, mn) k j) (hk : k ≤ 12) (hj : 1 ≤ j) (hop : 0 < gI σ 62) (hxs : (aI σ 63 (nT (gI σ 62 - 1))) = 1) (hp : gI σ 14 < 500) : PI (bL σ f) [] ((20, nT (aI σ 65 (nT (gI σ 62 - 1)))) :: Fs (aI (bL σ f) 63) (aI (bL σ f) 64) (aI (bL σ f) 65) (nT (gI (bL σ f) 62 - 1)), mn) k j := by sorry
def P_closeTry : RP := fun As σ => match As with
  | [.int so, .int K, .int p] => ∃ mn k j, PI σ [] (FF σ, mn) k j ∧ k ≤ 12 ∧ 1 ≤ j ∧ MF σ ∧ 0 < (gI σ 62) ∧ aI σ 63 (gI σ 62 - 1).toNatClampNeg = so ∧ aI σ 64 (gI σ 62 - 1).toNatClampNeg = K ∧ aI σ 65 (gI σ 62 - 1).toNatClampNeg = p ∧ (so = 9 ∨ so = 10 ∨ so = 11)
  | _ => False
def Q_closeTry : RQ := fun As σ w τ => match As with
  | [.int so, .int K, .int p] => ∃ r : Int32, w = some (.int r) ∧ ((r = 0 ∧ Fp σ τ) ∨ (r = 1 ∧ Fp σ τ ∧ (∀ mn k j, PI σ [] (FF σ, mn) k j → k ≤ 12 → 1 ≤ j → PI τ [] (FF τ, mn) k j) ∧ MF τ ∧ (gI σ 14) ≤ (gI τ 14)))
  | _ => False
set_option maxRecDepth 100000 in
set_option maxHeartbeats 4000000 in
theorem b_closeTry : Bod BcloseTry [(13, P_cant, Q_cant), (20, P_emit, Q_emit), (69, P_finished, Q_finished), (15, P_isWord, Q_isWord), (36, P_open, Q_open), (17, P_take, Q_take), (40, P_variable, Q_variable), (18, P_want, Q_want)] P_closeTry Q_closeTry := by sorry
theorem m_closeTry (l : Launch) : RMet l 9 68 P_closeTry Q_closeTry := by sorry
set_option maxRecDepth 100000 in
theorem e_closeTry (l : Launch) : RMetE l 9 68 P_closeTry Q_closeTry := by sorry
def P_closeRow : RP := fun As σ => match As with
  | [.int so] => ∃ mn k j, PI σ [] (FF σ, mn) k j ∧ k ≤ 12 ∧ 1 ≤ j ∧ MF σ ∧ mn < 10 ∧ 0 < (gI σ 62) ∧ aI σ 63 (gI σ 62 - 1).toNatClampNeg = so ∧ (so = 0 ∨ so = 1 ∨ 9 ≤ so)
  | _ => False
def Q_closeRow : RQ := fun As σ w τ => match As with
  | [.int so] => ∃ r : Int32, w = some (.int r) ∧ ((r = 0 ∧ Fp σ τ) ∨ (r = 1 ∧ Fp σ τ ∧ (∀ mn k j, PI σ [] (FF σ, mn) k j → k ≤ 12 → 1 ≤ j → mn < 10 → ∃ mn', ((mn' = mn ∧ 0 < gI τ 62) ∨ (mn' = mn + 1 ∧ gI τ 62 = 0)) ∧ PI τ [] (FF τ, mn') k j) ∧ (0 < gI τ 62 → MF τ) ∧ (gI σ 14) < (gI τ 14)))
  | _ => False
set_option maxRecDepth 100000 in
set_option maxHeartbeats 4000000 in
theorem b_closeRow : Bod BcloseRow [(68, P_closeTry, Q_closeTry), (61, P_closed, Q_closed), (20, P_emit, Q_emit), (42, P_leave, Q_leave), (17, P_take, Q_take)] P_closeRow Q_closeRow := by sorry
theorem m_closeRow (l : Launch) : RMet l 10 67 P_closeRow Q_closeRow := by sorry
set_option maxRecDepth 100000 in
theorem e_closeRow (l : Launch) : RMetE l 10 67 P_closeRow Q_closeRow := by sorry
theorem Fr.s14 {σ : RS} {v K : Int32} (h : Fr σ K) : Fr (sI σ 14 v) K := h
theorem s14b {σ : RS} {v : Int32} : aI (sI σ 14 v) 50 = aI σ 50 := rfl
theorem PI.fort {σ : RS} {E : List Nat} {K b t : Int32} {r : List (Nat × Nat)} {mn : Nat} {k j : Int} (h : PI σ E ((32, nT K) :: r, mn) k j) (hb : (b = 0 ∧ E = []) ∨ (b = 1 ∧ E = [0])) (hK : 0 ≤ K ∧ K < gI σ 49) (ht : 0 ≤ t ∧ t ≤ 500) (hk : k + 1 ≤ 20) : PI (sA (sA (em σ 33 K t) 21 (upd (aI (em σ 33 K t) 21) (gI σ 18).toNatClampNeg b)) 52 (upd (aI σ 52) (nT K) (gI σ 18))) [] ((33, nT K) :: r, mn) (k + 1) j := by sorry
def fU (X : RS) (K t b : Int32) : RS := sA (em (sI (sA (sA (em X 33 K t) 21 (upd (aI (em X 33 K t) 21) (gI X 18).toNatClampNeg b)) 52 (upd (aI X 52) (nT K) (gI X 18))) 14 (gI X 14 + 1)) 34 K t) 53 (upd (aI X 53) (nT K) (gI X 18 + 1))
theorem FF_fU {X : RS} {K t b : Int32} : FF (fU X K t b) = FF X := by sorry
theorem PI.fu {X : RS} {E : List Nat} {K b t : Int32} {r : List (Nat × Nat)} {mn : Nat} {k j : Int} (h : PI X E ((32, nT K) :: r, mn) k j) (hb : (b = 0 ∧ E = []) ∨ (b = 1 ∧ E = [0])) (hK : 0 ≤ K ∧ K < gI X 49) (ht : 0 ≤ t ∧ t ≤ 500) (hk : k ≤ 10) (hp : gI X 14 < 500) : PI (fU X K t b) [] ((34, nT K) :: r, mn) k j := by sorry
theorem MF.fu {X : RS} {K t b : Int32} (h : MF X) : MF (fU X K t b) := MF.of h rfl rfl rfl
theorem Fp.fu {σ X : RS} {K t b : Int32} (h : Fp σ X) : Fp σ (fU X K t b) := by sorry
def fC (X : RS) (K t : Int32) : RS := sA (em (sI X 14 (gI X 14 + 1)) 32 K t) 56 (upd (aI X 56) (nT K) (gI X 18))
theorem FF_fC {X : RS} {K t : Int32} : FF (fC X K t) = FF X := by sorry
theorem PI.fc {X : RS} {K t : Int32} {r : List (Nat × Nat)} {mn : Nat} {k j : Int} (h : PI X [] (r, mn) k j) (hF : Fr X K) (h50 : aI X 50 (nT K) = 6) (hK : 0 ≤ K ∧ K < gI X 49) (ht : 0 ≤ t ∧ t ≤ 500) (hk : k ≤ 10) (hp : gI X 14 < 500) (hnz : ¬ zh r := by first | exact Fs_nz | (intro z; simp [zh] at z; done)) : PI (fC X K t) [] ((32, nT K) :: r, mn) k j := by sorry
theorem MF.fc {X : RS} {K t : Int32} (h : MF X) : MF (fC X K t) := MF.of h rfl rfl rfl
theorem Fp.fc {σ X : RS} {K t : Int32} (h : Fp σ X) : Fp σ (fC X K t) := by sorry
def P_forOf : RP := fun As σ => match As with
  | [] => ∃ mn k j, PI σ [] (FF σ, mn) k j ∧ k ≤ 12 ∧ 1 ≤ j ∧ MF σ
  | _ => False
def Q_forOf : RQ := fun As σ w τ => match As with
  | [] => ∃ r : Int32, w = some (.int r) ∧ ((r = 0 ∧ Fp σ τ) ∨ (r = 1 ∧ Fp σ τ ∧ (∀ mn k j, PI σ [] (FF σ, mn) k j → k ≤ 12 → 1 ≤ j → PI τ [] (FF τ, mn) k j) ∧ MF τ ∧ (gI σ 14) < (gI τ 14)))
  | _ => False
set_option maxRecDepth 100000 in
set_option maxHeartbeats 4000000 in
theorem b_forOf : Bod BforOf [(48, P_declaration, Q_declaration), (20, P_emit, Q_emit), (27, P_expression, Q_expression), (56, P_exps, Q_exps), (14, P_isSign, Q_isSign), (46, P_isTold, Q_isTold), (36, P_open, Q_open), (17, P_take, Q_take), (35, P_thing, Q_thing), (18, P_want, Q_want)] P_forOf Q_forOf := by sorry
theorem m_forOf (l : Launch) : RMet l 8 57 P_forOf Q_forOf := by sorry
set_option maxRecDepth 100000 in
theorem e_forOf (l : Launch) : RMetE l 8 57 P_forOf Q_forOf := by sorry
def P_statement : RP := fun As σ => match As with
  | [] => ∃ mn k j, PI σ [] (FF σ, mn) k j ∧ k ≤ 12 ∧ 1 ≤ j ∧ MF σ
  | _ => False
def Q_statement : RQ := fun As σ w τ => match As with
  | [] => ∃ r : Int32, w = some (.int r) ∧ ((r = 0 ∧ Fp σ τ) ∨ (r = 1 ∧ Fp σ τ ∧ (∀ mn k j, PI σ [] (FF σ, mn) k j → k ≤ 12 → 1 ≤ j → PI τ [] (FF τ, mn) k j) ∧ MF τ ∧ (gI σ 14) < (gI τ 14)))
  | _ => False
set_option maxRecDepth 100000 in
set_option maxHeartbeats 4000000 in
theorem b_statement : Bod Bstatement [(55, P_doOf, Q_doOf), (20, P_emit, Q_emit), (57, P_forOf, Q_forOf), (65, P_gives, Q_gives), (53, P_ifOf, Q_ifOf), (14, P_isSign, Q_isSign), (16, P_isSignAt, Q_isSignAt), (62, P_jump, Q_jump), (36, P_open, Q_open), (50, P_plain, Q_plain), (58, P_switchOf, Q_switchOf), (17, P_take, Q_take), (35, P_thing, Q_thing), (66, P_tryOf, Q_tryOf), (54, P_whileOf, Q_whileOf)] P_statement Q_statement := by sorry
theorem m_statement (l : Launch) : RMet l 10 49 P_statement Q_statement := by sorry
set_option maxRecDepth 100000 in
theorem e_statement (l : Launch) : RMetE l 10 49 P_statement Q_statement := by sorry
def P_piece : RP := fun As σ => match As with
  | [] => ∃ mn k j, PI σ [] (FF σ, mn) k j ∧ k ≤ 12 ∧ 1 ≤ j ∧ MF σ ∧ mn < 10 ∧ 0 < (gI σ 62)
  | _ => False
def Q_piece : RQ := fun As σ w τ => match As with
  | [] => ∃ r : Int32, w = some (.int r) ∧ ((r = 0 ∧ Fp σ τ) ∨ (r = 1 ∧ Fp σ τ ∧ (∀ mn k j, PI σ [] (FF σ, mn) k j → k ≤ 12 → 1 ≤ j → mn < 10 → ∃ mn', ((mn' = mn ∧ 0 < gI τ 62) ∨ (mn' = mn + 1 ∧ gI τ 62 = 0)) ∧ PI τ [] (FF τ, mn') k j) ∧ (0 < gI τ 62 → MF τ) ∧ (gI σ 14) < (gI τ 14)))
  | _ => False
set_option maxRecDepth 100000 in
set_option maxHeartbeats 4000000 in
theorem b_piece : Bod Bpiece [(13, P_cant, Q_cant), (67, P_closeRow, Q_closeRow), (60, P_closeSwitch, Q_closeSwitch), (45, P_grouped, Q_grouped), (43, P_isRow, Q_isRow), (14, P_isSign, Q_isSign), (46, P_isTold, Q_isTold), (15, P_isWord, Q_isWord), (59, P_label, Q_label), (49, P_statement, Q_statement), (47, P_told, Q_told)] P_piece Q_piece := by sorry
theorem m_piece (l : Launch) : RMet l 11 44 P_piece Q_piece := by sorry
set_option maxRecDepth 100000 in
theorem e_piece (l : Launch) : RMetE l 11 44 P_piece Q_piece := by sorry
theorem PI.mm {σ σ' : RS} {E : List Nat} {s : SS} {k j : Int} (h : PI σ E s k j) (k' j' : Int) (hp : (gI σ 14).toInt ≤ (gI σ' 14).toInt ∧ (gI σ' 14).toInt ≤ 500) (hk : k' ≤ 20 ∧ k ≤ k' + 6 * ((gI σ' 14).toInt - (gI σ 14).toInt)) (hj : 0 ≤ j' ∧ j' ≤ j + ((gI σ' 14).toInt - (gI σ 14).toInt)) (hl : lk (gI σ' 32)) (f17 : gI σ' 17 = gI σ 17 := by rfl) (f49 : gI σ' 49 = gI σ 49 := by rfl) (f62 : gI σ' 62 = gI σ 62 := by rfl) (f42 : gI σ' 42 = gI σ 42 := by rfl) (f36 : gI σ' 36 = gI σ 36 := by rfl) (f63 : aI σ' 63 = aI σ 63 := by rfl) (f64 : aI σ' 64 = aI σ 64 := by rfl) (f65 : aI σ' 65 = aI σ 65 := by rfl) (f43 : aI σ' 43 = aI σ 43 := by rfl) (f37 : ∀ i, i < nT (gI σ 36) → aI σ' 37 i = aI σ 37 i := by exact fun _ _ => rfl) (f39 : ∀ i, i < nT (gI σ 36) → aI σ' 39 i = aI σ 39 i := by exact fun _ _ => rfl) (f40 : ∀ i, i < nT (gI σ 36) → aI σ' 40 i = aI σ 40 i := by exact fun _ _ => rfl) (f41 : ∀ i, i < nT (gI σ 36) → aI σ' 41 i = aI σ 41 i := by exact fun _ _ => rfl) (e18 : gI σ' 18 = gI σ 18 := by rfl) (e19 : aI σ' 19 = aI σ 19 := by rfl) (e20 : aI σ' 20 = aI σ 20 := by rfl) (e21 : aI σ' 21 = aI σ 21 := by rfl) (e22 : aI σ' 22 = aI σ 22 := by rfl) (e23 : aI σ' 23 = aI σ 23 := by rfl) (e24 : aI σ' 24 = aI σ 24 := by rfl) (f50 : aI σ' 50 = aI σ 50 := by rfl) (f51 : aI σ' 51 = aI σ 51 := by rfl) (f52 : aI σ' 52 = aI σ 52 := by rfl) (f53 : aI σ' 53 = aI σ 53 := by rfl) (f54 : aI σ' 54 = aI σ 54 := by rfl) (f55 : aI σ' 55 = aI σ 55 := by rfl) (f56 : aI σ' 56 = aI σ 56 := by rfl) (f57 : aI σ' 57 = aI σ 57 := by rfl) (f58 : aI σ' 58 = aI σ 58 := by rfl) (f59 : aI σ' 59 = aI σ 59 := by rfl) (f60 : aI σ' 60 = aI σ 60 := by rfl) (f61 : aI σ' 61 = aI σ 61 := by rfl) (f3 : aI σ' 3 = aI σ 3 := by rfl) (f6 : aI σ' 6 = aI σ 6 := by rfl) (hgz : GZ σ → GZ σ' := by exact fun h => h) : PI σ' E s k' j' := by sorry
def qI (k : Nat) : Bool := pI k || k == 36
def Fq (σ τ : RS) : Prop := (∀ k, qI k = false → gI τ k = gI σ k) ∧ (∀ k, gL τ k = gL σ k) ∧ (∀ k, pA k = false → aI τ k = aI σ k) ∧ (∀ k, aL τ k = aL σ k) ∧ (GZ σ → GZ τ)
theorem Fq.rf {σ : RS} : Fq σ σ := by sorry
theorem Fq.tr {σ τ υ : RS} (h1 : Fq σ τ) (h2 : Fq τ υ) : Fq σ υ := by sorry
theorem Fp.q {σ τ : RS} (h : Fp σ τ) : Fq σ τ := by sorry
theorem Fq.i {σ τ : RS} (h : Fq σ τ) {k : Nat} {v : Int32} (hk : qI k = true) : Fq σ (sI τ k v) := by sorry
theorem Fq.a {σ τ : RS} (h : Fq σ τ) {k : Nat} {f : Nat → Int32} (hk : pB k = true) : Fq σ (sA τ k f) := by sorry
theorem Fq.y {σ τ : RS} (h : Fq σ τ) {f : Nat → Int32} {i : Nat} {v : Int32} (hf : f = upd (aI τ 38) i v) (hv : GZ σ → 0 ≤ v) : Fq σ (sA τ 38 f) := by sorry
/-- the method that is being told -/
def MM (σ : RS) : Prop := gI σ 36 < 10 ∧ (0 ≤ aI σ 37 (nT (gI σ 36)) ∧ aI σ 37 (nT (gI σ 36)) ≤ 500) ∧ (0 ≤ aI σ 39 (nT (gI σ 36)) ∧ aI σ 39 (nT (gI σ 36)) ≤ 6) ∧ 0 ≤ aI σ 40 (nT (gI σ 36)) ∧ aI σ 40 (nT (gI σ 36)) + aI σ 39 (nT (gI σ 36)) ≤ gI σ 42 ∧ aI σ 40 (nT (gI σ 36)) ≤ gI σ 42
theorem MM.of {σ τ : RS} (h : MM σ) (h36 : gI τ 36 = gI σ 36) (h37 : aI τ 37 = aI σ 37) (h39 : aI τ 39 = aI σ 39) (h40 : aI τ 40 = aI σ 40) (h42 : gI τ 42 = gI σ 42) : MM τ := by sorry
def pq (X : RS) : RS := sA (sI X 14 (gI X 14 + 1)) 39 (upd (aI X 39) (nT (gI X 36)) (aI X 39 (nT (gI X 36)) + 1))
theorem PI.parq {X : RS} {s : SS} {k j : Int} (h : PI X [] s k j) (hp : gI X 14 < 500) : PI (pq X) [] s (k - 6) (j + 1) := by sorry
def pz (X : RS) (ty fx m q : Int32) : RS := va (pq X) ty fx m q
theorem PI.parm {X : RS} {s : SS} {k j : Int} (h : PI X [] s k j) (hp : gI X 14 < 500) (hp1 : gI X 14 + 1 < 500) (hv : gI X 42 < 60) (ty fx m q : Int32) (hty : 0 ≤ ty ∧ ty ≤ 4) : PI (pz X ty fx m q) [] s k j := by sorry
theorem MM.parm {X : RS} (h : MM X) (h6 : ¬ aI X 39 (nT (gI X 36)) = 6) (hv : gI X 42 < 60) (hv0 : 0 ≤ gI X 42) (ty fx m q : Int32) : MM (pz X ty fx m q) := by sorry
def P_param : RP := fun As σ => match As with
  | [.int m, .int q] => (∃ s k j, PI σ [] s k j) ∧ m = (gI σ 36) ∧ MM σ
  | _ => False
def Q_param : RQ := fun As σ w τ => match As with
  | [.int m, .int q] => ∃ r : Int32, w = some (.int r) ∧ ((r = 0 ∧ Fp σ τ) ∨ (r = 1 ∧ Fp σ τ ∧ (∀ s k j, PI σ [] s k j → PI τ [] s k j) ∧ MM τ ∧ (gI τ 62) = (gI σ 62) ∧ (gI τ 49) = (gI σ 49) ∧ (gI σ 14) < (gI τ 14)))
  | _ => False
set_option maxRecDepth 100000 in
set_option maxHeartbeats 4000000 in
theorem b_param : Bod Bparam [(13, P_cant, Q_cant), (23, P_isType, Q_isType), (15, P_isWord, Q_isWord), (17, P_take, Q_take), (40, P_variable, Q_variable), (12, P_wrong, Q_wrong)] P_param Q_param := by sorry
theorem m_param (l : Launch) : RMet l 4 39 P_param Q_param := by sorry
set_option maxRecDepth 100000 in
theorem e_param (l : Launch) : RMetE l 4 39 P_param Q_param := by sorry
theorem PI.mthx {σ σ' : RS} {mn : Nat} {k j : Int} (h : PI σ [] ([], mn) k j) (hM0 : MM σ) (hmn : mn = nT (gI σ 36)) (f14 : gI σ' 14 = gI σ 14 := by rfl) (f17 : gI σ' 17 = gI σ 17 := by rfl) (f32 : gI σ' 32 = gI σ 32 := by rfl) (f49 : gI σ' 49 = gI σ 49 := by rfl) (f62 : gI σ' 62 = gI σ 62 := by rfl) (f42 : gI σ' 42 = gI σ 42 := by rfl) (e36 : gI σ' 36 = gI σ 36 + 1 := by rfl) (e41 : aI σ' 41 = upd (aI σ 41) (nT (gI σ 36)) (gI σ 18) := by rfl) (f63 : aI σ' 63 = aI σ 63 := by rfl) (f64 : aI σ' 64 = aI σ 64 := by rfl) (f65 : aI σ' 65 = aI σ 65 := by rfl) (f43 : aI σ' 43 = aI σ 43 := by rfl) (f37 : aI σ' 37 = aI σ 37 := by rfl) (f39 : aI σ' 39 = aI σ 39 := by rfl) (f40 : aI σ' 40 = aI σ 40 := by rfl) (e18 : gI σ' 18 = gI σ 18 := by rfl) (e19 : aI σ' 19 = aI σ 19 := by rfl) (e20 : aI σ' 20 = aI σ 20 := by rfl) (e21 : aI σ' 21 = aI σ 21 := by rfl) (e22 : aI σ' 22 = aI σ 22 := by rfl) (e23 : aI σ' 23 = aI σ 23 := by rfl) (e24 : aI σ' 24 = aI σ 24 := by rfl) (f50 : aI σ' 50 = aI σ 50 := by rfl) (f51 : aI σ' 51 = aI σ 51 := by rfl) (f52 : aI σ' 52 = aI σ 52 := by rfl) (f53 : aI σ' 53 = aI σ 53 := by rfl) (f54 : aI σ' 54 = aI σ 54 := by rfl) (f55 : aI σ' 55 = aI σ 55 := by rfl) (f56 : aI σ' 56 = aI σ 56 := by rfl) (f57 : aI σ' 57 = aI σ 57 := by rfl) (f58 : aI σ' 58 = aI σ 58 := by rfl) (f59 : aI σ' 59 = aI σ 59 := by rfl) (f60 : aI σ' 60 = aI σ 60 := by rfl) (f61 : aI σ' 61 = aI σ 61 := by rfl) (f3 : aI σ' 3 = aI σ 3 := by rfl) (f6 : aI σ' 6 = aI σ 6 := by rfl) (hgz : GZ σ → GZ σ' := by exact fun h => h) : PI σ' [] ([], mn) k j := by sorry
def mS (X : RS) : RS := sI (sA X 41 (upd (aI X 41) (nT (gI X 36)) (gI X 18))) 36 (gI X 36 + 1)
theorem PI.mth {X : RS} {mn : Nat} {k j : Int} (h : PI X [] ([], mn) k j) (hM0 : MM X) (hmn : mn = nT (gI X 36)) : PI (mS X) [] ([], mn) k j := by sorry
theorem FF_0 {X : RS} (h : gI X 62 = 0) : FF X = [] := by sorry
def mH (σ : RS) (ty : Int32) : RS := sI (sA (sA (sA (sA (sI σ 14 (gI σ 14 + 1)) 37 (upd (aI σ 37) (nT (gI σ 36)) (gI σ 14 + 1))) 38 (upd (aI σ 38) (nT (gI σ 36)) ty)) 39 (upd (aI σ 39) (nT (gI σ 36)) 0)) 40 (upd (aI σ 40) (nT (gI σ 36)) (gI σ 42))) 62 0
theorem PI.mh {σ : RS} {ty : Int32} {s : SS} {k j : Int} (h : PI (sI σ 62 0) [] s k j) (hp : gI σ 14 < 500) (hty : 0 ≤ ty) : PI (mH σ ty) [] s (k - 6) (j + 1) := by sorry
theorem MM.mh {σ : RS} {ty : Int32} (h36 : gI σ 36 < 10) (hp : 0 ≤ gI σ 14 ∧ gI σ 14 < 500) (hv : 0 ≤ gI σ 42 ∧ gI σ 42 ≤ 60) : MM (mH σ ty) := by sorry
theorem MM.ti {σ : RS} {s t : Int32} (h : MM σ) : MM (th σ s t) := MM.of h rfl rfl rfl rfl rfl
theorem MM.s1 {σ : RS} {v : Int32} (h : MM σ) : MM (sI σ 14 v) := MM.of h rfl rfl rfl rfl rfl
def mI (σ : RS) (ty : Int32) : RS := sI (sI (th (mH σ ty) 0 (gI σ 14 + 1)) 14 (gI σ 14 + 1 + 1)) 14 (gI σ 14 + 1 + 1 + 1)
theorem PI.mi {σ : RS} {ty : Int32} {s : SS} {k j : Int} (h : PI (sI σ 62 0) [] s k j) (hk : k ≤ 12) (hj : 1 ≤ j) (hp : gI σ 14 < 500) (hp1 : gI σ 14 + 1 < 500) (hp2 : gI σ 14 + 1 + 1 < 500) (hty : 0 ≤ ty) : PI (mI σ ty) [] s k j := by sorry
theorem MM.mi {σ : RS} {ty : Int32} (h36 : gI σ 36 < 10) (hp : 0 ≤ gI σ 14 ∧ gI σ 14 < 500) (hv : 0 ≤ gI σ 42 ∧ gI σ 42 ≤ 60) : MM (mI σ ty) := MM.s1 (MM.s1 (MM.ti (MM.mh h36 hp hv)))
def mO (X : RS) (K : Int32) : RS := fo (sI (mS (sI X 14 (gI X 14 + 1))) 14 (gI X 14 + 1 + 1)) 0 K (-2)
theorem FF_mO {X : RS} {K : Int32} (h62 : gI X 62 = 0) : FF (mO X K) = [] := by sorry
theorem PI.mo {X : RS} {K : Int32} {mn : Nat} {k j : Int} (h : PI X [] ([], mn) k j) (hk : k ≤ 12) (hj : 1 ≤ j) (hM0 : MM X) (hmn : mn = nT (gI X 36)) (h62 : gI X 62 = 0) (hK : 0 ≤ K ∧ K < gI X 49) (hp : gI X 14 < 500) (hp1 : gI X 14 + 1 < 500) (hd : gI X 17 < 20) : PI (mO X K) [] (FF (mO X K), mn) k j := by sorry
theorem MF.mo {X : RS} {K : Int32} (h62 : gI X 62 = 0) (h36 : 0 ≤ gI X 36 ∧ gI X 36 < 10) : MF (mO X K) := by sorry
def P_method : RP := fun As σ => match As with
  | [] => ∃ mn k j, PI (sI σ 62 0) [] ([], mn) k j ∧ k ≤ 12 ∧ 1 ≤ j ∧ mn = nT (gI σ 36)
  | _ => False
def Q_method : RQ := fun As σ w τ => match As with
  | [] => ∃ r : Int32, w = some (.int r) ∧ ((r = 0 ∧ Fq σ τ) ∨ (r = 1 ∧ Fq σ τ ∧ (∀ mn k j, PI (sI σ 62 0) [] ([], mn) k j → k ≤ 12 → 1 ≤ j → mn = nT (gI σ 36) → ∃ mn', mn' = nT (gI τ 36) ∧ PI (sI τ 62 0) [] ([], mn') k j) ∧ (gI σ 14) < (gI τ 14)))
  | _ => False
set_option maxRecDepth 100000 in
set_option maxHeartbeats 4000000 in
theorem b_method : Bod Bmethod [(13, P_cant, Q_cant), (14, P_isSign, Q_isSign), (23, P_isType, Q_isType), (15, P_isWord, Q_isWord), (36, P_open, Q_open), (39, P_param, Q_param), (44, P_piece, Q_piece), (17, P_take, Q_take), (35, P_thing, Q_thing), (18, P_want, Q_want), (12, P_wrong, Q_wrong)] P_method Q_method := by sorry
theorem m_method (l : Launch) : RMet l 12 38 P_method Q_method := by sorry
set_option maxRecDepth 100000 in
theorem e_method (l : Launch) : RMetE l 12 38 P_method Q_method := by sorry
def zz (σ : RS) : RS := sI (sI (sI (sI (sI (sI (sI σ 36 0) 42 0) 49 0) 18 0) 14 0) 15 0) 17 0
theorem PI.zero {σ : RS} (hg : GZ σ) : PI (sI (zz σ) 62 0) [] ([], 0) 12 1 := by sorry
def P_parse : RP := fun As σ => match As with
  | [] => GZ σ
  | _ => False
def Q_parse : RQ := fun As σ w τ => match As with
  | [] => ∃ r : Int32, w = some (.int r) ∧ ((r = 0 ∧ Fq (zz σ) τ) ∨ (r = 1 ∧ Fq (zz σ) τ ∧ ∃ mn k j, PI (sI τ 62 0) [] ([], mn) k j ∧ mn = nT (gI τ 36)))
  | _ => False
set_option maxRecDepth 100000 in
set_option maxHeartbeats 4000000 in
theorem b_parse : Bod Bparse [(38, P_method, Q_method)] P_parse Q_parse := by sorry
theorem m_parse (l : Launch) : RMet l 13 37 P_parse Q_parse := by sorry
set_option maxRecDepth 100000 in
theorem e_parse (l : Launch) : RMetE l 13 37 P_parse Q_parse := by sorry
def P_isNumber : RP := fun As σ => match As with
  | [.int ty] => True
  | _ => False
def Q_isNumber : RQ := fun As σ w τ => match As with
  | [.int ty] => ∃ r : Int32, w = some (.int r) ∧ (r = 0 ∨ (r = 1 ∧ 1 ≤ ty ∧ ty ≤ 4)) ∧ τ = σ
  | _ => False
set_option maxRecDepth 100000 in
set_option maxHeartbeats 4000000 in
theorem b_isNumber : Bod BisNumber [] P_isNumber Q_isNumber := by sorry
theorem m_isNumber (l : Launch) : RMet l 1 72 P_isNumber Q_isNumber := by sorry
set_option maxRecDepth 100000 in
theorem e_isNumber (l : Launch) : RMetE l 1 72 P_isNumber Q_isNumber := by sorry
def P_widens : RP := fun As σ => match As with
  | [.int a, .int b] => True
  | _ => False
def Q_widens : RQ := fun As σ w τ => match As with
  | [.int a, .int b] => ∃ r : Int32, w = some (.int r) ∧ (r = 0 ∨ r = 1) ∧ τ = σ
  | _ => False
set_option maxRecDepth 100000 in
set_option maxHeartbeats 4000000 in
theorem b_widens : Bod Bwidens [] P_widens Q_widens := by sorry
theorem m_widens (l : Launch) : RMet l 1 73 P_widens Q_widens := by sorry
set_option maxRecDepth 100000 in
theorem e_widens (l : Launch) : RMetE l 1 73 P_widens Q_widens := by sorry
def P_holdsValue : RP := fun As σ => match As with
  | [.int ty, .long v] => True
  | _ => False
def Q_holdsValue : RQ := fun As σ w τ => match As with
  | [.int ty, .long v] => ∃ r : Int32, w = some (.int r) ∧ (r = 0 ∨ r = 1) ∧ τ = σ
  | _ => False
set_option maxRecDepth 100000 in
set_option maxHeartbeats 4000000 in
theorem b_holdsValue : Bod BholdsValue [] P_holdsValue Q_holdsValue := by sorry
theorem m_holdsValue (l : Launch) : RMet l 1 74 P_holdsValue Q_holdsValue := by sorry
set_option maxRecDepth 100000 in
theorem e_holdsValue (l : Launch) : RMetE l 1 74 P_holdsValue Q_holdsValue := by sorry
def P_wide : RP := fun As σ => match As with
  | [.int ty] => True
  | _ => False
def Q_wide : RQ := fun As σ w τ => match As with
  | [.int ty] => ∃ r : Int32, w = some (.int r) ∧ (r = 3 ∨ r = 4) ∧ τ = σ
  | _ => False
set_option maxRecDepth 100000 in
set_option maxHeartbeats 4000000 in
theorem b_wide : Bod Bwide [] P_wide Q_wide := by sorry
theorem m_wide (l : Launch) : RMet l 1 81 P_wide Q_wide := by sorry
set_option maxRecDepth 100000 in
theorem e_wide (l : Launch) : RMetE l 1 81 P_wide Q_wide := by sorry
def P_isShift : RP := fun As σ => match As with
  | [.int s] => True
  | _ => False
def Q_isShift : RQ := fun As σ w τ => match As with
  | [.int s] => ∃ r : Int32, w = some (.int r) ∧ (r = 0 ∨ r = 1) ∧ τ = σ
  | _ => False
set_option maxRecDepth 100000 in
set_option maxHeartbeats 4000000 in
theorem b_isShift : Bod BisShift [] P_isShift Q_isShift := by sorry
theorem m_isShift (l : Launch) : RMet l 1 93 P_isShift Q_isShift := by sorry
set_option maxRecDepth 100000 in
theorem e_isShift (l : Launch) : RMetE l 1 93 P_isShift Q_isShift := by sorry
def P_isBits : RP := fun As σ => match As with
  | [.int s] => True
  | _ => False
def Q_isBits : RQ := fun As σ w τ => match As with
  | [.int s] => ∃ r : Int32, w = some (.int r) ∧ (r = 0 ∨ r = 1) ∧ τ = σ
  | _ => False
set_option maxRecDepth 100000 in
set_option maxHeartbeats 4000000 in
theorem b_isBits : Bod BisBits [] P_isBits Q_isBits := by sorry
theorem m_isBits (l : Launch) : RMet l 1 94 P_isBits Q_isBits := by sorry
set_option maxRecDepth 100000 in
theorem e_isBits (l : Launch) : RMetE l 1 94 P_isBits Q_isBits := by sorry
def P_cast : RP := fun As σ => match As with
  | [.int ty, .long v] => True
  | _ => False
def Q_cast : RQ := fun As σ w τ => match As with
  | [.int ty, .long v] => ∃ r : Int64, w = some (.long r) ∧ τ = σ
  | _ => False
set_option maxRecDepth 100000 in
set_option maxHeartbeats 4000000 in
theorem b_cast : Bod Bcast [] P_cast Q_cast := by sorry
theorem m_cast (l : Launch) : RMet l 1 76 P_cast Q_cast := by sorry
set_option maxRecDepth 100000 in
theorem e_cast (l : Launch) : RMetE l 1 76 P_cast Q_cast := by sorry
def P_wordOf : RP := fun As σ => match As with
  | [.long v] => True
  | _ => False
def Q_wordOf : RQ := fun As σ w τ => match As with
  | [.long v] => ∃ r : Int32, w = some (.int r) ∧ τ = σ
  | _ => False
set_option maxRecDepth 100000 in
set_option maxHeartbeats 4000000 in
theorem b_wordOf : Bod BwordOf [] P_wordOf Q_wordOf := by sorry
theorem m_wordOf (l : Launch) : RMet l 1 8 P_wordOf Q_wordOf := by sorry
set_option maxRecDepth 100000 in
theorem e_wordOf (l : Launch) : RMetE l 1 8 P_wordOf Q_wordOf := by sorry
def P_place : RP := fun As σ => match As with
  | [] => True
  | _ => False
def Q_place : RQ := fun As σ w τ => match As with
  | [] => w = some (.int (gI σ 120)) ∧ τ = σ
  | _ => False
set_option maxRecDepth 100000 in
set_option maxHeartbeats 4000000 in
theorem m_place (l : Launch) : RMet l 1 124 P_place Q_place := by sorry
def P_drain : RP := fun As σ => match As with
  | [] => True
  | _ => False
def Q_drain : RQ := fun As σ w τ => match As with
  | [] => w = some (.int (gI σ 123)) ∧ τ = sI σ 123 0
  | _ => False
set_option maxRecDepth 100000 in
set_option maxHeartbeats 4000000 in
theorem m_drain (l : Launch) : RMet l 1 141 P_drain Q_drain := by sorry
def P_argument : RP := fun As σ => match As with
  | [.int i, .long v] => True
  | _ => False
def Q_argument : RQ := fun As σ w τ => match As with
  | [.int i, .long v] => ((i < 0 ∨ 5 < i) ∧ w = some (.int (-1)) ∧ τ = σ) ∨ ((0 ≤ i ∧ i ≤ 5) ∧ w = some (.int 1) ∧ ∃ f, τ = sM σ 124 f)
  | _ => False
set_option maxRecDepth 100000 in
set_option maxHeartbeats 4000000 in
theorem m_argument (l : Launch) : RMet l 1 139 P_argument Q_argument := by sorry
def P_input : RP := fun As σ => match As with
  | [.int v] => 0 ≤ gI σ 123 ∧ gI σ 123 ≤ 40
  | _ => False
def Q_input : RQ := fun As σ w τ => match As with
  | [.int v] => (gI σ 123 = 40 ∧ w = some (.int (-3)) ∧ τ = σ) ∨ (gI σ 123 < 40 ∧ w = some (.int (gI σ 123 + 1)) ∧ ∃ f, τ = sI (sA σ 122 f) 123 (gI σ 123 + 1))
  | _ => False
set_option maxRecDepth 100000 in
set_option maxHeartbeats 4000000 in
theorem m_input (l : Launch) : RMet l 1 140 P_input Q_input := by sorry
def P_cut : RP := fun As σ => match As with
  | [.int n] => 0 ≤ (gI σ 1) ∧ (gI σ 1) ≤ 2500
  | _ => False
def Q_cut : RQ := fun As σ w τ => match As with
  | [.int n] => ((n < 0 ∨ (gI σ 1) < n) ∧ w = some (.int (-1)) ∧ τ = σ) ∨ ((0 ≤ n ∧ n ≤ (gI σ 1)) ∧ w = some (.int ((gI σ 1) - n)) ∧ τ = sI σ 1 ((gI σ 1) - n))
  | _ => False
set_option maxRecDepth 100000 in
set_option maxHeartbeats 4000000 in
theorem m_cut (l : Launch) : RMet l 1 2 P_cut Q_cut := by sorry
def P_tokens : RP := fun As σ => match As with
  | [] => 0 ≤ (gI σ 2) ∧ (gI σ 2) ≤ 2590
  | _ => False
def Q_tokens : RQ := fun As σ w τ => match As with
  | [] => ∃ r : Int32, w = some (.int r) ∧ (0 ≤ r ∧ r ≤ 2589) ∧ τ = σ
  | _ => False
set_option maxRecDepth 100000 in
set_option maxHeartbeats 4000000 in
theorem b_tokens : Bod Btokens [] P_tokens Q_tokens := by sorry
theorem m_tokens (l : Launch) : RMet l 1 127 P_tokens Q_tokens := by sorry
set_option maxRecDepth 100000 in
theorem e_tokens (l : Launch) : RMetE l 1 127 P_tokens Q_tokens := by sorry
def P_isToken : RP := fun As σ => match As with
  | [.int i] => 0 ≤ (gI σ 2) ∧ (gI σ 2) ≤ 2590
  | _ => False
def Q_isToken : RQ := fun As σ w τ => match As with
  | [.int i] => ∃ r : Int32, w = some (.int r) ∧ (r = 0 ∨ (r = 1 ∧ 0 ≤ i ∧ i ≤ 2589)) ∧ τ = σ
  | _ => False
set_option maxRecDepth 100000 in
set_option maxHeartbeats 4000000 in
theorem b_isToken : Bod BisToken [(127, P_tokens, Q_tokens)] P_isToken Q_isToken := by sorry
theorem m_isToken (l : Launch) : RMet l 2 129 P_isToken Q_isToken := by sorry
set_option maxRecDepth 100000 in
theorem e_isToken (l : Launch) : RMetE l 2 129 P_isToken Q_isToken := by sorry
def P_told2 : RP := fun As σ => match As with
  | [.int what] => 0 ≤ (gI σ 2) ∧ (gI σ 2) ≤ 2590
  | _ => False
def Q_told2 : RQ := fun As σ w τ => match As with
  | [.int what] => ∃ r : Int32, w = some (.int r) ∧ τ = σ
  | _ => False
set_option maxRecDepth 100000 in
set_option maxHeartbeats 4000000 in
theorem m_told2 (l : Launch) : RMet l 2 128 P_told2 Q_told2 := by sorry
def P_token : RP := fun As σ => match As with
  | [.int i, .int what] => 0 ≤ (gI σ 2) ∧ (gI σ 2) ≤ 2590
  | _ => False
def Q_token : RQ := fun As σ w τ => match As with
  | [.int i, .int what] => ∃ r : Int32, w = some (.int r) ∧ τ = σ
  | _ => False
set_option maxRecDepth 100000 in
set_option maxHeartbeats 4000000 in
theorem m_token (l : Launch) : RMet l 3 130 P_token Q_token := by sorry
def P_variable2 : RP := fun As σ => match As with
  | [.int k, .int what] => ∃ s k j, PI (sI σ 62 0) [] s k j
  | _ => False
def Q_variable2 : RQ := fun As σ w τ => match As with
  | [.int k, .int what] => ∃ r : Int32, w = some (.int r) ∧ τ = σ
  | _ => False
set_option maxRecDepth 100000 in
set_option maxHeartbeats 4000000 in
theorem m_variable2 (l : Launch) : RMet l 1 132 P_variable2 Q_variable2 := by sorry
def P_method2 : RP := fun As σ => match As with
  | [.int k, .int what] => ∃ s k j, PI (sI σ 62 0) [] s k j
  | _ => False
def Q_method2 : RQ := fun As σ w τ => match As with
  | [.int k, .int what] => ∃ r : Int32, w = some (.int r) ∧ τ = σ
  | _ => False
set_option maxRecDepth 100000 in
set_option maxHeartbeats 4000000 in
theorem m_method2 (l : Launch) : RMet l 1 131 P_method2 Q_method2 := by sorry
def lI (k : Nat) : Bool := k == 2 || k == 12 || k == 13
def lA (k : Nat) : Bool := 3 ≤ k && k ≤ 11
/-- what the cutting of tokens may change -/
def Fl (σ τ : RS) : Prop := (∀ k, lI k = false → gI τ k = gI σ k) ∧ (∀ k, gL τ k = gL σ k) ∧ (∀ k, lA k = false → aI τ k = aI σ k) ∧ ∀ k, lA k = false → aL τ k = aL σ k
theorem Fl.rf {σ : RS} : Fl σ σ := by sorry
theorem Fl.tr {σ τ υ : RS} (h1 : Fl σ τ) (h2 : Fl τ υ) : Fl σ υ := by sorry
theorem Fl.i {σ τ : RS} (h : Fl σ τ) {k : Nat} {v : Int32} (hk : lI k = true) : Fl σ (sI τ k v) := by sorry
theorem Fl.a {σ τ : RS} (h : Fl σ τ) {k : Nat} {f : Nat → Int32} (hk : lA k = true) : Fl σ (sA τ k f) := by sorry
theorem Fl.m {σ τ : RS} (h : Fl σ τ) {k : Nat} {f : Nat → Int64} (hk : lA k = true) : Fl σ (sM τ k f) := by sorry
theorem sI_sI {σ : RS} {k : Nat} {u v : Int32} : sI (sI σ k u) k v = sI σ k v := by sorry
def LX (σ : RS) : Prop := (0 ≤ gI σ 13 ∧ gI σ 13 ≤ gI σ 12) ∧ gI σ 12 ≤ 2500
theorem mlt25 {x y : Int32} {n : Nat} (hn : (2500 - x.toInt).toNat = n) (h : x < y) (h5 : y ≤ 2500) : (2500 - y.toInt).toNat < n := by sorry
def P_at2 : RP := fun As σ => match As with
  | [.int k] => 0 ≤ k ∧ (gI σ 12) ≤ 2500
  | _ => False
def Q_at2 : RQ := fun As σ w τ => match As with
  | [.int k] => ∃ r : Int32, w = some (.int r) ∧ (¬ r = 0 → k < (gI σ 12)) ∧ τ = σ
  | _ => False
set_option maxRecDepth 100000 in
set_option maxHeartbeats 4000000 in
theorem b_at2 : Bod Bat [] P_at2 Q_at2 := by sorry
theorem m_at2 (l : Launch) : RMet l 1 3 P_at2 Q_at2 := by sorry
set_option maxRecDepth 100000 in
theorem e_at2 (l : Launch) : RMetE l 1 3 P_at2 Q_at2 := by sorry
def P_isLetter2 : RP := fun As σ => match As with
  | [.int b] => True
  | _ => False
def Q_isLetter2 : RQ := fun As σ w τ => match As with
  | [.int b] => ∃ r : Int32, w = some (.int r) ∧ (r = 0 ∨ (r = 1 ∧ 65 ≤ b)) ∧ τ = σ
  | _ => False
set_option maxRecDepth 100000 in
set_option maxHeartbeats 4000000 in
theorem b_isLetter2 : Bod BisLetter [] P_isLetter2 Q_isLetter2 := by sorry
theorem m_isLetter2 (l : Launch) : RMet l 1 4 P_isLetter2 Q_isLetter2 := by sorry
set_option maxRecDepth 100000 in
theorem e_isLetter2 (l : Launch) : RMetE l 1 4 P_isLetter2 Q_isLetter2 := by sorry
def P_isDigit2 : RP := fun As σ => match As with
  | [.int b] => True
  | _ => False
def Q_isDigit2 : RQ := fun As σ w τ => match As with
  | [.int b] => ∃ r : Int32, w = some (.int r) ∧ (r = 0 ∨ (r = 1 ∧ 48 ≤ b)) ∧ τ = σ
  | _ => False
set_option maxRecDepth 100000 in
set_option maxHeartbeats 4000000 in
theorem b_isDigit2 : Bod BisDigit [] P_isDigit2 Q_isDigit2 := by sorry
theorem m_isDigit2 (l : Launch) : RMet l 1 5 P_isDigit2 Q_isDigit2 := by sorry
set_option maxRecDepth 100000 in
theorem e_isDigit2 (l : Launch) : RMetE l 1 5 P_isDigit2 Q_isDigit2 := by sorry
def P_character : RP := fun As σ => match As with
  | [.int t] => (0 ≤ t ∧ t < 2600) ∧ LX σ ∧ (gI σ 13) < (gI σ 12)
  | _ => False
def Q_character : RQ := fun As σ w τ => match As with
  | [.int t] => w = none ∧ Fl σ τ ∧ LX τ ∧ (gI τ 12) = (gI σ 12) ∧ (gI τ 2) = (gI σ 2)
  | _ => False
set_option maxRecDepth 100000 in
set_option maxHeartbeats 4000000 in
theorem b_character : Bod Bcharacter [(3, P_at2, Q_at2)] P_character Q_character := by sorry
theorem m_character (l : Launch) : RMet l 2 10 P_character Q_character := by sorry
set_option maxRecDepth 100000 in
theorem e_character (l : Launch) : RMetE l 2 10 P_character Q_character := by sorry
def P_word : RP := fun As σ => match As with
  | [.int t] => (0 ≤ t ∧ t < 2600) ∧ LX σ
  | _ => False
def Q_word : RQ := fun As σ w τ => match As with
  | [.int t] => w = none ∧ Fl σ τ ∧ LX τ ∧ (gI τ 12) = (gI σ 12) ∧ (gI τ 2) = (gI σ 2)
  | _ => False
set_option maxRecDepth 100000 in
set_option maxHeartbeats 4000000 in
theorem b_word : Bod Bword [(3, P_at2, Q_at2), (5, P_isDigit2, Q_isDigit2), (4, P_isLetter2, Q_isLetter2), (8, P_wordOf, Q_wordOf)] P_word Q_word := by sorry
theorem m_word (l : Launch) : RMet l 2 7 P_word Q_word := by sorry
set_option maxRecDepth 100000 in
theorem e_word (l : Launch) : RMetE l 2 7 P_word Q_word := by sorry
def P_number : RP := fun As σ => match As with
  | [.int t] => (0 ≤ t ∧ t < 2600) ∧ LX σ
  | _ => False
def Q_number : RQ := fun As σ w τ => match As with
  | [.int t] => w = none ∧ Fl σ τ ∧ LX τ ∧ (gI τ 12) = (gI σ 12) ∧ (gI τ 2) = (gI σ 2)
  | _ => False
set_option maxRecDepth 100000 in
set_option maxHeartbeats 4000000 in
theorem b_number : Bod Bnumber [(3, P_at2, Q_at2), (5, P_isDigit2, Q_isDigit2)] P_number Q_number := by sorry
theorem m_number (l : Launch) : RMet l 2 9 P_number Q_number := by sorry
set_option maxRecDepth 100000 in
theorem e_number (l : Launch) : RMetE l 2 9 P_number Q_number := by sorry
def Fy (σ τ : RS) : Prop := (∀ k, k ≠ 1 → gI τ k = gI σ k) ∧ (∀ k, gL τ k = gL σ k) ∧ (∀ k, k ≠ 0 → aI τ k = aI σ k) ∧ ∀ k, aL τ k = aL σ k
theorem Fy.rf {σ : RS} : Fy σ σ := by sorry
theorem Fy.tr {σ τ υ : RS} (h1 : Fy σ τ) (h2 : Fy τ υ) : Fy σ υ := by sorry
theorem Fy.s {σ τ : RS} (h : Fy σ τ) {v : Int32} {f : Nat → Int32} : Fy σ (sI (sA τ 0 f) 1 v) := by sorry
def P_lay : RP := fun As σ => match As with
  | [.int v] => 0 ≤ (gI σ 1) ∧ (gI σ 1) ≤ 2496
  | _ => False
def Q_lay : RQ := fun As σ w τ => match As with
  | [.int v] => w = none ∧ Fy σ τ ∧ (gI τ 1) = (gI σ 1) + 4
  | _ => False
set_option maxRecDepth 100000 in
set_option maxHeartbeats 4000000 in
theorem m_lay (l : Launch) : RMet l 1 1 P_lay Q_lay := by sorry
def P_feed : RP := fun As σ => match As with
  | [.int a, .int b, .int c, .int d, .int e] => 0 ≤ (gI σ 1) ∧ (gI σ 1) ≤ 2500
  | _ => False
def Q_feed : RQ := fun As σ w τ => match As with
  | [.int a, .int b, .int c, .int d, .int e] => (2500 < (gI σ 1) + 20 ∧ w = some (.int (-3)) ∧ τ = σ) ∨ ((gI σ 1) + 20 ≤ 2500 ∧ w = some (.int ((gI σ 1) + 20)) ∧ Fy σ τ ∧ (gI τ 1) = (gI σ 1) + 20)
  | _ => False
set_option maxRecDepth 100000 in
set_option maxHeartbeats 4000000 in
theorem m_feed (l : Launch) : RMet l 2 0 P_feed Q_feed := by sorry
def P_sign : RP := fun As σ => match As with
  | [.int t] => (0 ≤ t ∧ t < 2600) ∧ LX σ ∧ (gI σ 13) < (gI σ 12)
  | _ => False
def Q_sign : RQ := fun As σ w τ => match As with
  | [.int t] => w = none ∧ Fl σ τ ∧ LX τ ∧ (gI τ 12) = (gI σ 12) ∧ (gI τ 2) = (gI σ 2)
  | _ => False
set_option maxRecDepth 100000 in
set_option maxHeartbeats 4000000 in
theorem b_sign : Bod Bsign [(3, P_at2, Q_at2)] P_sign Q_sign := by sorry
theorem m_sign (l : Launch) : RMet l 2 11 P_sign Q_sign := by sorry
set_option maxRecDepth 100000 in
theorem e_sign (l : Launch) : RMetE l 2 11 P_sign Q_sign := by sorry
theorem mlt26 {x y : Int32} {n : Nat} (hn : (2590 - x.toInt).toNat = n) (h : x < y) (h5 : y ≤ 2590) : (2590 - y.toInt).toNat < n := by sorry
def P_lexer : RP := fun As σ => match As with
  | [] => 0 ≤ (gI σ 1) ∧ (gI σ 1) ≤ 2500
  | _ => False
def Q_lexer : RQ := fun As σ w τ => match As with
  | [] => w = none ∧ Fl σ τ ∧ (0 ≤ (gI τ 2) ∧ (gI τ 2) ≤ 2590)
  | _ => False
set_option maxRecDepth 100000 in
set_option maxHeartbeats 4000000 in
theorem b_lexer : Bod Blexer [(3, P_at2, Q_at2), (4, P_isLetter2, Q_isLetter2), (5, P_isDigit2, Q_isDigit2), (7, P_word, Q_word), (9, P_number, Q_number), (10, P_character, Q_character), (11, P_sign, Q_sign)] P_lexer Q_lexer := by sorry
theorem m_lexer (l : Launch) : RMet l 3 6 P_lexer Q_lexer := by sorry
set_option maxRecDepth 100000 in
theorem e_lexer (l : Launch) : RMetE l 3 6 P_lexer Q_lexer := by sorry
/-- the program that stands, but for its defaults -/
def PJ (σ : RS) : Prop := ∃ f s k j, PI (sI (sA σ 59 f) 62 0) [] s k j
def P_err : RP := fun As σ => match As with
  | [.int what, .int t] => (0 ≤ t ∧ t ≤ 2599) ∧ ¬ what = 0
  | _ => False
def Q_err : RQ := fun As σ w τ => match As with
  | [.int what, .int t] => w = none ∧ ∃ a b : Int32, τ = sI (sI σ 66 a) 67 b ∧ ¬ a = 0
  | _ => False
set_option maxRecDepth 100000 in
set_option maxHeartbeats 4000000 in
theorem b_err : Bod Berr [] P_err Q_err := by sorry
theorem m_err (l : Launch) : RMet l 1 70 P_err Q_err := by sorry
set_option maxRecDepth 100000 in
theorem e_err (l : Launch) : RMetE l 1 70 P_err Q_err := by sorry
def P_isBad : RP := fun As σ => match As with
  | [.int s] => 0 ≤ s ∧ s < 700
  | _ => False
def Q_isBad : RQ := fun As σ w τ => match As with
  | [.int s] => ∃ r : Int32, w = some (.int r) ∧ ((r = 0 ∧ ¬ aI σ 70 s.toNatClampNeg = -2) ∨ (r = 1 ∧ aI σ 70 s.toNatClampNeg = -2)) ∧ τ = σ
  | _ => False
set_option maxRecDepth 100000 in
set_option maxHeartbeats 4000000 in
theorem b_isBad : Bod BisBad [] P_isBad Q_isBad := by sorry
theorem m_isBad (l : Launch) : RMet l 1 79 P_isBad Q_isBad := by sorry
set_option maxRecDepth 100000 in
theorem e_isBad (l : Launch) : RMetE l 1 79 P_isBad Q_isBad := by sorry
def P_paramsOf : RP := fun As σ => match As with
  | [.int m] => 0 ≤ m ∧ m ≤ 11
  | _ => False
def Q_paramsOf : RQ := fun As σ w τ => match As with
  | [.int m] => ∃ r : Int32, w = some (.int r) ∧ ((m = 10 ∧ r = 1) ∨ (m = 11 ∧ r = 0) ∨ (m < 10 ∧ r = aI σ 39 m.toNatClampNeg)) ∧ τ = σ
  | _ => False
set_option maxRecDepth 100000 in
set_option maxHeartbeats 4000000 in
theorem b_paramsOf : Bod BparamsOf [] P_paramsOf Q_paramsOf := by sorry
theorem m_paramsOf (l : Launch) : RMet l 1 84 P_paramsOf Q_paramsOf := by sorry
set_option maxRecDepth 100000 in
theorem e_paramsOf (l : Launch) : RMetE l 1 84 P_paramsOf Q_paramsOf := by sorry
def P_resultOf : RP := fun As σ => match As with
  | [.int m] => 0 ≤ m ∧ m ≤ 11
  | _ => False
def Q_resultOf : RQ := fun As σ w τ => match As with
  | [.int m] => ∃ r : Int32, w = some (.int r) ∧ ((m = 10 ∧ r = 5) ∨ (m = 11 ∧ r = 3) ∨ (m < 10 ∧ r = aI σ 38 m.toNatClampNeg)) ∧ τ = σ
  | _ => False
set_option maxRecDepth 100000 in
set_option maxHeartbeats 4000000 in
theorem b_resultOf : Bod BresultOf [] P_resultOf Q_resultOf := by sorry
theorem m_resultOf (l : Launch) : RMet l 1 85 P_resultOf Q_resultOf := by sorry
set_option maxRecDepth 100000 in
theorem e_resultOf (l : Launch) : RMetE l 1 85 P_resultOf Q_resultOf := by sorry
def P_isMethod : RP := fun As σ => match As with
  | [.int m] => True
  | _ => False
def Q_isMethod : RQ := fun As σ w τ => match As with
  | [.int m] => ∃ r : Int32, w = some (.int r) ∧ (r = 0 ∨ (r = 1 ∧ (m < (gI σ 36) ∨ 10 ≤ m))) ∧ τ = σ
  | _ => False
set_option maxRecDepth 100000 in
set_option maxHeartbeats 4000000 in
theorem b_isMethod : Bod BisMethod [] P_isMethod Q_isMethod := by sorry
theorem m_isMethod (l : Launch) : RMet l 1 103 P_isMethod Q_isMethod := by sorry
set_option maxRecDepth 100000 in
theorem e_isMethod (l : Launch) : RMetE l 1 103 P_isMethod Q_isMethod := by sorry
def P_find : RP := fun As σ => match As with
  | [.int t] => PJ σ ∧ (0 ≤ t ∧ t ≤ 2000)
  | _ => False
def Q_find : RQ := fun As σ w τ => match As with
  | [.int t] => ∃ r : Int32, w = some (.int r) ∧ (r = -2 ∨ (0 ≤ r ∧ r < (gI σ 42))) ∧ τ = σ
  | _ => False
set_option maxRecDepth 100000 in
set_option maxHeartbeats 4000000 in
theorem b_find : Bod Bfind [(63, P_sameName, Q_sameName)] P_find Q_find := by sorry
theorem m_find (l : Launch) : RMet l 2 71 P_find Q_find := by sorry
set_option maxRecDepth 100000 in
theorem e_find (l : Launch) : RMetE l 2 71 P_find Q_find := by sorry
def P_lateErr : RP := fun As σ => match As with
  | [.int what, .int t] => 0 ≤ t ∧ t ≤ 2599
  | _ => False
def Q_lateErr : RQ := fun As σ w τ => match As with
  | [.int what, .int t] => w = none ∧ ∃ a b : Int32, τ = sI (sI σ 112 a) 113 b
  | _ => False
set_option maxRecDepth 100000 in
set_option maxHeartbeats 4000000 in
theorem b_lateErr : Bod BlateErr [] P_lateErr Q_lateErr := by sorry
theorem m_lateErr (l : Launch) : RMet l 1 110 P_lateErr Q_lateErr := by sorry
set_option maxRecDepth 100000 in
theorem e_lateErr (l : Launch) : RMetE l 1 110 P_lateErr Q_lateErr := by sorry
def P_now : RP := fun As σ => match As with
  | [] => True
  | _ => False
def Q_now : RQ := fun As σ w τ => match As with
  | [] => ∃ r : Int64, w = some (.long r) ∧ τ = σ
  | _ => False
set_option maxRecDepth 100000 in
set_option maxHeartbeats 4000000 in
theorem b_now : Bod Bnow [] P_now Q_now := by sorry
theorem m_now (l : Launch) : RMet l 1 111 P_now Q_now := by sorry
set_option maxRecDepth 100000 in
theorem e_now (l : Launch) : RMetE l 1 111 P_now Q_now := by sorry
def P_be : RP := fun As σ => match As with
  | [.long v] => True
  | _ => False
def Q_be : RQ := fun As σ w τ => match As with
  | [.long v] => w = none ∧ τ = sL (sL σ 93 v) 94 v
  | _ => False
set_option maxRecDepth 100000 in
set_option maxHeartbeats 4000000 in
theorem b_be : Bod Bbe [] P_be Q_be := by sorry
theorem m_be (l : Launch) : RMet l 1 112 P_be Q_be := by sorry
set_option maxRecDepth 100000 in
theorem e_be (l : Launch) : RMetE l 1 112 P_be Q_be := by sorry
def P_findAt : RP := fun As σ => match As with
  | [.int c] => (0 ≤ c ∧ c < 4000) ∧ (0 ≤ aI σ 22 c.toNatClampNeg ∧ aI σ 22 c.toNatClampNeg ≤ 2599)
  | _ => False
def Q_findAt : RQ := fun As σ w τ => match As with
  | [.int c] => w = some (.int (aI σ 80 (aI σ 22 c.toNatClampNeg).toNatClampNeg)) ∧ τ = σ
  | _ => False
set_option maxRecDepth 100000 in
set_option maxHeartbeats 4000000 in
theorem b_findAt : Bod BfindAt [] P_findAt Q_findAt := by sorry
theorem m_findAt (l : Launch) : RMet l 1 118 P_findAt Q_findAt := by sorry
set_option maxRecDepth 100000 in
theorem e_findAt (l : Launch) : RMetE l 1 118 P_findAt Q_findAt := by sorry
def P_slot : RP := fun As σ => match As with
  | [.int v] => True
  | _ => False
def Q_slot : RQ := fun As σ w τ => match As with
  | [.int v] => w = some (.int (60 * ((gI σ 129) - 1) + v)) ∧ τ = σ
  | _ => False
set_option maxRecDepth 100000 in
set_option maxHeartbeats 4000000 in
theorem m_slot (l : Launch) : RMet l 1 146 P_slot Q_slot := by sorry
def P_count1 : RP := fun As σ => match As with
  | [] => True
  | _ => False
def Q_count1 : RQ := fun As σ w τ => match As with
  | [] => ∃ r : Int32, w = some (.int r) ∧ ((r = 0 ∧ (gI σ 144) = (gI σ 145) ∧ τ = sI σ 142 3) ∨ (r = 1 ∧ ¬ (gI σ 144) = (gI σ 145) ∧ τ = sI σ 144 ((gI σ 144) + 1)))
  | _ => False
set_option maxRecDepth 100000 in
set_option maxHeartbeats 4000000 in
theorem m_count1 (l : Launch) : RMet l 1 145 P_count1 Q_count1 := by sorry
def P_begin : RP := fun As σ => match As with
  | [.int m, .int to] => 0 ≤ (gI σ 129) ∧ (gI σ 129) ≤ 30
  | _ => False
def Q_begin : RQ := fun As σ w τ => match As with
  | [.int m, .int to] => ∃ r : Int32, w = some (.int r) ∧ ((r = 0 ∧ (gI σ 129) = 30 ∧ τ = sI σ 142 4) ∨ (r = 1 ∧ (gI σ 129) < 30 ∧ τ = sI (sA (sA σ 132 (upd (aI σ 132) ((gI σ 129)).toNatClampNeg m)) 131 (upd (aI σ 131) ((gI σ 129)).toNatClampNeg to)) 129 ((gI σ 129) + 1)))
  | _ => False
set_option maxRecDepth 100000 in
set_option maxHeartbeats 4000000 in
theorem m_begin (l : Launch) : RMet l 1 150 P_begin Q_begin := by sorry
def P_put : RP := fun As σ => match As with
  | [.long v] => 0 ≤ (gI σ 128) ∧ (gI σ 128) < 8000
  | _ => False
def Q_put : RQ := fun As σ w τ => match As with
  | [.long v] => w = none ∧ ∃ f, τ = sI (sM σ 127 f) 128 ((gI σ 128) + 1)
  | _ => False
set_option maxRecDepth 100000 in
set_option maxHeartbeats 4000000 in
theorem m_put (l : Launch) : RMet l 1 144 P_put Q_put := by sorry
def P_pop1 : RP := fun As σ => match As with
  | [] => 0 < (gI σ 128) ∧ (gI σ 128) ≤ 8000
  | _ => False
def Q_pop1 : RQ := fun As σ w τ => match As with
  | [] => ∃ r : Int64, w = some (.long r) ∧ τ = sI σ 128 ((gI σ 128) - 1)
  | _ => False
set_option maxRecDepth 100000 in
set_option maxHeartbeats 4000000 in
theorem m_pop1 (l : Launch) : RMet l 1 143 P_pop1 Q_pop1 := by sorry
def P_tell : RP := fun As σ => match As with
  | [.long v] => 0 ≤ (gI σ 148) ∧ (gI σ 148) ≤ 200
  | _ => False
def Q_tell : RQ := fun As σ w τ => match As with
  | [.long v] => w = none ∧ (τ = sI σ 142 5 ∨ ((gI σ 148) < 200 ∧ ∃ f, τ = sI (sM σ 149 f) 148 ((gI σ 148) + 1)))
  | _ => False
set_option maxRecDepth 100000 in
set_option maxHeartbeats 4000000 in
theorem m_tell (l : Launch) : RMet l 1 156 P_tell Q_tell := by sorry
def P_next : RP := fun As σ => match As with
  | [] => (0 ≤ (gI σ 146) ∧ (gI σ 146) ≤ 100000) ∧ (0 ≤ (gI σ 123) ∧ (gI σ 123) ≤ 40)
  | _ => False
def Q_next : RQ := fun As σ w τ => match As with
  | [] => ∃ r : Int64, w = some (.long r) ∧ τ = sI σ 146 ((gI σ 146) + 1)
  | _ => False
set_option maxRecDepth 100000 in
set_option maxHeartbeats 4000000 in
theorem m_next (l : Launch) : RMet l 1 155 P_next Q_next := by sorry
def P_fits : RP := fun As σ => match As with
  | [.int s, .int ty] => 0 ≤ s ∧ s < 700
  | _ => False
def Q_fits : RQ := fun As σ w τ => match As with
  | [.int s, .int ty] => ∃ r : Int32, w = some (.int r) ∧ (r = 0 ∨ (r = 1 ∧ ¬ (aI σ 70 s.toNatClampNeg) = 5)) ∧ τ = σ
  | _ => False
set_option maxRecDepth 100000 in
set_option maxHeartbeats 4000000 in
theorem b_fits : Bod Bfits [(74, P_holdsValue, Q_holdsValue), (73, P_widens, Q_widens)] P_fits Q_fits := by sorry
theorem m_fits (l : Launch) : RMet l 2 75 P_fits Q_fits := by sorry
set_option maxRecDepth 100000 in
theorem e_fits (l : Launch) : RMetE l 2 75 P_fits Q_fits := by sorry
def P_isHeld : RP := fun As σ => match As with
  | [.int s, .int ty] => 0 ≤ s ∧ s < 700
  | _ => False
def Q_isHeld : RQ := fun As σ w τ => match As with
  | [.int s, .int ty] => ∃ r : Int32, w = some (.int r) ∧ (r = 0 ∨ r = 1) ∧ τ = σ
  | _ => False
set_option maxRecDepth 100000 in
set_option maxHeartbeats 4000000 in
theorem b_isHeld : Bod BisHeld [(74, P_holdsValue, Q_holdsValue)] P_isHeld Q_isHeld := by sorry
theorem m_isHeld (l : Launch) : RMet l 2 99 P_isHeld Q_isHeld := by sorry
set_option maxRecDepth 100000 in
theorem e_isHeld (l : Launch) : RMetE l 2 99 P_isHeld Q_isHeld := by sorry
def P_need : RP := fun As σ => match As with
  | [.int s, .int want] => (0 ≤ s ∧ s < 700) ∧ (0 ≤ aI σ 73 s.toNatClampNeg ∧ aI σ 73 s.toNatClampNeg ≤ 2599)
  | _ => False
def Q_need : RQ := fun As σ w τ => match As with
  | [.int s, .int want] => ∃ r a b : Int32, w = some (.int r) ∧ τ = sI (sI σ 66 a) 67 b ∧ (a = 0 → (gI σ 66) = 0) ∧ ((r = 1 ∧ ¬ (aI σ 70 s.toNatClampNeg) = 5) ∨ (r = 0 ∧ (a = 0 → (aI σ 70 s.toNatClampNeg) = -2)))
  | _ => False
set_option maxRecDepth 100000 in
set_option maxHeartbeats 4000000 in
theorem b_need : Bod Bneed [(70, P_err, Q_err), (79, P_isBad, Q_isBad), (72, P_isNumber, Q_isNumber)] P_need Q_need := by sorry
theorem m_need (l : Launch) : RMet l 2 80 P_need Q_need := by sorry
set_option maxRecDepth 100000 in
theorem e_need (l : Launch) : RMetE l 2 80 P_need Q_need := by sorry
def P_pair : RP := fun As σ => match As with
  | [.int s, .int ei] => (0 ≤ s ∧ s < 700) ∧ (0 ≤ aI σ 73 s.toNatClampNeg ∧ aI σ 73 s.toNatClampNeg ≤ 2599)
  | _ => False
def Q_pair : RQ := fun As σ w τ => match As with
  | [.int s, .int ei] => ∃ r a b : Int32, w = some (.int r) ∧ τ = sI (sI σ 66 a) 67 b ∧ (a = 0 → (gI σ 66) = 0) ∧ ((r = 1 ∧ ¬ (aI σ 70 s.toNatClampNeg) = 5) ∨ (r = 0 ∧ (a = 0 → (aI σ 70 s.toNatClampNeg) = -2)))
  | _ => False
set_option maxRecDepth 100000 in
set_option maxHeartbeats 4000000 in
theorem b_pair : Bod Bpair [(80, P_need, Q_need)] P_pair Q_pair := by sorry
theorem m_pair (l : Launch) : RMet l 3 96 P_pair Q_pair := by sorry
set_option maxRecDepth 100000 in
theorem e_pair (l : Launch) : RMetE l 3 96 P_pair Q_pair := by sorry
def P_reckon : RP := fun As σ => match As with
  | [.int s, .int wk, .long a, .long b] => (s = 47 ∨ s = 37) → ¬ b = 0
  | _ => False
def Q_reckon : RQ := fun As σ w τ => match As with
  | [.int s, .int wk, .long a, .long b] => ∃ r : Int64, w = some (.long r) ∧ τ = σ
  | _ => False
set_option maxRecDepth 100000 in
set_option maxHeartbeats 4000000 in
theorem b_reckon : Bod Breckon [(76, P_cast, Q_cast)] P_reckon Q_reckon := by sorry
theorem m_reckon (l : Launch) : RMet l 2 97 P_reckon Q_reckon := by sorry
set_option maxRecDepth 100000 in
theorem e_reckon (l : Launch) : RMetE l 2 97 P_reckon Q_reckon := by sorry
def P_typeOfParam : RP := fun As σ => match As with
  | [.int m, .int i] => PJ σ ∧ (m = 10 ∨ (0 ≤ m ∧ m < (gI σ 36) ∧ 0 ≤ i ∧ i < aI σ 39 m.toNatClampNeg))
  | _ => False
def Q_typeOfParam : RQ := fun As σ w τ => match As with
  | [.int m, .int i] => ∃ r : Int32, w = some (.int r) ∧ τ = σ
  | _ => False
set_option maxRecDepth 100000 in
set_option maxHeartbeats 4000000 in
theorem b_typeOfParam : Bod BtypeOfParam [] P_typeOfParam Q_typeOfParam := by sorry
theorem m_typeOfParam (l : Launch) : RMet l 1 83 P_typeOfParam Q_typeOfParam := by sorry
set_option maxRecDepth 100000 in
theorem e_typeOfParam (l : Launch) : RMetE l 1 83 P_typeOfParam Q_typeOfParam := by sorry
def P_isNamed : RP := fun As σ => match As with
  | [.int m, .int t] => PJ σ ∧ (0 ≤ m ∧ (10 ≤ m ∨ m < (gI σ 36))) ∧ (0 ≤ t ∧ t ≤ 2000)
  | _ => False
def Q_isNamed : RQ := fun As σ w τ => match As with
  | [.int m, .int t] => ∃ r : Int32, w = some (.int r) ∧ (r = 0 ∨ r = 1) ∧ τ = σ
  | _ => False
set_option maxRecDepth 100000 in
set_option maxHeartbeats 4000000 in
theorem b_isNamed : Bod BisNamed [(63, P_sameName, Q_sameName)] P_isNamed Q_isNamed := by sorry
theorem m_isNamed (l : Launch) : RMet l 2 86 P_isNamed Q_isNamed := by sorry
set_option maxRecDepth 100000 in
theorem e_isNamed (l : Launch) : RMetE l 2 86 P_isNamed Q_isNamed := by sorry
def P_takes : RP := fun As σ => match As with
  | [.int m, .int fi, .int n] => PJ σ ∧ (0 ≤ m ∧ (m < (gI σ 36) ∨ m = 10 ∨ m = 11)) ∧ (0 ≤ fi ∧ fi ≤ 600) ∧ (0 ≤ n ∧ n ≤ 600 ∧ fi + n ≤ 700)
  | _ => False
def Q_takes : RQ := fun As σ w τ => match As with
  | [.int m, .int fi, .int n] => ∃ r : Int32, w = some (.int r) ∧ (r = 0 ∨ (r = 1 ∧ ((m = 10 ∧ n = 1) ∨ (m = 11 ∧ n = 0) ∨ (m < 10 ∧ n = aI σ 39 m.toNatClampNeg)))) ∧ τ = σ
  | _ => False
set_option maxRecDepth 100000 in
set_option maxHeartbeats 4000000 in
theorem b_takes : Bod Btakes [(84, P_paramsOf, Q_paramsOf), (83, P_typeOfParam, Q_typeOfParam), (73, P_widens, Q_widens)] P_takes Q_takes := by sorry
theorem m_takes (l : Launch) : RMet l 2 101 P_takes Q_takes := by sorry
set_option maxRecDepth 100000 in
theorem e_takes (l : Launch) : RMetE l 2 101 P_takes Q_takes := by sorry
def P_isCloser : RP := fun As σ => match As with
  | [.int m, .int o] => PJ σ ∧ (0 ≤ m ∧ (m < (gI σ 36) ∨ m = 10 ∨ m = 11)) ∧ (0 ≤ o ∧ (o < (gI σ 36) ∨ o = 10 ∨ o = 11)) ∧ ∃ n : Int32, (0 ≤ n ∧ n ≤ 600) ∧ ((m = 10 ∧ n = 1) ∨ (m = 11 ∧ n = 0) ∨ (m < 10 ∧ n = aI σ 39 m.toNatClampNeg)) ∧ ((o = 10 ∧ n = 1) ∨ (o = 11 ∧ n = 0) ∨ (o < 10 ∧ n = aI σ 39 o.toNatClampNeg))
  | _ => False
def Q_isCloser : RQ := fun As σ w τ => match As with
  | [.int m, .int o] => ∃ r : Int32, w = some (.int r) ∧ (r = 0 ∨ r = 1) ∧ τ = σ
  | _ => False
set_option maxRecDepth 100000 in
set_option maxHeartbeats 4000000 in
theorem b_isCloser : Bod BisCloser [(84, P_paramsOf, Q_paramsOf), (83, P_typeOfParam, Q_typeOfParam), (73, P_widens, Q_widens)] P_isCloser Q_isCloser := by sorry
theorem m_isCloser (l : Launch) : RMet l 2 102 P_isCloser Q_isCloser := by sorry
set_option maxRecDepth 100000 in
theorem e_isCloser (l : Launch) : RMetE l 2 102 P_isCloser Q_isCloser := by sorry
def iFe (k : Nat) : Bool := k == 66 || k == 67 || k == 69 || k == 74
def aFe (k : Nat) : Bool := (70 ≤ k && k ≤ 73) || (75 ≤ k && k ≤ 78) || (80 ≤ k && k ≤ 84)
def lFe (k : Nat) : Bool := k == 72 || k == 79 || k == 85
def Fe (σ τ : RS) : Prop := (∀ k, iFe k = false → gI τ k = gI σ k) ∧ (∀ k, gL τ k = gL σ k) ∧ (∀ k, aFe k = false → aI τ k = aI σ k) ∧ ∀ k, lFe k = false → aL τ k = aL σ k
theorem Fe.rf {σ : RS} : Fe σ σ := by sorry
theorem Fe.tr {σ τ υ : RS} (h1 : Fe σ τ) (h2 : Fe τ υ) : Fe σ υ := by sorry
theorem Fe.i {σ τ : RS} (h : Fe σ τ) {k : Nat} {v : Int32} (hk : iFe k = true) : Fe σ (sI τ k v) := by sorry
theorem Fe.a {σ τ : RS} (h : Fe σ τ) {k : Nat} {f : Nat → Int32} (hk : aFe k = true) : Fe σ (sA τ k f) := by sorry
theorem Fe.m {σ τ : RS} (h : Fe σ τ) {k : Nat} {f : Nat → Int64} (hk : lFe k = true) : Fe σ (sM τ k f) := by sorry
def iFj (k : Nat) : Bool := k == 66 || k == 67 || k == 69 || k == 74 || k == 89 || k == 91
def aFj (k : Nat) : Bool := k == 59 || (70 ≤ k && k ≤ 73) || (75 ≤ k && k ≤ 78) || (80 ≤ k && k ≤ 84) || k == 86 || k == 88 || k == 90
def lFj (k : Nat) : Bool := k == 72 || k == 79 || k == 85 || k == 87
def Fj (σ τ : RS) : Prop := (∀ k, iFj k = false → gI τ k = gI σ k) ∧ (∀ k, gL τ k = gL σ k) ∧ (∀ k, aFj k = false → aI τ k = aI σ k) ∧ ∀ k, lFj k = false → aL τ k = aL σ k
theorem Fj.rf {σ : RS} : Fj σ σ := by sorry
theorem Fj.tr {σ τ υ : RS} (h1 : Fj σ τ) (h2 : Fj τ υ) : Fj σ υ := by sorry
theorem Fj.i {σ τ : RS} (h : Fj σ τ) {k : Nat} {v : Int32} (hk : iFj k = true) : Fj σ (sI τ k v) := by sorry
theorem Fj.a {σ τ : RS} (h : Fj σ τ) {k : Nat} {f : Nat → Int32} (hk : aFj k = true) : Fj σ (sA τ k f) := by sorry
theorem Fj.m {σ τ : RS} (h : Fj σ τ) {k : Nat} {f : Nat → Int64} (hk : lFj k = true) : Fj σ (sM τ k f) := by sorry
theorem Fe.j {σ τ : RS} (h : Fe σ τ) : Fj σ τ := by sorry
/-- one value more on the judge's pile, of the code c -/
def ly (σ : RS) (c ty su : Int32) (v : Int64) : RS := sI (sM (sA (sA (sA (sA (sM (sA (sA (sI (sA (sM (sA (sA (σ) 70 (upd (aI σ 70) (gI σ 69).toNatClampNeg ty)) 71 (upd (aI σ 71) (gI σ 69).toNatClampNeg su)) 72 (vp_updL (aL σ 72) (gI σ 69).toNatClampNeg v)) 73 (upd (aI σ 73) (gI σ 69).toNatClampNeg (aI σ 23 c.toNatClampNeg))) 69 (gI σ 69 + 1)) 81 (upd (aI σ 81) c.toNatClampNeg ty)) 84 (upd (aI σ 84) c.toNatClampNeg su)) 85 (vp_updL (aL σ 85) c.toNatClampNeg v)) 75 (upd (aI σ 75) (gI σ 74).toNatClampNeg (aI σ 23 c.toNatClampNeg))) 76 (upd (aI σ 76) (gI σ 74).toNatClampNeg (aI σ 24 c.toNatClampNeg))) 77 (upd (aI σ 77) (gI σ 74).toNatClampNeg ty)) 78 (upd (aI σ 78) (gI σ 74).toNatClampNeg su)) 79 (vp_updL (aL σ 79) (gI σ 74).toNatClampNeg v)) 74 (gI σ 74 + 1)
theorem gI_ly {σ : RS} {c ty su : Int32} {v : Int64} {k : Nat} : gI (ly σ c ty su v) k = match Nat.beq k 74 with
  | true => gI σ 74 + 1
  | false => match Nat.beq k 69 with
    | true => gI σ 69 + 1
    | false => gI σ k := rfl
theorem ly70 {σ : RS} {c ty su : Int32} {v : Int64} : aI (ly σ c ty su v) 70 = upd (aI σ 70) (nT (gI σ 69)) ty := rfl
theorem ly71 {σ : RS} {c ty su : Int32} {v : Int64} : aI (ly σ c ty su v) 71 = upd (aI σ 71) (nT (gI σ 69)) su := rfl
theorem ly73 {σ : RS} {c ty su : Int32} {v : Int64} : aI (ly σ c ty su v) 73 = upd (aI σ 73) (nT (gI σ 69)) (aI σ 23 (nT c)) := rfl
theorem ly81 {σ : RS} {c ty su : Int32} {v : Int64} : aI (ly σ c ty su v) 81 = upd (aI σ 81) (nT c) ty := rfl
theorem ly80 {σ : RS} {c ty su : Int32} {v : Int64} : aI (ly σ c ty su v) 80 = aI σ 80 := rfl
theorem ly82 {σ : RS} {c ty su : Int32} {v : Int64} : aI (ly σ c ty su v) 82 = aI σ 82 := rfl
theorem ly83 {σ : RS} {c ty su : Int32} {v : Int64} : aI (ly σ c ty su v) 83 = aI σ 83 := rfl
theorem Fe.lyf {σ : RS} {c ty su : Int32} {v : Int64} : Fe σ (ly σ c ty su v) := by sorry
def P_lie : RP := fun As σ => match As with
  | [.int c, .int ty, .int su, .long v] => (0 ≤ (gI σ 69) ∧ (gI σ 69) < 700) ∧ (0 ≤ (gI σ 74) ∧ (gI σ 74) < 2000) ∧ (0 ≤ c ∧ c < 4000) ∧ (su = 0 ∨ su = 1)
  | _ => False
def Q_lie : RQ := fun As σ w τ => match As with
  | [.int c, .int ty, .int su, .long v] => w = none ∧ τ = ly σ c ty su v
  | _ => False
set_option maxRecDepth 100000 in
set_option maxHeartbeats 4000000 in
theorem b_lie : Bod Blie [] P_lie Q_lie := by sorry
theorem m_lie (l : Launch) : RMet l 1 77 P_lie Q_lie := by sorry
set_option maxRecDepth 100000 in
theorem e_lie (l : Launch) : RMetE l 1 77 P_lie Q_lie := by sorry
def P_none : RP := fun As σ => match As with
  | [.int c] => (0 ≤ (gI σ 69) ∧ (gI σ 69) < 700) ∧ (0 ≤ (gI σ 74) ∧ (gI σ 74) < 2000) ∧ (0 ≤ c ∧ c < 4000)
  | _ => False
def Q_none : RQ := fun As σ w τ => match As with
  | [.int c] => w = none ∧ τ = ly σ c (-2) 0 0
  | _ => False
set_option maxRecDepth 100000 in
set_option maxHeartbeats 4000000 in
theorem b_none : Bod Bnone [(77, P_lie, Q_lie)] P_none Q_none := by sorry
theorem m_none (l : Launch) : RMet l 2 78 P_none Q_none := by sorry
set_option maxRecDepth 100000 in
theorem e_none (l : Launch) : RMetE l 2 78 P_none Q_none := by sorry
theorem PJ.fj {σ τ : RS} (h : PJ σ) (hf : Fj σ τ) : PJ τ := by sorry
theorem PJ.v {σ : RS} (h : PJ σ) : 0 ≤ gI σ 42 ∧ gI σ 42 ≤ 60 := by sorry
theorem PJ.m {σ : RS} (h : PJ σ) : 0 ≤ gI σ 36 ∧ gI σ 36 ≤ 10 := by sorry
theorem PJ.ty {σ : RS} (h : PJ σ) (v : Nat) : 0 ≤ aI σ 44 v ∧ aI σ 44 v ≤ 4 := by sorry
theorem PJ.mt {σ : RS} (h : PJ σ) (m : Nat) : 0 ≤ aI σ 38 m := by sorry
def iFb (k : Nat) : Bool := k == 66 || k == 67 || k == 69
def aFb (k : Nat) : Bool := k == 80 || k == 82 || k == 83
def lFb (k : Nat) : Bool := false
def Fb (σ τ : RS) : Prop := (∀ k, iFb k = false → gI τ k = gI σ k) ∧ (∀ k, gL τ k = gL σ k) ∧ (∀ k, aFb k = false → aI τ k = aI σ k) ∧ ∀ k, lFb k = false → aL τ k = aL σ k
theorem Fb.rf {σ : RS} : Fb σ σ := by sorry
theorem Fb.tr {σ τ υ : RS} (h1 : Fb σ τ) (h2 : Fb τ υ) : Fb σ υ := by sorry
theorem Fb.i {σ τ : RS} (h : Fb σ τ) {k : Nat} {v : Int32} (hk : iFb k = true) : Fb σ (sI τ k v) := by sorry
theorem Fb.a {σ τ : RS} (h : Fb σ τ) {k : Nat} {f : Nat → Int32} (hk : aFb k = true) : Fb σ (sA τ k f) := by sorry
theorem Fb.m {σ τ : RS} (h : Fb σ τ) {k : Nat} {f : Nat → Int64} (hk : lFb k = true) : Fb σ (sM τ k f) := by sorry
theorem Fb.e {σ τ : RS} (h : Fb σ τ) : Fe σ τ := by sorry
/-- what holds of the judge's pile -/
def LI (σ : RS) : Prop := (0 ≤ gI σ 69 ∧ gI σ 69 ≤ 600) ∧ (0 ≤ gI σ 74 ∧ gI σ 74 ≤ 2000) ∧ ∀ i, i < nT (gI σ 69) → (0 ≤ aI σ 73 i ∧ aI σ 73 i ≤ 500) ∧ (aI σ 71 i = 0 ∨ aI σ 71 i = 1) ∧ (gI σ 66 = 0 → 0 ≤ aI σ 70 i)
theorem LI.at {σ : RS} (h : LI σ) {x : Int32} (h0 : 0 ≤ x) (hx : x < gI σ 69) : (0 ≤ aI σ 73 x.toNatClampNeg ∧ aI σ 73 x.toNatClampNeg ≤ 500) ∧ (aI σ 71 x.toNatClampNeg = 0 ∨ aI σ 71 x.toNatClampNeg = 1) ∧ (gI σ 66 = 0 → 0 ≤ aI σ 70 x.toNatClampNeg) := h.2.2 (nT x) (nT_lt h0 hx)
/-- a code's numbers -/
def CO (σ : RS) (c : Int32) : Prop := (0 ≤ c ∧ c < 4000) ∧ (0 ≤ aI σ 22 c.toNatClampNeg ∧ aI σ 22 c.toNatClampNeg ≤ 500) ∧ (0 ≤ aI σ 23 c.toNatClampNeg ∧ aI σ 23 c.toNatClampNeg ≤ 500)
/-- a code of an exp has room among the exps -/
def CX (σ : RS) (c : Int32) : Prop := CO σ c ∧ gI σ 74 < 2000
/-- ahead of a lie: n values are off the pile, an error more may stand, the code's own numbers are set -/
def XB (σ X : RS) (c n : Int32) : Prop := Fb σ X ∧ gI X 69 = gI σ 69 - n ∧ (∀ i, i ≠ c.toNatClampNeg → aI X 82 i = aI σ 82 i ∧ aI X 83 i = aI σ 83 i) ∧ (∀ t, t ≠ (aI σ 22 c.toNatClampNeg).toNatClampNeg → aI X 80 t = aI σ 80 t) ∧ (gI X 66 = 0 → gI σ 66 = 0)
/-- none of the n values on top is void -/
def VN (σ : RS) (n : Int32) : Prop := ∀ i, nT (gI σ 69 - n) ≤ i → i < nT (gI σ 69) → ¬ aI σ 70 i = 5
theorem VN0 {σ : RS} {n : Int32} (h : n = 0) : VN σ n := by sorry
theorem VN1 {σ : RS} (h0 : 1 ≤ gI σ 69) (h : ¬ aI σ 70 (gI σ 69 - 1).toNatClampNeg = 5) : VN σ 1 := by sorry
theorem VN2 {σ : RS} (h0 : 2 ≤ gI σ 69) (ha : ¬ aI σ 70 (gI σ 69 - 2).toNatClampNeg = 5) (hb : ¬ aI σ 70 (gI σ 69 - 2 + 1).toNatClampNeg = 5) : VN σ 2 := by sorry
theorem VN3 {σ : RS} (h0 : 3 ≤ gI σ 69) (h9 : gI σ 69 ≤ 600) (ha : ¬ aI σ 70 (gI σ 69 - 3).toNatClampNeg = 5) (hb : ¬ aI σ 70 (gI σ 69 - 3 + 1).toNatClampNeg = 5) (hc : ¬ aI σ 70 (gI σ 69 - 3 + 2).toNatClampNeg = 5) : VN σ 3 := by sorry
/-- what the judge does at a code of an exp that takes n values: F, where no error stands -/
def LV (σ τ : RS) (c n : Int32) (F : Int32 → Prop) : Prop := Fe σ τ ∧ (gI τ 69 = gI σ 69 - n + 1 ∧ gI τ 74 = gI σ 74 + 1) ∧ (∀ i, i < nT (gI σ 69 - n) → aI τ 70 i = aI σ 70 i ∧ aI τ 71 i = aI σ 71 i ∧ aI τ 73 i = aI σ 73 i) ∧
  (aI τ 73 (nT (gI σ 69 - n)) = aI σ 23 c.toNatClampNeg ∧ (aI τ 71 (nT (gI σ 69 - n)) = 0 ∨ aI τ 71 (nT (gI σ 69 - n)) = 1)) ∧
  (∀ i, i ≠ c.toNatClampNeg → aI τ 81 i = aI σ 81 i ∧ aI τ 82 i = aI σ 82 i ∧ aI τ 83 i = aI σ 83 i) ∧ (∀ t, t ≠ (aI σ 22 c.toNatClampNeg).toNatClampNeg → aI τ 80 t = aI σ 80 t) ∧
  (gI τ 66 = 0 → gI σ 66 = 0 ∧ 0 ≤ aI τ 70 (nT (gI σ 69 - n)) ∧ aI τ 81 c.toNatClampNeg = aI τ 70 (nT (gI σ 69 - n)) ∧ F (aI τ 70 (nT (gI σ 69 - n))))
theorem LV.of {σ X : RS} {c n ty su : Int32} {v : Int64} {F : Int32 → Prop} (h : XB σ X c n) (hsu : su = 0 ∨ su = 1) (hF : gI X 66 = 0 → 0 ≤ ty ∧ F ty) : LV σ (ly X c ty su v) c n F := by sorry
def P_literal : RP := fun As σ => match As with
  | [.int c, .int t] => (LI σ ∧ CX σ c) ∧ t = aI σ 22 c.toNatClampNeg ∧ (0 ≤ aI σ 20 c.toNatClampNeg ∧ aI σ 20 c.toNatClampNeg ≤ 4)
  | _ => False
def Q_literal : RQ := fun As σ w τ => match As with
  | [.int c, .int t] => w = none ∧ LV σ τ c 0 (fun ty => ¬ ty = 5 ∧ aI τ 80 = aI σ 80)
  | _ => False
set_option maxRecDepth 100000 in
set_option maxHeartbeats 4000000 in
theorem b_literal : Bod Bliteral [(70, P_err, Q_err), (77, P_lie, Q_lie), (78, P_none, Q_none)] P_literal Q_literal := by sorry
theorem m_literal (l : Launch) : RMet l 3 89 P_literal Q_literal := by sorry
set_option maxRecDepth 100000 in
theorem e_literal (l : Launch) : RMetE l 3 89 P_literal Q_literal := by sorry
def P_step : RP := fun As σ => match As with
  | [.int c, .int t] => (LI σ ∧ CX σ c) ∧ PJ σ ∧ t = aI σ 22 c.toNatClampNeg
  | _ => False
def Q_step : RQ := fun As σ w τ => match As with
  | [.int c, .int t] => w = none ∧ LV σ τ c 0 (fun ty => ¬ ty = 5 ∧ (0 ≤ aI τ 83 c.toNatClampNeg ∧ aI τ 83 c.toNatClampNeg < gI σ 42) ∧ (0 ≤ aI τ 80 (aI σ 22 c.toNatClampNeg).toNatClampNeg ∧ aI τ 80 (aI σ 22 c.toNatClampNeg).toNatClampNeg < gI σ 42))
  | _ => False
set_option maxRecDepth 100000 in
set_option maxHeartbeats 4000000 in
theorem b_step : Bod Bstep [(70, P_err, Q_err), (71, P_find, Q_find), (77, P_lie, Q_lie), (78, P_none, Q_none)] P_step Q_step := by sorry
theorem m_step (l : Launch) : RMet l 3 90 P_step Q_step := by sorry
set_option maxRecDepth 100000 in
theorem e_step (l : Launch) : RMetE l 3 90 P_step Q_step := by sorry
def P_unary : RP := fun As σ => match As with
  | [.int c] => (LI σ ∧ CX σ c) ∧ 1 ≤ (gI σ 69)
  | _ => False
def Q_unary : RQ := fun As σ w τ => match As with
  | [.int c] => w = none ∧ LV σ τ c 1 (fun ty => VN σ 1 ∧ ¬ ty = 5 ∧ aI τ 80 = aI σ 80)
  | _ => False
set_option maxRecDepth 100000 in
set_option maxHeartbeats 4000000 in
theorem b_unary : Bod Bunary [(76, P_cast, Q_cast), (77, P_lie, Q_lie), (80, P_need, Q_need), (78, P_none, Q_none), (81, P_wide, Q_wide)] P_unary Q_unary := by sorry
theorem m_unary (l : Launch) : RMet l 3 91 P_unary Q_unary := by sorry
set_option maxRecDepth 100000 in
theorem e_unary (l : Launch) : RMetE l 3 91 P_unary Q_unary := by sorry
def P_casts : RP := fun As σ => match As with
  | [.int c] => (LI σ ∧ CX σ c) ∧ 1 ≤ (gI σ 69) ∧ (0 ≤ aI σ 20 c.toNatClampNeg ∧ aI σ 20 c.toNatClampNeg ≤ 4)
  | _ => False
def Q_casts : RQ := fun As σ w τ => match As with
  | [.int c] => w = none ∧ LV σ τ c 1 (fun ty => VN σ 1 ∧ ¬ ty = 5 ∧ aI τ 80 = aI σ 80)
  | _ => False
set_option maxRecDepth 100000 in
set_option maxHeartbeats 4000000 in
theorem b_casts : Bod Bcasts [(76, P_cast, Q_cast), (79, P_isBad, Q_isBad), (77, P_lie, Q_lie), (80, P_need, Q_need), (78, P_none, Q_none)] P_casts Q_casts := by sorry
theorem m_casts (l : Launch) : RMet l 3 92 P_casts Q_casts := by sorry
set_option maxRecDepth 100000 in
theorem e_casts (l : Launch) : RMetE l 3 92 P_casts Q_casts := by sorry
theorem XB.w82 {σ X : RS} {c n v : Int32} (h : XB σ X c n) : XB σ (sA X 82 (upd (aI X 82) c.toNatClampNeg v)) c n := by sorry
theorem XB.w83 {σ X : RS} {c n v : Int32} (h : XB σ X c n) : XB σ (sA X 83 (upd (aI X 83) c.toNatClampNeg v)) c n := by sorry
theorem XB.w80 {σ X : RS} {c n v t : Int32} (h : XB σ X c n) (ht : t = aI σ 22 c.toNatClampNeg) : XB σ (sA X 80 (upd (aI X 80) t.toNatClampNeg v)) c n := by sorry
theorem XB.er {σ X : RS} {c n : Int32} (h : XB σ X c n) (a b : Int32) (ha : a = 0 → gI X 66 = 0) : XB σ (sI (sI X 66 a) 67 b) c n := by sorry
def P_binary : RP := fun As σ => match As with
  | [.int c] => (LI σ ∧ CX σ c) ∧ 2 ≤ (gI σ 69)
  | _ => False
def Q_binary : RQ := fun As σ w τ => match As with
  | [.int c] => w = none ∧ LV σ τ c 2 (fun ty => VN σ 2 ∧ ¬ ty = 5 ∧ aI τ 80 = aI σ 80)
  | _ => False
set_option maxRecDepth 100000 in
set_option maxHeartbeats 4000000 in
theorem b_binary : Bod Bbinary [(79, P_isBad, Q_isBad), (94, P_isBits, Q_isBits), (93, P_isShift, Q_isShift), (77, P_lie, Q_lie), (80, P_need, Q_need), (78, P_none, Q_none), (96, P_pair, Q_pair), (97, P_reckon, Q_reckon), (81, P_wide, Q_wide)] P_binary Q_binary := by sorry
theorem m_binary (l : Launch) : RMet l 4 95 P_binary Q_binary := by sorry
set_option maxRecDepth 100000 in
theorem e_binary (l : Launch) : RMetE l 4 95 P_binary Q_binary := by sorry
def P_choice : RP := fun As σ => match As with
  | [.int c] => (LI σ ∧ CX σ c) ∧ 3 ≤ (gI σ 69)
  | _ => False
def Q_choice : RQ := fun As σ w τ => match As with
  | [.int c] => w = none ∧ LV σ τ c 3 (fun ty => VN σ 3 ∧ ¬ ty = 5 ∧ aI τ 80 = aI σ 80)
  | _ => False
set_option maxRecDepth 100000 in
set_option maxHeartbeats 4000000 in
theorem b_choice : Bod Bchoice [(76, P_cast, Q_cast), (70, P_err, Q_err), (79, P_isBad, Q_isBad), (99, P_isHeld, Q_isHeld), (77, P_lie, Q_lie), (80, P_need, Q_need), (78, P_none, Q_none)] P_choice Q_choice := by sorry
theorem m_choice (l : Launch) : RMet l 3 98 P_choice Q_choice := by sorry
set_option maxRecDepth 100000 in
theorem e_choice (l : Launch) : RMetE l 3 98 P_choice Q_choice := by sorry
def P_assign : RP := fun As σ => match As with
  | [.int c, .int t] => (LI σ ∧ CX σ c) ∧ PJ σ ∧ 1 ≤ (gI σ 69) ∧ t = aI σ 22 c.toNatClampNeg
  | _ => False
def Q_assign : RQ := fun As σ w τ => match As with
  | [.int c, .int t] => w = none ∧ LV σ τ c 1 (fun ty => VN σ 1 ∧ ¬ ty = 5 ∧ (0 ≤ aI τ 83 c.toNatClampNeg ∧ aI τ 83 c.toNatClampNeg < gI σ 42) ∧ (0 ≤ aI τ 80 (aI σ 22 c.toNatClampNeg).toNatClampNeg ∧ aI τ 80 (aI σ 22 c.toNatClampNeg).toNatClampNeg < gI σ 42))
  | _ => False
set_option maxRecDepth 100000 in
set_option maxHeartbeats 4000000 in
theorem b_assign : Bod Bassign [(70, P_err, Q_err), (71, P_find, Q_find), (75, P_fits, Q_fits), (79, P_isBad, Q_isBad), (94, P_isBits, Q_isBits), (93, P_isShift, Q_isShift), (77, P_lie, Q_lie), (80, P_need, Q_need), (78, P_none, Q_none), (96, P_pair, Q_pair), (81, P_wide, Q_wide)] P_assign Q_assign := by sorry
theorem m_assign (l : Launch) : RMet l 4 100 P_assign Q_assign := by sorry
set_option maxRecDepth 100000 in
theorem e_assign (l : Launch) : RMetE l 4 100 P_assign Q_assign := by sorry
/-- m is a method that takes n -/
def MV (σ : RS) (m n : Int32) : Prop := (0 ≤ m ∧ (m < gI σ 36 ∨ m = 10 ∨ m = 11)) ∧ ((m = 10 ∧ n = 1) ∨ (m = 11 ∧ n = 0) ∨ (m < 10 ∧ n = aI σ 39 m.toNatClampNeg))
def RO (σ : RS) (m ty : Int32) : Prop := (m = 10 ∧ ty = 5) ∨ (m = 11 ∧ ty = 3) ∨ (m < 10 ∧ ty = aI σ 38 m.toNatClampNeg)
theorem nT_addn {x y : Int32} (hx : 0 ≤ x) (hy : 0 ≤ y) (hx2 : x ≤ 100000) (hy2 : y ≤ 100000) : nT (x + y) = nT x + nT y := by sorry
def P_call : RP := fun As σ => match As with
  | [.int c, .int t] => (LI σ ∧ CX σ c) ∧ PJ σ ∧ t = aI σ 22 c.toNatClampNeg ∧ (0 ≤ aI σ 20 c.toNatClampNeg ∧ aI σ 20 c.toNatClampNeg ≤ (gI σ 69))
  | _ => False
def Q_call : RQ := fun As σ w τ => match As with
  | [.int c, .int t] => w = none ∧ LV σ τ c (aI σ 20 c.toNatClampNeg) (fun ty => VN σ (aI σ 20 c.toNatClampNeg) ∧ MV σ (aI τ 83 c.toNatClampNeg) (aI σ 20 c.toNatClampNeg) ∧ RO σ (aI τ 83 c.toNatClampNeg) ty)
  | _ => False
set_option maxRecDepth 100000 in
set_option maxHeartbeats 4000000 in
theorem b_call : Bod Bcall [(70, P_err, Q_err), (102, P_isCloser, Q_isCloser), (103, P_isMethod, Q_isMethod), (86, P_isNamed, Q_isNamed), (77, P_lie, Q_lie), (78, P_none, Q_none), (85, P_resultOf, Q_resultOf), (101, P_takes, Q_takes)] P_call Q_call := by sorry
theorem m_call (l : Launch) : RMet l 3 104 P_call Q_call := by sorry
set_option maxRecDepth 100000 in
theorem e_call (l : Launch) : RMetE l 3 104 P_call Q_call := by sorry
def JQ (σ τ : RS) (c : Int32) : Prop := ((aI σ 19 c.toNatClampNeg) = 1 ∧ LV σ τ c 0 (fun ty => ¬ ty = 5 ∧ aI τ 80 = aI σ 80)) ∨
  (((aI σ 19 c.toNatClampNeg) = 2 ∨ (aI σ 19 c.toNatClampNeg) = 3 ∨ (aI σ 19 c.toNatClampNeg) = 4) ∧ LV σ τ c 0 (fun ty => ¬ ty = 5 ∧ (0 ≤ aI τ 83 c.toNatClampNeg ∧ aI τ 83 c.toNatClampNeg < gI σ 42) ∧ (0 ≤ aI τ 80 (aI σ 22 c.toNatClampNeg).toNatClampNeg ∧ aI τ 80 (aI σ 22 c.toNatClampNeg).toNatClampNeg < gI σ 42))) ∨
  (((aI σ 19 c.toNatClampNeg) = 5 ∨ (aI σ 19 c.toNatClampNeg) = 6) ∧ LV σ τ c 1 (fun ty => VN σ 1 ∧ ¬ ty = 5 ∧ aI τ 80 = aI σ 80)) ∨
  (((aI σ 19 c.toNatClampNeg) = 7 ∨ (aI σ 19 c.toNatClampNeg) = 9 ∨ (aI σ 19 c.toNatClampNeg) = 11) ∧ LV σ τ c 2 (fun ty => VN σ 2 ∧ ¬ ty = 5 ∧ aI τ 80 = aI σ 80)) ∨
  ((aI σ 19 c.toNatClampNeg) = 14 ∧ LV σ τ c 3 (fun ty => VN σ 3 ∧ ¬ ty = 5 ∧ aI τ 80 = aI σ 80)) ∨
  ((aI σ 19 c.toNatClampNeg) = 15 ∧ LV σ τ c 1 (fun ty => ty = aI σ 70 (nT (gI σ 69 - 1)) ∧ aI τ 80 = aI σ 80)) ∨
  ((aI σ 19 c.toNatClampNeg) = 17 ∧ LV σ τ c 1 (fun ty => VN σ 1 ∧ ¬ ty = 5 ∧ (0 ≤ aI τ 83 c.toNatClampNeg ∧ aI τ 83 c.toNatClampNeg < gI σ 42) ∧ (0 ≤ aI τ 80 (aI σ 22 c.toNatClampNeg).toNatClampNeg ∧ aI τ 80 (aI σ 22 c.toNatClampNeg).toNatClampNeg < gI σ 42))) ∨
  ((aI σ 19 c.toNatClampNeg) = 18 ∧ LV σ τ c (aI σ 20 c.toNatClampNeg) (fun ty => VN σ (aI σ 20 c.toNatClampNeg) ∧ MV σ (aI τ 83 c.toNatClampNeg) (aI σ 20 c.toNatClampNeg) ∧ RO σ (aI τ 83 c.toNatClampNeg) ty)) ∨
  (((aI σ 19 c.toNatClampNeg) = 8 ∨ (aI σ 19 c.toNatClampNeg) = 10 ∨ (aI σ 19 c.toNatClampNeg) = 12 ∨ (aI σ 19 c.toNatClampNeg) = 13 ∨ (aI σ 19 c.toNatClampNeg) = 16) ∧ τ = σ)
/-- a code of an exp has its values on the judge's pile -/
def JP (σ : RS) (c : Int32) : Prop := (1 ≤ (aI σ 19 c.toNatClampNeg) ∧ (aI σ 19 c.toNatClampNeg) ≤ 18) ∧ (((aI σ 19 c.toNatClampNeg) = 1 ∨ (aI σ 19 c.toNatClampNeg) = 6) → 0 ≤ (aI σ 20 c.toNatClampNeg) ∧ (aI σ 20 c.toNatClampNeg) ≤ 4) ∧ (((aI σ 19 c.toNatClampNeg) = 5 ∨ (aI σ 19 c.toNatClampNeg) = 6 ∨ (aI σ 19 c.toNatClampNeg) = 15 ∨ (aI σ 19 c.toNatClampNeg) = 17) → 1 ≤ gI σ 69) ∧ (((aI σ 19 c.toNatClampNeg) = 7 ∨ (aI σ 19 c.toNatClampNeg) = 9 ∨ (aI σ 19 c.toNatClampNeg) = 11) → 2 ≤ gI σ 69) ∧ ((aI σ 19 c.toNatClampNeg) = 14 → 3 ≤ gI σ 69) ∧ ((aI σ 19 c.toNatClampNeg) = 18 → 0 ≤ (aI σ 20 c.toNatClampNeg) ∧ (aI σ 20 c.toNatClampNeg) ≤ gI σ 69)
def P_judgeExp : RP := fun As σ => match As with
  | [.int c] => (LI σ ∧ CX σ c) ∧ PJ σ ∧ JP σ c
  | _ => False
def Q_judgeExp : RQ := fun As σ w τ => match As with
  | [.int c] => w = none ∧ JQ σ τ c
  | _ => False
set_option maxRecDepth 100000 in
set_option maxHeartbeats 4000000 in
theorem b_judgeExp : Bod BjudgeExp [(100, P_assign, Q_assign), (95, P_binary, Q_binary), (104, P_call, Q_call), (92, P_casts, Q_casts), (98, P_choice, Q_choice), (70, P_err, Q_err), (71, P_find, Q_find), (77, P_lie, Q_lie), (89, P_literal, Q_literal), (80, P_need, Q_need), (78, P_none, Q_none), (90, P_step, Q_step), (91, P_unary, Q_unary)] P_judgeExp Q_judgeExp := by sorry
theorem m_judgeExp (l : Launch) : RMet l 5 88 P_judgeExp Q_judgeExp := by sorry
set_option maxRecDepth 100000 in
theorem e_judgeExp (l : Launch) : RMetE l 5 88 P_judgeExp Q_judgeExp := by sorry
def iFk (k : Nat) : Bool := k == 66 || k == 67 || k == 69
def aFk (k : Nat) : Bool := k == 84 || k == 86
def lFk (k : Nat) : Bool := k == 85 || k == 87
def Fk (σ τ : RS) : Prop := (∀ k, iFk k = false → gI τ k = gI σ k) ∧ (∀ k, gL τ k = gL σ k) ∧ (∀ k, aFk k = false → aI τ k = aI σ k) ∧ ∀ k, lFk k = false → aL τ k = aL σ k
theorem Fk.rf {σ : RS} : Fk σ σ := by sorry
theorem Fk.tr {σ τ υ : RS} (h1 : Fk σ τ) (h2 : Fk τ υ) : Fk σ υ := by sorry
theorem Fk.i {σ τ : RS} (h : Fk σ τ) {k : Nat} {v : Int32} (hk : iFk k = true) : Fk σ (sI τ k v) := by sorry
theorem Fk.a {σ τ : RS} (h : Fk σ τ) {k : Nat} {f : Nat → Int32} (hk : aFk k = true) : Fk σ (sA τ k f) := by sorry
theorem Fk.m {σ τ : RS} (h : Fk σ τ) {k : Nat} {f : Nat → Int64} (hk : lFk k = true) : Fk σ (sM τ k f) := by sorry
theorem Fk.j {σ τ : RS} (h : Fk σ τ) : Fj σ τ := by sorry
/-- a code of a statement: n values off the judge's pile -/
def JT (σ τ : RS) (n : Int32) (F : Prop) : Prop := Fk σ τ ∧ gI τ 69 = gI σ 69 - n ∧ (gI τ 66 = 0 → gI σ 66 = 0 ∧ F)
def PL (σ τ : RS) : Prop := aI τ 59 = aI σ 59 ∧ aI τ 80 = aI σ 80 ∧ aI τ 88 = aI σ 88 ∧ aI τ 90 = aI σ 90 ∧ gI τ 89 = gI σ 89 ∧ gI τ 91 = gI σ 91
def JS (σ τ : RS) (c n : Int32) (F : Prop) : Prop := Fj σ τ ∧ (gI τ 69 = gI σ 69 - n ∧ gI τ 74 = gI σ 74) ∧ (aI τ 70 = aI σ 70 ∧ aI τ 71 = aI σ 71 ∧ aI τ 73 = aI σ 73 ∧ aI τ 81 = aI σ 81 ∧ aI τ 83 = aI σ 83) ∧ (∀ i, i ≠ c.toNatClampNeg → aI τ 82 i = aI σ 82 i) ∧ (gI τ 66 = 0 → gI σ 66 = 0 ∧ F)
theorem JT.s {σ τ : RS} {c n : Int32} {F : Prop} (h : JT σ τ n F) : JS σ τ c n F ∧ PL σ τ := by sorry
def P_keep : RP := fun As σ => match As with
  | [.int c] => (0 ≤ c ∧ c < 4000) ∧ (0 ≤ (gI σ 69) ∧ (gI σ 69) < 700)
  | _ => False
def Q_keep : RQ := fun As σ w τ => match As with
  | [.int c] => w = none ∧ Fk σ τ ∧ gI τ 66 = gI σ 66 ∧ gI τ 69 = gI σ 69
  | _ => False
set_option maxRecDepth 100000 in
set_option maxHeartbeats 4000000 in
theorem b_keep : Bod Bkeep [] P_keep Q_keep := by sorry
theorem m_keep (l : Launch) : RMet l 1 106 P_keep Q_keep := by sorry
set_option maxRecDepth 100000 in
theorem e_keep (l : Launch) : RMetE l 1 106 P_keep Q_keep := by sorry
def P_declared : RP := fun As σ => match As with
  | [.int c, .int v] => LI σ ∧ (0 ≤ c ∧ c < 4000) ∧ (0 ≤ v ∧ v < 60) ∧ (¬ (aI σ 21 c.toNatClampNeg) = 0 → 1 ≤ (gI σ 69))
  | _ => False
def Q_declared : RQ := fun As σ w τ => match As with
  | [.int c, .int v] => w = none ∧ (((aI σ 21 c.toNatClampNeg) = 0 ∧ JT σ τ 0 True) ∨ (¬ (aI σ 21 c.toNatClampNeg) = 0 ∧ JT σ τ 1 (VN σ 1)))
  | _ => False
set_option maxRecDepth 100000 in
set_option maxHeartbeats 4000000 in
theorem b_declared : Bod Bdeclared [(76, P_cast, Q_cast), (70, P_err, Q_err), (75, P_fits, Q_fits), (79, P_isBad, Q_isBad)] P_declared Q_declared := by sorry
theorem m_declared (l : Launch) : RMet l 3 107 P_declared Q_declared := by sorry
set_option maxRecDepth 100000 in
theorem e_declared (l : Launch) : RMetE l 3 107 P_declared Q_declared := by sorry
def P_cased : RP := fun As σ => match As with
  | [.int c, .int k] => LI σ ∧ (0 ≤ c ∧ c < 4000) ∧ 1 ≤ (gI σ 69) ∧ (0 ≤ k ∧ k < 600) ∧ 0 ≤ aI σ 51 k.toNatClampNeg ∧ ((gI σ 66) = 0 → 0 ≤ aI σ 88 k.toNatClampNeg)
  | _ => False
def Q_cased : RQ := fun As σ w τ => match As with
  | [.int c, .int k] => w = none ∧ JT σ τ 1 (VN σ 1)
  | _ => False
set_option maxRecDepth 100000 in
set_option maxHeartbeats 4000000 in
theorem b_cased : Bod Bcased [(70, P_err, Q_err), (75, P_fits, Q_fits), (79, P_isBad, Q_isBad)] P_cased Q_cased := by sorry
theorem m_cased (l : Launch) : RMet l 3 108 P_cased Q_cased := by sorry
set_option maxRecDepth 100000 in
theorem e_cased (l : Launch) : RMetE l 3 108 P_cased Q_cased := by sorry
def P_returns : RP := fun As σ => match As with
  | [.int c, .int t] => LI σ ∧ (0 ≤ c ∧ c < 4000) ∧ (0 ≤ t ∧ t ≤ 500) ∧ (0 ≤ (gI σ 89) ∧ (gI σ 89) ≤ 11) ∧ (¬ (aI σ 20 c.toNatClampNeg) = 0 → 1 ≤ (gI σ 69))
  | _ => False
def Q_returns : RQ := fun As σ w τ => match As with
  | [.int c, .int t] => w = none ∧ (((aI σ 20 c.toNatClampNeg) = 0 ∧ JT σ τ 0 True) ∨ (¬ (aI σ 20 c.toNatClampNeg) = 0 ∧ JT σ τ 1 (VN σ 1)))
  | _ => False
set_option maxRecDepth 100000 in
set_option maxHeartbeats 4000000 in
theorem b_returns : Bod Breturns [(70, P_err, Q_err), (75, P_fits, Q_fits), (79, P_isBad, Q_isBad), (85, P_resultOf, Q_resultOf)] P_returns Q_returns := by sorry
theorem m_returns (l : Launch) : RMet l 3 109 P_returns Q_returns := by sorry
set_option maxRecDepth 100000 in
theorem e_returns (l : Launch) : RMetE l 3 109 P_returns Q_returns := by sorry
def SQ (σ τ : RS) (c : Int32) : Prop := (((aI σ 19 c.toNatClampNeg) = 21) ∧ JS σ τ c 1 (aI τ 82 c.toNatClampNeg = aI σ 70 (nT (gI σ 69 - 1))) ∧ PL σ τ) ∨
  (((((aI σ 19 c.toNatClampNeg) = 22) ∧ ((aI σ 21 c.toNatClampNeg) = 0 ∨ (aI σ 21 c.toNatClampNeg) = 2)) ∨ (((aI σ 19 c.toNatClampNeg) = 33) ∧ (aI σ 21 c.toNatClampNeg) = 0) ∨ (((aI σ 19 c.toNatClampNeg) = 48) ∧ (aI σ 20 c.toNatClampNeg) = 0)) ∧ JS σ τ c 0 True ∧ PL σ τ) ∨
  ((((aI σ 19 c.toNatClampNeg) = 23 ∨ (aI σ 19 c.toNatClampNeg) = 27 ∨ (aI σ 19 c.toNatClampNeg) = 31 ∨ (aI σ 19 c.toNatClampNeg) = 38 ∨ (aI σ 19 c.toNatClampNeg) = 49) ∨ (((aI σ 19 c.toNatClampNeg) = 22) ∧ (aI σ 21 c.toNatClampNeg) = 1) ∨ (((aI σ 19 c.toNatClampNeg) = 33) ∧ ¬ (aI σ 21 c.toNatClampNeg) = 0) ∨ (((aI σ 19 c.toNatClampNeg) = 48) ∧ (aI σ 20 c.toNatClampNeg) = 1)) ∧ JS σ τ c 1 (VN σ 1) ∧ PL σ τ) ∨
  (((aI σ 19 c.toNatClampNeg) = 37) ∧ JS σ τ c 1 (VN σ 1 ∧ 0 ≤ aI τ 88 (aI σ 20 c.toNatClampNeg).toNatClampNeg) ∧ (∀ i, i ≠ (aI σ 20 c.toNatClampNeg).toNatClampNeg → aI τ 88 i = aI σ 88 i) ∧ aI τ 59 = aI σ 59 ∧ aI τ 80 = aI σ 80 ∧ aI τ 90 = aI σ 90 ∧ gI τ 89 = gI σ 89 ∧ gI τ 91 = gI σ 91) ∨
  (((aI σ 19 c.toNatClampNeg) = 39) ∧ JS σ τ c 0 True ∧ (aI τ 59 = aI σ 59 ∨ aI τ 59 = upd (aI σ 59) (aI σ 20 c.toNatClampNeg).toNatClampNeg c) ∧ aI τ 80 = aI σ 80 ∧ aI τ 88 = aI σ 88 ∧ aI τ 90 = aI σ 90 ∧ gI τ 89 = gI σ 89 ∧ gI τ 91 = gI σ 91) ∨
  (((aI σ 19 c.toNatClampNeg) = 41) ∧ JS σ τ c 0 True ∧ (∀ t, t ≠ (aI σ 22 c.toNatClampNeg).toNatClampNeg → aI τ 80 t = aI σ 80 t) ∧ (gI τ 91 = gI σ 91 + 1 ∧ aI τ 90 = upd (aI σ 90) (nT (gI σ 91)) (aI σ 20 c.toNatClampNeg)) ∧ aI τ 59 = aI σ 59 ∧ aI τ 88 = aI σ 88 ∧ gI τ 89 = gI σ 89) ∨
  (((aI σ 19 c.toNatClampNeg) = 42) ∧ JS σ τ c 0 True ∧ gI τ 91 = gI σ 91 - 1 ∧ aI τ 59 = aI σ 59 ∧ aI τ 80 = aI σ 80 ∧ aI τ 88 = aI σ 88 ∧ aI τ 90 = aI σ 90 ∧ gI τ 89 = gI σ 89) ∨
  (((aI σ 19 c.toNatClampNeg) = 46 ∨ (aI σ 19 c.toNatClampNeg) = 47) ∧ JS σ τ c 0 (0 ≤ (aI σ 20 c.toNatClampNeg)) ∧ (aI τ 80 = aI σ 80 ∨ (aI σ 3 (aI σ 22 c.toNatClampNeg).toNatClampNeg = 1 ∧ ∀ t, t ≠ (aI σ 22 c.toNatClampNeg).toNatClampNeg → aI τ 80 t = aI σ 80 t)) ∧ aI τ 59 = aI σ 59 ∧ aI τ 88 = aI σ 88 ∧ aI τ 90 = aI σ 90 ∧ gI τ 89 = gI σ 89 ∧ gI τ 91 = gI σ 91) ∨
  (((aI σ 19 c.toNatClampNeg) = 54) ∧ JS σ τ c 0 True ∧ gI τ 89 = gI σ 89 + 1 ∧ aI τ 59 = aI σ 59 ∧ aI τ 80 = aI σ 80 ∧ aI τ 88 = aI σ 88 ∧ aI τ 90 = aI σ 90 ∧ gI τ 91 = gI σ 91) ∨
  (((aI σ 19 c.toNatClampNeg) = 19 ∨ (aI σ 19 c.toNatClampNeg) = 20 ∨ (aI σ 19 c.toNatClampNeg) = 24 ∨ (aI σ 19 c.toNatClampNeg) = 25 ∨ (aI σ 19 c.toNatClampNeg) = 26 ∨ (aI σ 19 c.toNatClampNeg) = 28 ∨ (aI σ 19 c.toNatClampNeg) = 29 ∨ (aI σ 19 c.toNatClampNeg) = 30 ∨ (aI σ 19 c.toNatClampNeg) = 32 ∨ (aI σ 19 c.toNatClampNeg) = 34 ∨ (aI σ 19 c.toNatClampNeg) = 35 ∨ (aI σ 19 c.toNatClampNeg) = 36 ∨ (aI σ 19 c.toNatClampNeg) = 40 ∨ (aI σ 19 c.toNatClampNeg) = 43 ∨ (aI σ 19 c.toNatClampNeg) = 44 ∨ (aI σ 19 c.toNatClampNeg) = 45 ∨ (aI σ 19 c.toNatClampNeg) = 50 ∨ (aI σ 19 c.toNatClampNeg) = 51 ∨ (aI σ 19 c.toNatClampNeg) = 52 ∨ (aI σ 19 c.toNatClampNeg) = 53) ∧ τ = σ)
def LB (σ : RS) : Prop := (0 ≤ gI σ 91 ∧ gI σ 91 ≤ 40) ∧ ∀ i, i < nT (gI σ 91) → (0 ≤ aI σ 90 i ∧ aI σ 90 i < 600) ∧ 0 ≤ aI σ 60 (aI σ 90 i).toNatClampNeg ∧ aI σ 60 (aI σ 90 i).toNatClampNeg ≤ 500
def SP (σ : RS) (c : Int32) : Prop := (19 ≤ (aI σ 19 c.toNatClampNeg) ∧ (aI σ 19 c.toNatClampNeg) ≤ 54) ∧ (((aI σ 19 c.toNatClampNeg) = 21 ∨ (aI σ 19 c.toNatClampNeg) = 23 ∨ (aI σ 19 c.toNatClampNeg) = 27 ∨ (aI σ 19 c.toNatClampNeg) = 31 ∨ (aI σ 19 c.toNatClampNeg) = 37 ∨ (aI σ 19 c.toNatClampNeg) = 38 ∨ (aI σ 19 c.toNatClampNeg) = 49) → 1 ≤ gI σ 69) ∧ ((aI σ 19 c.toNatClampNeg) = 22 → (0 ≤ (aI σ 20 c.toNatClampNeg) ∧ (aI σ 20 c.toNatClampNeg) < 60) ∧ ((aI σ 21 c.toNatClampNeg) = 0 ∨ (aI σ 21 c.toNatClampNeg) = 1 ∨ (aI σ 21 c.toNatClampNeg) = 2) ∧ ((aI σ 21 c.toNatClampNeg) = 1 → 1 ≤ gI σ 69)) ∧ ((aI σ 19 c.toNatClampNeg) = 33 → ¬ (aI σ 21 c.toNatClampNeg) = 0 → 1 ≤ gI σ 69) ∧ ((aI σ 19 c.toNatClampNeg) = 48 → ((aI σ 20 c.toNatClampNeg) = 0 ∨ (aI σ 20 c.toNatClampNeg) = 1) ∧ ((aI σ 20 c.toNatClampNeg) = 1 → 1 ≤ gI σ 69)) ∧ (((aI σ 19 c.toNatClampNeg) = 37 ∨ (aI σ 19 c.toNatClampNeg) = 38 ∨ (aI σ 19 c.toNatClampNeg) = 39 ∨ (aI σ 19 c.toNatClampNeg) = 41) → 0 ≤ (aI σ 20 c.toNatClampNeg) ∧ (aI σ 20 c.toNatClampNeg) < 600) ∧ ((aI σ 19 c.toNatClampNeg) = 38 → 0 ≤ aI σ 51 (aI σ 20 c.toNatClampNeg).toNatClampNeg ∧ (gI σ 66 = 0 → 0 ≤ aI σ 88 (aI σ 20 c.toNatClampNeg).toNatClampNeg)) ∧ LB σ ∧ (0 ≤ gI σ 89 ∧ gI σ 89 ≤ 10)
def P_judgeStep : RP := fun As σ => match As with
  | [.int c] => (LI σ ∧ CO σ c) ∧ SP σ c
  | _ => False
def Q_judgeStep : RQ := fun As σ w τ => match As with
  | [.int c] => w = none ∧ SQ σ τ c
  | _ => False
set_option maxRecDepth 100000 in
set_option maxHeartbeats 4000000 in
theorem b_judgeStep : Bod BjudgeStep [(108, P_cased, Q_cased), (107, P_declared, Q_declared), (70, P_err, Q_err), (75, P_fits, Q_fits), (79, P_isBad, Q_isBad), (106, P_keep, Q_keep), (80, P_need, Q_need), (109, P_returns, Q_returns), (63, P_sameName, Q_sameName)] P_judgeStep Q_judgeStep := by sorry
theorem m_judgeStep (l : Launch) : RMet l 4 105 P_judgeStep Q_judgeStep := by sorry
set_option maxRecDepth 100000 in
theorem e_judgeStep (l : Launch) : RMetE l 4 105 P_judgeStep Q_judgeStep := by sorry
/-! the pile of values with what is void: a kind k is k % 10 of Es's kinds; k + 10: a void value stands in it -/
def er (z : List Nat) : List Nat := z.map (fun k => k % 10)
def eT (n : Nat) (a b t : Int32) (z : List Nat) : Option (List Nat) := match n with
  | 1 => some (0 :: z)
  | 2 => some (0 :: z)
  | 3 => some (0 :: z)
  | 4 => some (0 :: z)
  | 5 => match z with
    | 0 :: r => some (0 :: r)
    | _ => none
  | 6 => match z with
    | 0 :: r => some (0 :: r)
    | _ => none
  | 7 => match z with
    | 0 :: 0 :: r => some (0 :: r)
    | _ => none
  | 8 => match z with
    | x :: r => if x % 10 = 0 then some ((x + 1) :: r) else none
    | _ => none
  | 9 => match z with
    | 0 :: 1 :: r => some (0 :: r)
    | _ => none
  | 10 => match z with
    | x :: r => if x % 10 = 0 then some ((x + 1) :: r) else none
    | _ => none
  | 11 => match z with
    | 0 :: 1 :: r => some (0 :: r)
    | _ => none
  | 12 => match z with
    | x :: r => if x % 10 = 0 then some ((x + 2) :: r) else none
    | _ => none
  | 13 => match z with
    | x :: y :: r => if x % 10 = 0 ∧ y % 10 = 2 then some ((if x < 10 ∧ y < 10 then 3 else 13) :: r) else none
    | _ => none
  | 14 => match z with
    | 0 :: 3 :: r => some (0 :: r)
    | _ => none
  | 15 => match z with
    | x :: r => if x % 10 = 0 then some (x :: r) else none
    | _ => none
  | 16 => some (4 :: z)
  | 17 => if a = 61 then (match z with
    | 0 :: r => some (0 :: r)
    | _ => none) else (match z with
    | 0 :: 4 :: r => some (0 :: r)
    | _ => none)
  | 18 => if z.take (nT a) = List.replicate (nT a) 0 then some ((if t = 5 then 10 else 0) :: z.drop (nT a)) else none
  | 21 => match z with
    | [x] => if x % 10 = 0 then some [] else none
    | _ => none
  | _ => eSt n a b z
def Et (o a b t : Nat → Int32) : Nat → Option (List Nat)
  | 0 => some []
  | c + 1 => match Et o a b t c with
    | some z => eT (nT (o c)) (a c) (b c) (t c) z
    | none => none
theorem Et_congr {o a b t o' a' b' t' : Nat → Int32} {n : Nat} (h : ∀ i, i < n → o' i = o i ∧ a' i = a i ∧ b' i = b i ∧ t' i = t i) : Et o' a' b' t' n = Et o a b t n := by sorry
/-- the judge's types of such a pile -/
def TV (f : Nat → Int32) : List Nat → Nat → Prop
  | [], n => n = 0
  | k :: r, n => if k % 10 = 4 then k = 4 ∧ TV f r n
    else if k % 10 = 3 then ∃ m, n = m + 2 ∧ (k < 10 → ¬ f m = 5 ∧ ¬ f (m + 1) = 5) ∧ (10 ≤ k → f m = 5 ∨ f (m + 1) = 5) ∧ TV f r m
    else ∃ m, n = m + 1 ∧ (k < 10 → ¬ f m = 5) ∧ (10 ≤ k → f m = 5) ∧ TV f r m
theorem TV.n {f : Nat → Int32} : ∀ {z : List Nat} {n : Nat}, TV f z n → n = wl (er z) := by sorry
theorem TV.congr {f g : Nat → Int32} : ∀ {z : List Nat} {n : Nat}, TV f z n → (∀ i, i < n → g i = f i) → TV g z n := by sorry
/-- a value (or an open && || ?) on top -/
theorem TV.top {f : Nat → Int32} {z : List Nat} {n k : Nat} {E : List Nat} (h : TV f z n) (he : er z = k :: E) (hk : k = 0 ∨ k = 1 ∨ k = 2) : ∃ x r m, z = x :: r ∧ er r = E ∧ x % 10 = k ∧ n = m + 1 ∧ TV f r m ∧ (x < 10 → ¬ f m = 5) ∧ (10 ≤ x → f m = 5) := by sorry
theorem TV.top3 {f : Nat → Int32} {z : List Nat} {n : Nat} {E : List Nat} (h : TV f z n) (he : er z = 3 :: E) : ∃ x r m, z = x :: r ∧ er r = E ∧ x % 10 = 3 ∧ n = m + 2 ∧ TV f r m ∧ (x < 10 → ¬ f m = 5 ∧ ¬ f (m + 1) = 5) ∧ (10 ≤ x → f m = 5 ∨ f (m + 1) = 5) := by sorry
theorem TV.top4 {f : Nat → Int32} {z : List Nat} {n : Nat} {E : List Nat} (h : TV f z n) (he : er z = 4 :: E) : ∃ r, z = 4 :: r ∧ er r = E ∧ TV f r n := by sorry
theorem TV.cons {f : Nat → Int32} {r : List Nat} {k m : Nat} (h : TV f r m) (hk : k % 10 < 3) (h1 : k < 10 → ¬ f m = 5) (h2 : 10 ≤ k → f m = 5) : TV f (k :: r) (m + 1) := by sorry
/-- the arguments of a call -/
theorem TV.args {f : Nat → Int32} : ∀ (a : Nat) {z : List Nat} {n : Nat}, TV f z n → (er z).take a = List.replicate a 0 → (∀ i, n - a ≤ i → i < n → ¬ f i = 5) → z.take a = List.replicate a 0 ∧ a ≤ n ∧ TV f (z.drop a) (n - a) ∧ er (z.drop a) = (er z).drop a := by sorry
theorem er_drop {z : List Nat} {a : Nat} : er (z.drop a) = (er z).drop a := by sorry
/-- how many values an exp's code takes off the judge's pile -/
def pops (o a : Int32) : Nat := match nT o with
  | 5 => 1
  | 6 => 1
  | 7 => 2
  | 9 => 2
  | 11 => 2
  | 14 => 3
  | 15 => 1
  | 17 => 1
  | 18 => nT a
  | _ => 0
/-- a code of an exp, where no void value is taken (but by a group) -/
theorem TV.exp {f g : Nat → Int32} {z E E' : List Nat} {n n' o : Nat} {a b t : Int32} (h : TV f z n) (he : er z = E) (hs : eSt o a b E = some E')
    (hc : (o = 1 ∨ o = 2 ∨ o = 3 ∨ o = 4) ∧ n' = n + 1 ∧ (∀ i, i < n → g i = f i) ∧ ¬ g n = 5 ∨
      (o = 5 ∨ o = 6) ∧ n' = n ∧ (∀ i, i < n - 1 → g i = f i) ∧ (∀ i, n - 1 ≤ i → i < n → ¬ f i = 5) ∧ ¬ g (n - 1) = 5 ∨
      (o = 7 ∨ o = 9 ∨ o = 11) ∧ n' = n - 1 ∧ (∀ i, i < n - 2 → g i = f i) ∧ (∀ i, n - 2 ≤ i → i < n → ¬ f i = 5) ∧ ¬ g (n - 2) = 5 ∨
      (o = 14) ∧ n' = n - 2 ∧ (∀ i, i < n - 3 → g i = f i) ∧ (∀ i, n - 3 ≤ i → i < n → ¬ f i = 5) ∧ ¬ g (n - 3) = 5 ∨
      (o = 15) ∧ n' = n ∧ (∀ i, i < n → g i = f i) ∨
      (o = 17) ∧ n' = n ∧ (∀ i, i < n - 1 → g i = f i) ∧ (∀ i, n - 1 ≤ i → i < n → ¬ f i = 5) ∧ ¬ g (n - 1) = 5 ∨
      (o = 18) ∧ n' = n - nT a + 1 ∧ (∀ i, i < n - nT a → g i = f i) ∧ (∀ i, n - nT a ≤ i → i < n → ¬ f i = 5) ∧ g (n - nT a) = t ∨
      (o = 8 ∨ o = 10 ∨ o = 12 ∨ o = 13 ∨ o = 16) ∧ n' = n ∧ (∀ i, i < n → g i = f i)) : ∃ z', eT o a b t z = some z' ∧ er z' = E' ∧ TV g z' n' := by sorry
/-! the judge's loop: what holds ahead of each code -/
def nlab : List (Nat × Nat) → Nat
  | [] => 0
  | q :: r => (if q.1 = 41 then 1 else 0) + nlab r
theorem sSt_lab {n : Nat} {a : Int32} {c : Nat} {s s' : SS} (h : sSt n a c s = some s') : (n = 41 → nlab s'.1 = nlab s.1 + 1 ∧ s'.1 = (41, nT a) :: s.1) ∧ (n = 42 → nlab s'.1 + 1 = nlab s.1) ∧ (¬ n = 41 → ¬ n = 42 → nlab s'.1 = nlab s.1) ∧ (n = 54 → s'.2 = s.2 + 1) := by sorry
theorem sSt_sw {n : Nat} {a : Int32} {c : Nat} {s s' : SS} (h : sSt n a c s = some s') : (∀ q ∈ s'.1, q.1 = 37 → q ∈ s.1 ∨ (n = 37 ∧ q = (37, nT a))) ∧ (n = 38 → (37, nT a) ∈ s.1) := by sorry
theorem nlab_le : ∀ l : List (Nat × Nat), nlab l ≤ nl l := by sorry
theorem Ss_some {o a : Nat → Int32} {n m : Nat} {s : SS} (h : Ss o a m = some s) (hn : n ≤ m) : ∃ s', Ss o a n = some s' := by sorry
theorem Ne_mono {o : Nat → Int32} {n : Nat} : ∀ m, n ≤ m → Ne o n ≤ Ne o m := by sorry
theorem wl_le : ∀ l : List Nat, wl l ≤ 2 * l.length := by sorry
/-- what stands of the program at a code -/
def PC (σ : RS) (c : Nat) (E E' : List Nat) (s s' : SS) : Prop :=
  (Es (aI σ 19) (aI σ 20) (aI σ 21) c = some E) ∧
  (Es (aI σ 19) (aI σ 20) (aI σ 21) (c + 1) = some E') ∧
  (Ss (aI σ 19) (aI σ 20) c = some s) ∧
  (Ss (aI σ 19) (aI σ 20) (c + 1) = some s') ∧
  (eSt (nT (aI σ 19 c)) (aI σ 20 c) (aI σ 21 c) E = some E') ∧
  (sSt (nT (aI σ 19 c)) (aI σ 20 c) c s = some s') ∧
  (E.length ≤ 251) ∧
  (E'.length ≤ 251) ∧
  (nl s.1 ≤ 40) ∧
  (nl s'.1 ≤ 40) ∧
  (s.2 ≤ 10) ∧
  (s'.2 ≤ 10) ∧
  (Ne (aI σ 19) (c + 1) ≤ 2000) ∧
  (c < 4000) ∧
  (ce (aI σ 19 c) (aI σ 20 c) (aI σ 22 c) (aI σ 23 c) (aI σ 24 c) (gI σ 49) (aI σ) c)
theorem PC.he {σ : RS} {c : Nat} {E E' : List Nat} {s s' : SS} (h : PC σ c E E' s s') : Es (aI σ 19) (aI σ 20) (aI σ 21) c = some E := h.1
theorem PC.he' {σ : RS} {c : Nat} {E E' : List Nat} {s s' : SS} (h : PC σ c E E' s s') : Es (aI σ 19) (aI σ 20) (aI σ 21) (c + 1) = some E' := h.2.1
theorem PC.hs {σ : RS} {c : Nat} {E E' : List Nat} {s s' : SS} (h : PC σ c E E' s s') : Ss (aI σ 19) (aI σ 20) c = some s := h.2.2.1
theorem PC.hs' {σ : RS} {c : Nat} {E E' : List Nat} {s s' : SS} (h : PC σ c E E' s s') : Ss (aI σ 19) (aI σ 20) (c + 1) = some s' := h.2.2.2.1
theorem PC.es {σ : RS} {c : Nat} {E E' : List Nat} {s s' : SS} (h : PC σ c E E' s s') : eSt (nT (aI σ 19 c)) (aI σ 20 c) (aI σ 21 c) E = some E' := h.2.2.2.2.1
theorem PC.ss {σ : RS} {c : Nat} {E E' : List Nat} {s s' : SS} (h : PC σ c E E' s s') : sSt (nT (aI σ 19 c)) (aI σ 20 c) c s = some s' := h.2.2.2.2.2.1
theorem PC.le {σ : RS} {c : Nat} {E E' : List Nat} {s s' : SS} (h : PC σ c E E' s s') : E.length ≤ 251 := h.2.2.2.2.2.2.1
theorem PC.le' {σ : RS} {c : Nat} {E E' : List Nat} {s s' : SS} (h : PC σ c E E' s s') : E'.length ≤ 251 := h.2.2.2.2.2.2.2.1
theorem PC.n1 {σ : RS} {c : Nat} {E E' : List Nat} {s s' : SS} (h : PC σ c E E' s s') : nl s.1 ≤ 40 := h.2.2.2.2.2.2.2.2.1
theorem PC.n2 {σ : RS} {c : Nat} {E E' : List Nat} {s s' : SS} (h : PC σ c E E' s s') : nl s'.1 ≤ 40 := h.2.2.2.2.2.2.2.2.2.1
theorem PC.m1 {σ : RS} {c : Nat} {E E' : List Nat} {s s' : SS} (h : PC σ c E E' s s') : s.2 ≤ 10 := h.2.2.2.2.2.2.2.2.2.2.1
theorem PC.m2 {σ : RS} {c : Nat} {E E' : List Nat} {s s' : SS} (h : PC σ c E E' s s') : s'.2 ≤ 10 := h.2.2.2.2.2.2.2.2.2.2.2.1
theorem PC.ne {σ : RS} {c : Nat} {E E' : List Nat} {s s' : SS} (h : PC σ c E E' s s') : Ne (aI σ 19) (c + 1) ≤ 2000 := h.2.2.2.2.2.2.2.2.2.2.2.2.1
theorem PC.c4 {σ : RS} {c : Nat} {E E' : List Nat} {s s' : SS} (h : PC σ c E E' s s') : c < 4000 := h.2.2.2.2.2.2.2.2.2.2.2.2.2.1
theorem PC.hce {σ : RS} {c : Nat} {E E' : List Nat} {s s' : SS} (h : PC σ c E E' s s') : ce (aI σ 19 c) (aI σ 20 c) (aI σ 22 c) (aI σ 23 c) (aI σ 24 c) (gI σ 49) (aI σ) c := h.2.2.2.2.2.2.2.2.2.2.2.2.2.2
theorem ce_59 {o a t f l th : Int32} {σ : RS} {g : Nat → Int32} {c : Nat} (h : ce o a t f l th (aI (sI (sA σ 59 g) 62 0)) c) : ce o a t f l th (aI σ) c := by sorry
theorem PJ.pc {σ : RS} (h : PJ σ) {c : Nat} (hc : c < nT (gI σ 18)) : ∃ E E' s s', PC σ c E E' s s' := by sorry
/-- of a code that the judge has passed, where no error stands -/
def EC (σ : RS) (i : Nat) : Prop :=
  ((aI σ 19 i = 2 ∨ aI σ 19 i = 3 ∨ aI σ 19 i = 4 ∨ aI σ 19 i = 17) → 0 ≤ aI σ 83 i ∧ aI σ 83 i < gI σ 42) ∧
  (aI σ 19 i = 17 → 0 ≤ aI σ 80 (nT (aI σ 22 i)) ∧ aI σ 80 (nT (aI σ 22 i)) < gI σ 42) ∧
  (aI σ 19 i = 18 → MV σ (aI σ 83 i) (aI σ 20 i) ∧ RO σ (aI σ 83 i) (aI σ 81 i)) ∧
  ((aI σ 19 i = 46 ∨ aI σ 19 i = 47) → 0 ≤ aI σ 20 i) ∧
  (aI σ 19 i = 21 → ∀ z, Et (aI σ 19) (aI σ 20) (aI σ 21) (aI σ 81) i = some z → ∃ x, z = [x] ∧ (aI σ 82 i = 5 ↔ 10 ≤ x))
def JE (σ : RS) (E : List Nat) (s : SS) (c : Nat) : Prop := (∀ i, i < nT (gI σ 69) → 0 ≤ aI σ 70 i) ∧ (∃ z, Et (aI σ 19) (aI σ 20) (aI σ 21) (aI σ 81) c = some z ∧ er z = E ∧ TV (aI σ 70) z (nT (gI σ 69))) ∧ (∀ q ∈ s.1, q.1 = 37 → 0 ≤ aI σ 88 q.2) ∧ ∀ i, i < c → EC σ i
def JV (σ : RS) (c : Nat) (E : List Nat) (s : SS) : Prop :=
  (0 ≤ gI σ 69 ∧ nT (gI σ 69) = wl E) ∧
  (0 ≤ gI σ 74 ∧ nT (gI σ 74) ≤ Ne (aI σ 19) c) ∧
  (∀ i, i < nT (gI σ 69) → (0 ≤ aI σ 73 i ∧ aI σ 73 i ≤ 500) ∧ (aI σ 71 i = 0 ∨ aI σ 71 i = 1)) ∧
  (0 ≤ gI σ 89 ∧ nT (gI σ 89) = s.2) ∧
  (0 ≤ gI σ 91 ∧ nT (gI σ 91) = nlab s.1 ∧ ∀ i, i < nT (gI σ 91) → 0 ≤ aI σ 90 i ∧ aI σ 90 i < gI σ 49) ∧
  (∀ k, k < nT (gI σ 49) → aI σ 59 k = -2 ∨ (0 ≤ aI σ 59 k ∧ nT (aI σ 59 k) < c ∧ aI σ 19 (nT (aI σ 59 k)) = 39 ∧ nT (aI σ 20 (nT (aI σ 59 k))) = k)) ∧
  (gI σ 66 = 0 → JE σ E s c)
theorem JV.l {σ : RS} {c : Nat} {E : List Nat} {s : SS} (h : JV σ c E s) : 0 ≤ gI σ 69 ∧ nT (gI σ 69) = wl E := h.1
theorem JV.x {σ : RS} {c : Nat} {E : List Nat} {s : SS} (h : JV σ c E s) : 0 ≤ gI σ 74 ∧ nT (gI σ 74) ≤ Ne (aI σ 19) c := h.2.1
theorem JV.i {σ : RS} {c : Nat} {E : List Nat} {s : SS} (h : JV σ c E s) : ∀ i, i < nT (gI σ 69) → (0 ≤ aI σ 73 i ∧ aI σ 73 i ≤ 500) ∧ (aI σ 71 i = 0 ∨ aI σ 71 i = 1) := h.2.2.1
theorem JV.m {σ : RS} {c : Nat} {E : List Nat} {s : SS} (h : JV σ c E s) : 0 ≤ gI σ 89 ∧ nT (gI σ 89) = s.2 := h.2.2.2.1
theorem JV.b {σ : RS} {c : Nat} {E : List Nat} {s : SS} (h : JV σ c E s) : 0 ≤ gI σ 91 ∧ nT (gI σ 91) = nlab s.1 ∧ ∀ i, i < nT (gI σ 91) → 0 ≤ aI σ 90 i ∧ aI σ 90 i < gI σ 49 := h.2.2.2.2.1
theorem JV.d {σ : RS} {c : Nat} {E : List Nat} {s : SS} (h : JV σ c E s) : ∀ k, k < nT (gI σ 49) → aI σ 59 k = -2 ∨ (0 ≤ aI σ 59 k ∧ nT (aI σ 59 k) < c ∧ aI σ 19 (nT (aI σ 59 k)) = 39 ∧ nT (aI σ 20 (nT (aI σ 59 k))) = k) := h.2.2.2.2.2.1
theorem JV.e {σ : RS} {c : Nat} {E : List Nat} {s : SS} (h : JV σ c E s) : gI σ 66 = 0 → JE σ E s c := h.2.2.2.2.2.2
theorem i32 {x : Int32} {n : Nat} (h0 : 0 ≤ x) (h : nT x ≤ n) (m : Int32) (hm : nT m = n) (hm0 : 0 ≤ m) : x ≤ m := by sorry
theorem JV.li {σ : RS} {c : Nat} {E E' : List Nat} {s s' : SS} (h : JV σ c E s) (p : PC σ c E E' s s') : LI σ := by sorry
theorem PC.co {σ : RS} {c : Int32} {E E' : List Nat} {s s' : SS} (p : PC σ (nT c) E E' s s') (h0 : 0 ≤ c) : CO σ c := by sorry
theorem PC.cx {σ : RS} {c : Int32} {E E' : List Nat} {s s' : SS} (h : JV σ (nT c) E s) (p : PC σ (nT c) E E' s s') (h0 : 0 ≤ c) (ho : nT (aI σ 19 (nT c)) ≤ 18) : CX σ c := by sorry
/-- an Int32 that is n -/
theorem eqJ {x : Int32} {n : Nat} (h : nT x = n) (hn : 0 < n) (m : Int32) (hm : nT m = n) (hm0 : 0 ≤ m) : x = m := by sorry
theorem PC.jp {σ : RS} {c : Int32} {E E' : List Nat} {s s' : SS} (h : JV σ (nT c) E s) (p : PC σ (nT c) E E' s s') (ho : aI σ 19 (nT c) ≤ 18) : JP σ c := by sorry
/-- the pile's weight over an exp's code -/
theorem eSt_wl {o : Nat} {a b : Int32} {E E' : List Nat} (h : eSt o a b E = some E') (n : Nat) (hc : (o = 1 ∨ o = 2 ∨ o = 3 ∨ o = 4) ∧ n = 0 ∨ (o = 5 ∨ o = 6 ∨ o = 15 ∨ o = 17) ∧ n = 1 ∨ (o = 7 ∨ o = 9 ∨ o = 11) ∧ n = 2 ∨ o = 14 ∧ n = 3 ∨ o = 18 ∧ n = nT a ∨ (o = 8 ∨ o = 10 ∨ o = 12 ∨ o = 13 ∨ o = 16) ∧ n = 1 ∧ wl E' = wl E + 0 + 0 ∨ False) : wl E' + n = wl E + 1 := by sorry
theorem eSt_wl0 {o : Nat} {a b : Int32} {E E' : List Nat} (h : eSt o a b E = some E') (ho : o = 8 ∨ o = 10 ∨ o = 12 ∨ o = 13 ∨ o = 16) : wl E' = wl E := by sorry
theorem MV.fr {σ τ : RS} {m n : Int32} (h : MV σ m n) (e36 : gI τ 36 = gI σ 36) (e39 : aI τ 39 = aI σ 39) : MV τ m n := by sorry
theorem RO.fr {σ τ : RS} {m n : Int32} (h : RO σ m n) (e38 : aI τ 38 = aI σ 38) : RO τ m n := by sorry
/-- a code that was passed stays as it is -/
theorem EC.fr {σ τ : RS} {i : Nat} (h : EC σ i) (hf : Fj σ τ) (h83 : aI τ 83 i = aI σ 83 i) (h81 : ∀ q, q ≤ i → aI τ 81 q = aI σ 81 q) (h82 : aI τ 82 i = aI σ 82 i) (h80 : aI σ 19 i = 17 → 0 ≤ aI τ 80 (nT (aI σ 22 i)) ∧ aI τ 80 (nT (aI σ 22 i)) < gI σ 42) : EC τ i := by sorry
theorem JV.lv {σ τ : RS} {c n : Int32} {F : Int32 → Prop} {E E' : List Nat} {s s' : SS} (h : JV σ (nT c) E s) (p : PC σ (nT c) E E' s s') (hLI : LI σ) (ho : nT (aI σ 19 (nT c)) ≤ 18) (hx : LV σ τ c n F) (hn : 0 ≤ n ∧ n ≤ gI σ 69) (hw : wl E' + nT n = wl E + 1)
    (hT : gI τ 66 = 0 → F (aI τ 70 (nT (gI σ 69 - n))) → ∀ z, er z = E → TV (aI σ 70) z (nT (gI σ 69)) → ∃ z', eT (nT (aI σ 19 (nT c))) (aI σ 20 (nT c)) (aI σ 21 (nT c)) (aI τ 81 (nT c)) z = some z' ∧ er z' = E' ∧ TV (aI τ 70) z' (nT (gI τ 69)))
    (hC : gI τ 66 = 0 → F (aI τ 70 (nT (gI σ 69 - n))) → aI τ 81 (nT c) = aI τ 70 (nT (gI σ 69 - n)) → EC τ (nT c))
    (h80 : gI τ 66 = 0 → F (aI τ 70 (nT (gI σ 69 - n))) → ∀ i, i < nT c → aI σ 19 i = 17 → 0 ≤ aI σ 80 (nT (aI σ 22 i)) ∧ aI σ 80 (nT (aI σ 22 i)) < gI σ 42 → 0 ≤ aI τ 80 (nT (aI σ 22 i)) ∧ aI τ 80 (nT (aI σ 22 i)) < gI σ 42) : JV τ (nT c + 1) E' s' := by sorry
/-- an exp's code that the judge passes over -/
theorem JV.idl {σ : RS} {c : Int32} {E E' : List Nat} {s s' : SS} (h : JV σ (nT c) E s) (p : PC σ (nT c) E E' s s') (ho : nT (aI σ 19 (nT c)) = 8 ∨ nT (aI σ 19 (nT c)) = 10 ∨ nT (aI σ 19 (nT c)) = 12 ∨ nT (aI σ 19 (nT c)) = 13 ∨ nT (aI σ 19 (nT c)) = 16) : JV σ (nT c + 1) E' s' := by sorry
theorem nTo {x : Int32} {n : Nat} (m : Int32) (h : x = m) (hm : nT m = n) : nT x = n := by sorry
/-- over a code of an exp -/
theorem JV.exp {σ τ : RS} {c : Int32} {E E' : List Nat} {s s' : SS} (h : JV σ (nT c) E s) (p : PC σ (nT c) E E' s s') (hLI : LI σ) (hJP : JP σ c) (hce : ∀ i, i < nT c → cy (aI σ 6) (aI σ 19 i) (aI σ 20 i) (aI σ 22 i)) (hq : JQ σ τ c) : JV τ (nT c + 1) E' s' := by sorry
def pop1 (o : Nat) (a b : Int32) : Prop := (o = 21 ∨ o = 23 ∨ o = 27 ∨ o = 31 ∨ o = 37 ∨ o = 38 ∨ o = 49) ∨ (o = 22 ∧ b = 1) ∨ (o = 33 ∧ ¬ b = 0) ∨ (o = 48 ∧ a = 1)
theorem eSt_s {o : Nat} {a b : Int32} {E E' : List Nat} (ho : 19 ≤ o) (h : eSt o a b E = some E') : E' = [] ∧ ((E = [0] ∧ pop1 o a b) ∨ (E = [] ∧ ¬ pop1 o a b)) ∧ (o = 22 → b = 0 ∨ b = 1 ∨ b = 2) ∧ (o = 48 → a = 0 ∨ a = 1) := by sorry
theorem eT_stm {o : Nat} (ho : 19 ≤ o) (h1 : o ≠ 21) (a b t : Int32) (z : List Nat) : eT o a b t z = eSt o a b z := by sorry
theorem PJ.th {σ : RS} (h : PJ σ) : (0 ≤ gI σ 49 ∧ gI σ 49 ≤ 501) ∧ ∀ k, k < nT (gI σ 49) → 0 ≤ aI σ 51 k ∧ 0 ≤ aI σ 60 k ∧ aI σ 60 k ≤ 500 := by sorry
theorem PJ.cy {σ : RS} (h : PJ σ) {i : Nat} (hi : i < nT (gI σ 18)) : cy (aI σ 6) (aI σ 19 i) (aI σ 20 i) (aI σ 22 i) := by sorry
theorem PC.sp {σ : RS} {c : Int32} {E E' : List Nat} {s s' : SS} (h : JV σ (nT c) E s) (p : PC σ (nT c) E E' s s') (hPJ : PJ σ) (ho : 19 ≤ aI σ 19 (nT c)) : SP σ c := by sorry
theorem er_nil {z : List Nat} (h : er z = []) : z = [] := by sorry
theorem JV.js {σ τ : RS} {c n : Int32} {F : Prop} {E E' : List Nat} {s s' : SS} (h : JV σ (nT c) E s) (p : PC σ (nT c) E E' s s') (ho : 19 ≤ nT (aI σ 19 (nT c))) (hx : JS σ τ c n F) (hn : (n = 0 ∧ E = []) ∨ (n = 1 ∧ E = [0]))
    (hV : gI τ 66 = 0 → F → E = [0] → nT (aI σ 19 (nT c)) ≠ 21 → ¬ aI σ 70 0 = 5)
    (hC : gI τ 66 = 0 → F → JE σ E s (nT c) → EC τ (nT c))
    (h80 : gI τ 66 = 0 → ∀ i, i < nT c → aI σ 19 i = 17 → aI τ 80 (nT (aI σ 22 i)) = aI σ 80 (nT (aI σ 22 i)))
    (hm : 0 ≤ gI τ 89 ∧ nT (gI τ 89) = s'.2) (hb : 0 ≤ gI τ 91 ∧ nT (gI τ 91) = nlab s'.1 ∧ ∀ i, i < nT (gI τ 91) → 0 ≤ aI τ 90 i ∧ aI τ 90 i < gI σ 49)
    (hd : ∀ k, k < nT (gI σ 49) → aI τ 59 k = aI σ 59 k ∨ (aI τ 59 k = c ∧ 0 ≤ c ∧ aI σ 19 (nT c) = 39 ∧ nT (aI σ 20 (nT c)) = k))
    (hsw : gI τ 66 = 0 → F → (∀ q ∈ s.1, q.1 = 37 → 0 ≤ aI σ 88 q.2) → ∀ q ∈ s'.1, q.1 = 37 → 0 ≤ aI τ 88 q.2) : JV τ (nT c + 1) E' s' := by sorry
theorem ECn {τ : RS} {i : Nat} (w : ∀ y : Int32, (y = 2 ∨ y = 3 ∨ y = 4 ∨ y = 17 ∨ y = 18 ∨ y = 46 ∨ y = 47 ∨ y = 21) → ¬ aI τ 19 i = y) : EC τ i := by sorry
theorem VN.z {σ : RS} {E : List Nat} (hl : 0 ≤ gI σ 69 ∧ nT (gI σ 69) = wl E) (hv : VN σ 1) (hE : E = [0]) : ¬ aI σ 70 0 = 5 := by sorry
theorem NoW {x : Int32} (l : List Int32) (hx : x ∈ l) (y : Int32) (hy : y ∉ l) : ¬ x = y := fun q => hy (q ▸ hx)
/-- over a code of a statement -/
theorem JV.stm {σ τ : RS} {c : Int32} {E E' : List Nat} {s s' : SS} (h : JV σ (nT c) E s) (p : PC σ (nT c) E E' s s') (hPJ : PJ σ) (h0 : 0 ≤ c) (hcc : nT c < nT (gI σ 18)) (ho19 : 19 ≤ aI σ 19 (nT c)) (hq : SQ σ τ c) : JV τ (nT c + 1) E' s' := by sorry
theorem sM_sM {σ : RS} {k : Nat} {f g : Nat → Int64} : sM (sM σ k f) k g = sM σ k g := by sorry
theorem sL_sL {σ : RS} {k : Nat} {u v : Int64} : sL (sL σ k u) k v = sL σ k v := by sorry
theorem sL_id {σ : RS} {k : Nat} : sL σ k (gL σ k) = σ := by sorry
theorem sM_id {σ : RS} {k : Nat} : sM σ k (aL σ k) = σ := by sorry
theorem cmn {σ : RS} {x y : Int32} {f g : Nat → Int32} : sA (sI (sA (sI σ 116 x) 104 f) 116 y) 104 g = sA (sI σ 116 y) 104 g := by sorry
theorem edn {σ : RS} {f f' : Nat → Int32} {g g' : Nat → Int64} : sM (sA (sM (sA σ 107 f) 108 g) 107 f') 108 g' = sM (sA σ 107 f') 108 g' := by sorry
theorem sdn {σ : RS} {u v x : Int64} : sL (sL (sL σ 93 u) 94 v) 93 x = sL (sL σ 93 x) 94 v := by sorry
def P_start : RP := fun As σ => match As with
  | [.int m] => PJ σ ∧ 0 ≤ m
  | _ => False
def Q_start : RQ := fun As σ w τ => match As with
  | [.int m] => w = none ∧ ∃ v : Int64, τ = sL (sL (sI σ 92 1) 93 v) 94 v
  | _ => False
set_option maxRecDepth 100000 in
set_option maxHeartbeats 4000000 in
theorem b_start : Bod Bstart [(112, P_be, Q_be)] P_start Q_start := by sorry
theorem m_start (l : Launch) : RMet l 2 114 P_start Q_start := by sorry
set_option maxRecDepth 100000 in
theorem e_start (l : Launch) : RMetE l 2 114 P_start Q_start := by sorry
def P_value : RP := fun As σ => match As with
  | [.int t, .int v] => 0 ≤ t ∧ t ≤ 2599
  | _ => False
def Q_value : RQ := fun As σ w τ => match As with
  | [.int t, .int v] => w = none ∧ ∃ a b : Int32, τ = sI (sI σ 114 a) 115 b
  | _ => False
set_option maxRecDepth 100000 in
set_option maxHeartbeats 4000000 in
theorem b_value : Bod Bvalue [(111, P_now, Q_now)] P_value Q_value := by sorry
theorem m_value (l : Launch) : RMet l 2 115 P_value Q_value := by sorry
set_option maxRecDepth 100000 in
theorem e_value (l : Launch) : RMetE l 2 115 P_value Q_value := by sorry
def P_sided : RP := fun As σ => match As with
  | [.int c] => 0 ≤ c ∧ c < 4000
  | _ => False
def Q_sided : RQ := fun As σ w τ => match As with
  | [.int c] => w = none ∧ ∃ u v : Int64, τ = sL (sL σ 93 u) 94 v
  | _ => False
set_option maxRecDepth 100000 in
set_option maxHeartbeats 4000000 in
theorem b_sided : Bod Bsided [(112, P_be, Q_be), (111, P_now, Q_now)] P_sided Q_sided := by sorry
theorem m_sided (l : Launch) : RMet l 2 116 P_sided Q_sided := by sorry
set_option maxRecDepth 100000 in
theorem e_sided (l : Launch) : RMetE l 2 116 P_sided Q_sided := by sorry
def P_dead : RP := fun As σ => match As with
  | [] => True
  | _ => False
def Q_dead : RQ := fun As σ w τ => match As with
  | [] => w = none ∧ ∃ v : Int64, τ = sL (sL (sI σ 92 0) 93 v) 94 v
  | _ => False
set_option maxRecDepth 100000 in
set_option maxHeartbeats 4000000 in
theorem b_dead : Bod Bdead [(112, P_be, Q_be)] P_dead Q_dead := by sorry
theorem m_dead (l : Launch) : RMet l 2 120 P_dead Q_dead := by sorry
set_option maxRecDepth 100000 in
theorem e_dead (l : Launch) : RMetE l 2 120 P_dead Q_dead := by sorry
def P_come : RP := fun As σ => match As with
  | [.int k, .int on] => 0 ≤ (gI σ 103) ∧ (gI σ 103) ≤ 600
  | _ => False
def Q_come : RQ := fun As σ w τ => match As with
  | [.int k, .int on] => ∃ (r : Int64) (x : Int32) (f : Nat → Int32), w = some (.long r) ∧ τ = sA (sI σ 116 x) 104 f
  | _ => False
set_option maxRecDepth 100000 in
set_option maxHeartbeats 4000000 in
theorem b_come : Bod Bcome [] P_come Q_come := by sorry
theorem m_come (l : Launch) : RMet l 1 119 P_come Q_come := by sorry
set_option maxRecDepth 100000 in
theorem e_come (l : Launch) : RMetE l 1 119 P_come Q_come := by sorry
def P_ended : RP := fun As σ => match As with
  | [.int k] => (0 ≤ k ∧ k < 600) ∧ (0 ≤ (gI σ 103) ∧ (gI σ 103) ≤ 600)
  | _ => False
def Q_ended : RQ := fun As σ w τ => match As with
  | [.int k] => w = none ∧ ∃ (f : Nat → Int32) (g : Nat → Int64), τ = sM (sA σ 107 f) 108 g
  | _ => False
set_option maxRecDepth 100000 in
set_option maxHeartbeats 4000000 in
theorem b_ended : Bod Bended [(111, P_now, Q_now)] P_ended Q_ended := by sorry
theorem m_ended (l : Launch) : RMet l 2 122 P_ended Q_ended := by sorry
set_option maxRecDepth 100000 in
theorem e_ended (l : Launch) : RMetE l 2 122 P_ended Q_ended := by sorry
def iFw (k : Nat) : Bool := k == 92 || k == 100 || k == 103 || (112 ≤ k && k ≤ 117)
def gFw (k : Nat) : Bool := k == 93 || k == 94
def aFw (k : Nat) : Bool := k == 95 || k == 97 || (104 ≤ k && k ≤ 107) || k == 109 || k == 111
def lFw (k : Nat) : Bool := k == 96 || k == 98 || k == 99 || k == 101 || k == 102 || k == 108 || k == 110
def Fw (σ τ : RS) : Prop := (∀ k, iFw k = false → gI τ k = gI σ k) ∧ (∀ k, gFw k = false → gL τ k = gL σ k) ∧ (∀ k, aFw k = false → aI τ k = aI σ k) ∧ ∀ k, lFw k = false → aL τ k = aL σ k
theorem Fw.rf {σ : RS} : Fw σ σ := by sorry
theorem Fw.tr {σ τ υ : RS} (h1 : Fw σ τ) (h2 : Fw τ υ) : Fw σ υ := by sorry
theorem Fw.i {σ τ : RS} (h : Fw σ τ) {k : Nat} {v : Int32} (hk : iFw k = true) : Fw σ (sI τ k v) := by sorry
theorem Fw.g {σ τ : RS} (h : Fw σ τ) {k : Nat} {v : Int64} (hk : gFw k = true) : Fw σ (sL τ k v) := by sorry
theorem Fw.a {σ τ : RS} (h : Fw σ τ) {k : Nat} {f : Nat → Int32} (hk : aFw k = true) : Fw σ (sA τ k f) := by sorry
theorem Fw.m {σ τ : RS} (h : Fw σ τ) {k : Nat} {f : Nat → Int64} (hk : lFw k = true) : Fw σ (sM τ k f) := by sorry
/-- how many operators of an exp are open -/
def no : List Nat → Nat
  | [] => 0
  | k :: r => (if k = 1 ∨ k = 2 ∨ k = 3 then 1 else 0) + no r
def P_flowExp : RP := fun As σ => match As with
  | [.int c] => (0 ≤ c ∧ c < 4000) ∧ (0 ≤ aI σ 22 c.toNatClampNeg ∧ aI σ 22 c.toNatClampNeg ≤ 500) ∧ (1 ≤ (aI σ 19 c.toNatClampNeg) ∧ (aI σ 19 c.toNatClampNeg) ≤ 18) ∧ (((aI σ 19 c.toNatClampNeg) = 2 ∨ (aI σ 19 c.toNatClampNeg) = 3 ∨ (aI σ 19 c.toNatClampNeg) = 4 ∨ (aI σ 19 c.toNatClampNeg) = 17) → 0 ≤ (aI σ 83 c.toNatClampNeg) ∧ (aI σ 83 c.toNatClampNeg) < 60) ∧ (((aI σ 19 c.toNatClampNeg) = 8 ∨ (aI σ 19 c.toNatClampNeg) = 10 ∨ (aI σ 19 c.toNatClampNeg) = 12) → 0 ≤ (gI σ 100) ∧ (gI σ 100) < 300) ∧ (((aI σ 19 c.toNatClampNeg) = 9 ∨ (aI σ 19 c.toNatClampNeg) = 11 ∨ (aI σ 19 c.toNatClampNeg) = 14 ∨ (aI σ 19 c.toNatClampNeg) = 13) → 1 ≤ (gI σ 100) ∧ (gI σ 100) ≤ 300)
  | _ => False
def Q_flowExp : RQ := fun As σ w τ => match As with
  | [.int c] => w = none ∧ Fw σ τ ∧ (gI τ 92 = gI σ 92 ∧ gI τ 103 = gI σ 103) ∧ aI τ 95 = aI σ 95 ∧ ((((aI σ 19 c.toNatClampNeg) = 8 ∨ (aI σ 19 c.toNatClampNeg) = 10 ∨ (aI σ 19 c.toNatClampNeg) = 12) ∧ gI τ 100 = gI σ 100 + 1) ∨ (((aI σ 19 c.toNatClampNeg) = 9 ∨ (aI σ 19 c.toNatClampNeg) = 11 ∨ (aI σ 19 c.toNatClampNeg) = 14) ∧ gI τ 100 = gI σ 100 - 1) ∨ (¬ ((aI σ 19 c.toNatClampNeg) = 8 ∨ (aI σ 19 c.toNatClampNeg) = 10 ∨ (aI σ 19 c.toNatClampNeg) = 12) ∧ ¬ ((aI σ 19 c.toNatClampNeg) = 9 ∨ (aI σ 19 c.toNatClampNeg) = 11 ∨ (aI σ 19 c.toNatClampNeg) = 14) ∧ gI τ 100 = gI σ 100))
  | _ => False
set_option maxRecDepth 100000 in
set_option maxHeartbeats 4000000 in
theorem b_flowExp : Bod BflowExp [(112, P_be, Q_be), (118, P_findAt, Q_findAt), (111, P_now, Q_now), (116, P_sided, Q_sided), (115, P_value, Q_value)] P_flowExp Q_flowExp := by sorry
theorem m_flowExp (l : Launch) : RMet l 3 117 P_flowExp Q_flowExp := by sorry
set_option maxRecDepth 100000 in
theorem e_flowExp (l : Launch) : RMetE l 3 117 P_flowExp Q_flowExp := by sorry
def FQ (σ τ : RS) (c r : Int32) : Prop := Fw σ τ ∧ gI τ 100 = gI σ 100 ∧ (gI τ 92 = 0 ∨ gI τ 92 = 1) ∧ ((((aI σ 19 c.toNatClampNeg) = 46 ∨ (aI σ 19 c.toNatClampNeg) = 47) ∧ gI τ 103 = gI σ 103 + 1) ∨ (¬ ((aI σ 19 c.toNatClampNeg) = 46 ∨ (aI σ 19 c.toNatClampNeg) = 47) ∧ gI τ 103 = gI σ 103)) ∧ ((aI σ 19 c.toNatClampNeg) = 21 → aI τ 95 = aI σ 95) ∧ (((aI σ 19 c.toNatClampNeg) = 33 ∧ r = aI σ 54 (aI σ 20 c.toNatClampNeg).toNatClampNeg ∧ aI τ 95 (aI σ 20 c.toNatClampNeg).toNatClampNeg = 0) ∨ ((aI σ 19 c.toNatClampNeg) = 35 ∧ ((aI σ 95 (aI σ 20 c.toNatClampNeg).toNatClampNeg = 0 ∧ r = c + 1) ∨ (¬ aI σ 95 (aI σ 20 c.toNatClampNeg).toNatClampNeg = 0 ∧ r = aI σ 55 (aI σ 20 c.toNatClampNeg).toNatClampNeg + 1))) ∨ ((aI σ 19 c.toNatClampNeg) = 36 ∧ r = aI σ 53 (aI σ 20 c.toNatClampNeg).toNatClampNeg + 1 ∧ ¬ aI τ 95 (aI σ 20 c.toNatClampNeg).toNatClampNeg = 0) ∨ (¬ ((aI σ 19 c.toNatClampNeg) = 33 ∨ (aI σ 19 c.toNatClampNeg) = 35 ∨ (aI σ 19 c.toNatClampNeg) = 36) ∧ r = c + 1))
def FSP (σ : RS) (c : Int32) : Prop := (0 ≤ c ∧ c < 4000) ∧ (0 ≤ aI σ 22 c.toNatClampNeg ∧ aI σ 22 c.toNatClampNeg ≤ 500) ∧ (19 ≤ (aI σ 19 c.toNatClampNeg) ∧ (aI σ 19 c.toNatClampNeg) ≤ 54) ∧ (((23 ≤ (aI σ 19 c.toNatClampNeg) ∧ (aI σ 19 c.toNatClampNeg) ≤ 42) ∨ (50 ≤ (aI σ 19 c.toNatClampNeg) ∧ (aI σ 19 c.toNatClampNeg) ≤ 53)) → 0 ≤ (aI σ 20 c.toNatClampNeg) ∧ (aI σ 20 c.toNatClampNeg) < 600) ∧ ((aI σ 19 c.toNatClampNeg) = 54 → 0 ≤ (aI σ 20 c.toNatClampNeg) ∧ (aI σ 20 c.toNatClampNeg) ≤ 11) ∧ (0 ≤ gI σ 103 ∧ gI σ 103 ≤ 600) ∧ (((aI σ 19 c.toNatClampNeg) = 46 ∨ (aI σ 19 c.toNatClampNeg) = 47) → gI σ 103 < 600) ∧ (gI σ 92 = 0 ∨ gI σ 92 = 1)
def P_flowStep : RP := fun As σ => match As with
  | [.int c] => FSP σ c
  | _ => False
def Q_flowStep : RQ := fun As σ w τ => match As with
  | [.int c] => ∃ r : Int32, w = some (.int r) ∧ FQ σ τ c r
  | _ => False
set_option maxRecDepth 100000 in
set_option maxHeartbeats 4000000 in
theorem b_flowStep : Bod BflowStep [(112, P_be, Q_be), (119, P_come, Q_come), (120, P_dead, Q_dead), (122, P_ended, Q_ended), (110, P_lateErr, Q_lateErr), (111, P_now, Q_now), (85, P_resultOf, Q_resultOf)] P_flowStep Q_flowStep := by sorry
theorem m_flowStep (l : Launch) : RMet l 3 121 P_flowStep Q_flowStep := by sorry
set_option maxRecDepth 100000 in
theorem e_flowStep (l : Launch) : RMetE l 3 121 P_flowStep Q_flowStep := by sorry
/-! how things nest: what a code of a statement does to what stands open -/
/-- codes that put their sort on a thing that stands on top, or take it away: from which sort -/
def tfr (n x : Nat) : Bool := (n == 24 && x == 23) || (n == 27 && x == 26) || (n == 30 && x == 29) || (n == 33 && x == 32) || (n == 34 && x == 33) || (n == 35 && x == 34) || (n == 51 && x == 50) || (n == 52 && (x == 50 || x == 51))
def tcl (n x : Nat) : Bool := (n == 25 && (x == 23 || x == 24)) || (n == 28 && x == 27) || (n == 31 && x == 30) || (n == 36 && x == 35) || (n == 40 && x == 37) || (n == 42 && x == 41) || (n == 53 && (x == 51 || x == 52))
/-- what a code does to what stands open -/
theorem sSt_cls {n : Nat} {a : Int32} {c : Nat} {s s' : SS} (h : sSt n a c s = some s') : (s'.1 = s.1 ∧ kpu n = false ∧ tfr n 0 = false) ∨ (n = 20 ∧ s'.1 = (20, c) :: s.1) ∨ (kpu n = true ∧ s'.1 = (n, nT a) :: s.1) ∨ (n = 45 ∧ ∃ r, s.1 = (20, nT a) :: r ∧ s'.1 = r) ∨ (∃ x r, tfr n x = true ∧ s.1 = (x, nT a) :: r ∧ s'.1 = (n, nT a) :: r) ∨ (∃ x r, tcl n x = true ∧ s.1 = (x, nT a) :: r ∧ s'.1 = r) := by sorry
theorem tfr_lt {n x : Nat} (h : tfr n x = true) : x < n ∧ x ≠ 20 ∧ n ≠ 20 ∧ kop n = true ∧ kpu n = false := by sorry
theorem tcl_x {n x : Nat} (h : tcl n x = true) : x < n ∧ x ≠ 20 ∧ kop n = true ∧ kpu n = false := by sorry
theorem kpu_ne {n : Nat} (h : kpu n = true) : n ≠ 20 ∧ n ≠ 45 := by sorry
/-- what stands open behind a code stood open, or the code put it there -/
theorem sSt_mem {n : Nat} {a : Int32} {c : Nat} {s s' : SS} (h : sSt n a c s = some s') : ∀ q ∈ s'.1, q.1 ≠ 20 → q ∈ s.1 ∨ (kpu n = true ∧ q = (n, nT a)) ∨ (∃ x, tfr n x = true ∧ (x, nT a) ∈ s.1 ∧ q = (n, nT a)) := by sorry
/-- each thing is begun once -/
def Up (o a : Nat → Int32) (n : Nat) : Prop := ∀ c d, c < d → d < n → kpu (nT (o c)) = true → kpu (nT (o d)) = true → nT (a c) ≠ nT (a d)
theorem Ss_step {o a : Nat → Int32} {i : Nat} {s' : SS} (h : Ss o a (i + 1) = some s') : ∃ s, Ss o a i = some s ∧ sSt (nT (o i)) (a i) i s = some s' := by sorry
/-- where it was begun -/
theorem Ss_org {o a : Nat → Int32} : ∀ (i : Nat) (s : SS), Ss o a i = some s → ∀ q ∈ s.1, q.1 ≠ 20 → ∃ p, p < i ∧ kpu (nT (o p)) = true ∧ nT (a p) = q.2 := by sorry
/-- a thing stands open once -/
def Nd (l : List (Nat × Nat)) : Prop := l.Pairwise (fun q q' => q.1 ≠ 20 → q'.1 ≠ 20 → q.2 ≠ q'.2)
theorem Ss_nd {o a : Nat → Int32} {n : Nat} (hu : Up o a n) : ∀ (i : Nat), i ≤ n → ∀ s : SS, Ss o a i = some s → Nd s.1 := by sorry
/-- sorts grow: behind a place where each k has at least the sort y, and k has begun -/
theorem Ss_mono {o a : Nat → Int32} {n k y p i : Nat} (hu : Up o a n) (hp : p < i) (hk : kpu (nT (o p)) = true) (hpa : nT (a p) = k) (si : SS) (hi : Ss o a i = some si) (hy : ∀ q ∈ si.1, q.1 ≠ 20 → q.2 = k → y ≤ q.1) : ∀ j, i ≤ j → j ≤ n → ∀ s, Ss o a j = some s → ∀ q ∈ s.1, q.1 ≠ 20 → q.2 = k → y ≤ q.1 := by sorry
/-- behind the end of a thing it stands open no more -/
theorem Ss_gone {o a : Nat → Int32} {n k p i : Nat} (hu : Up o a n) (hp : p < i) (hk : kpu (nT (o p)) = true) (hpa : nT (a p) = k) (si : SS) (hi : Ss o a i = some si) (hy : ∀ q ∈ si.1, q.1 ≠ 20 → q.2 ≠ k) : ∀ j, i ≤ j → j ≤ n → ∀ s, Ss o a j = some s → ∀ q ∈ s.1, q.1 ≠ 20 → q.2 ≠ k := by sorry
/-- which code put it: its sort is the code's -/
theorem Ss_born {o a : Nat → Int32} : ∀ (i : Nat) (s : SS), Ss o a i = some s → ∀ l x k r, s.1 = l ++ (x, k) :: r → x ≠ 20 → ∃ d, d < i ∧ nT (o d) = x ∧ nT (a d) = k ∧ (∃ m, Ss o a (d + 1) = some ((x, k) :: r, m)) ∧ ∀ j, d < j → j ≤ i → ∃ l' m, Ss o a j = some (l' ++ (x, k) :: r, m) := by sorry
/-- what stands open is gone on with, or ended, where all is ended at last -/
theorem Ss_next {o a : Nat → Int32} {n mn x k : Nat} {r : List (Nat × Nat)} (hn : Ss o a n = some ([], mn)) (h20 : x ≠ 20) : ∀ (t i : Nat), i ≤ n → n - i = t → ∀ l m, Ss o a i = some (l ++ (x, k) :: r, m) → ∃ d, i ≤ d ∧ d < n ∧ (∃ m, Ss o a d = some ((x, k) :: r, m)) ∧ nT (a d) = k ∧ ((tfr (nT (o d)) x = true ∧ ∃ m, Ss o a (d + 1) = some ((nT (o d), k) :: r, m)) ∨ (tcl (nT (o d)) x = true ∧ ∃ m, Ss o a (d + 1) = some (r, m))) ∧ ∀ j, i ≤ j → j ≤ d → ∃ l' m, Ss o a j = some (l' ++ (x, k) :: r, m) := by sorry
/-- the program that stands, whole -/
def PK (σ : RS) : Prop := ∃ f k j, PI (sI (sA σ 59 f) 62 0) [] ([], nT (gI σ 36)) k j
theorem PK.j {σ : RS} (h : PK σ) : PJ σ := by sorry
theorem PK.fin {σ : RS} (h : PK σ) : Ss (aI σ 19) (aI σ 20) (nT (gI σ 18)) = some ([], nT (gI σ 36)) := by sorry
theorem PK.up {σ : RS} (h : PK σ) : Up (aI σ 19) (aI σ 20) (nT (gI σ 18)) := by sorry
/-- the codes of a thing follow each other by their sorts -/
def acts (o a : Nat → Int32) (k d : Nat) : Prop := nT (a d) = k ∧ (kpu (nT (o d)) = true ∨ (∃ x, tfr (nT (o d)) x = true) ∨ ∃ x, tcl (nT (o d)) x = true)
theorem sSt_act {n : Nat} {a : Int32} {c : Nat} {s s' : SS} (h : sSt n a c s = some s') (ha : (∃ x, tfr n x = true) ∨ ∃ x, tcl n x = true) : (∃ x r, tfr n x = true ∧ s.1 = (x, nT a) :: r ∧ s'.1 = (n, nT a) :: r) ∨ (∃ x r, tcl n x = true ∧ s.1 = (x, nT a) :: r ∧ s'.1 = r) := by sorry
theorem sSt_pu {n : Nat} {a : Int32} {c : Nat} {s s' : SS} (h : sSt n a c s = some s') (hk : kpu n = true) : s'.1 = (n, nT a) :: s.1 := by sorry
theorem acts_lt {σ : RS} (h : PK σ) {k d v : Nat} (hdv : d < v) (hv : v < nT (gI σ 18)) (hd1 : acts (aI σ 19) (aI σ 20) k d) (hv1 : acts (aI σ 19) (aI σ 20) k v) : nT (aI σ 19 d) < nT (aI σ 19 v) ∧ ¬ ∃ x, tcl (nT (aI σ 19 d)) x = true := by sorry
/-- a row of a thing's numbers tells where its code stands -/
theorem PK.row {σ : RS} (h : PK σ) {k d r : Nat} (hd : d < nT (gI σ 18)) (ha : acts (aI σ 19) (aI σ 20) k d) (hr : ksl (nT (aI σ 19 d)) = r) (hr0 : r ≠ 0) (hk : kop (nT (aI σ 19 d)) = true) : 0 ≤ aI σ r k ∧ nT (aI σ r k) < nT (gI σ 18) ∧ ksl (nT (aI σ 19 (nT (aI σ r k)))) = r ∧ nT (aI σ 20 (nT (aI σ r k))) = k := by sorry
theorem ksl_inv {n r : Nat} (hn : ksl n = r) (hr5 : r = 53 ∨ r = 54 ∨ r = 55 ∨ r = 57 ∨ r = 58) : (r = 53 ∧ n = 34) ∨ (r = 54 ∧ n = 35) ∨ (r = 57 ∧ n = 51) ∨ (r = 58 ∧ n = 52) ∨ (r = 55 ∧ ∃ x, tcl n x = true) := by sorry
theorem PK.uq {σ : RS} (h : PK σ) {k d r : Nat} (hd : d < nT (gI σ 18)) (ha : acts (aI σ 19) (aI σ 20) k d) (hr : ksl (nT (aI σ 19 d)) = r) (hr5 : r = 53 ∨ r = 54 ∨ r = 55 ∨ r = 57 ∨ r = 58) (hk : kop (nT (aI σ 19 d)) = true) : 0 ≤ aI σ r k ∧ nT (aI σ r k) = d := by sorry
theorem tfr_to {n x : Nat} (h : tfr n x = true) : (x = 23 → n = 24) ∧ (x = 26 → n = 27) ∧ (x = 29 → n = 30) ∧ (x = 32 → n = 33) ∧ (x = 33 → n = 34) ∧ (x = 34 → n = 35) ∧ (x ≠ 35 ∧ x ≠ 24 ∧ x ≠ 27 ∧ x ≠ 30 ∧ x ≠ 37 ∧ x ≠ 41 ∧ x ≠ 52) ∧ (x = 50 → n = 51 ∨ n = 52) ∧ (x = 51 → n = 52) := by sorry
theorem tcl_to {n x : Nat} (h : tcl n x = true) : (x = 35 → n = 36) ∧ (x ≠ 32 ∧ x ≠ 33 ∧ x ≠ 34 ∧ x ≠ 26 ∧ x ≠ 29 ∧ x ≠ 50) ∧ (x = 23 ∨ x = 24 → n = 25) ∧ (x = 27 → n = 28) ∧ (x = 30 → n = 31) ∧ (x = 37 → n = 40) ∧ (x = 41 → n = 42) ∧ (x = 51 ∨ x = 52 → n = 53) := by sorry
/-- from the update of a for on: its body, its end -/
theorem PK.f34 {σ : RS} (h : PK σ) {i k m : Nat} {l r : List (Nat × Nat)} (hi : i ≤ nT (gI σ 18)) (hs : Ss (aI σ 19) (aI σ 20) i = some (l ++ (34, k) :: r, m)) : ∃ b, i ≤ b ∧ b < nT (gI σ 18) ∧ nT (aI σ 19 b) = 35 ∧ nT (aI σ 20 b) = k ∧ (∃ m, Ss (aI σ 19) (aI σ 20) b = some ((34, k) :: r, m)) ∧ (∃ m, Ss (aI σ 19) (aI σ 20) (b + 1) = some ((35, k) :: r, m)) ∧ 0 ≤ aI σ 54 k ∧ nT (aI σ 54 k) = b := by sorry
theorem PK.f35 {σ : RS} (h : PK σ) {i k m : Nat} {l r : List (Nat × Nat)} (hi : i ≤ nT (gI σ 18)) (hs : Ss (aI σ 19) (aI σ 20) i = some (l ++ (35, k) :: r, m)) : ∃ e, i ≤ e ∧ e < nT (gI σ 18) ∧ nT (aI σ 19 e) = 36 ∧ nT (aI σ 20 e) = k ∧ (∃ m, Ss (aI σ 19) (aI σ 20) e = some ((35, k) :: r, m)) ∧ (∃ m, Ss (aI σ 19) (aI σ 20) (e + 1) = some (r, m)) ∧ 0 ≤ aI σ 55 k ∧ nT (aI σ 55 k) = e := by sorry
/-- at the test of a for -/
theorem PK.f33 {σ : RS} (h : PK σ) {c : Nat} (hc : c < nT (gI σ 18)) {E E' : List Nat} {s s' : SS} (p : PC σ c E E' s s') (ho : nT (aI σ 19 c) = 33) : ∃ r, s.1 = (32, nT (aI σ 20 c)) :: r ∧ ∃ b, c < b ∧ b < nT (gI σ 18) ∧ nT (aI σ 19 b) = 35 ∧ nT (aI σ 20 b) = nT (aI σ 20 c) ∧ (∃ m, Ss (aI σ 19) (aI σ 20) b = some ((34, nT (aI σ 20 c)) :: r, m)) ∧ 0 ≤ aI σ 54 (nT (aI σ 20 c)) ∧ nT (aI σ 54 (nT (aI σ 20 c))) = b := by sorry
/-- at the end of a for -/
theorem PK.f36 {σ : RS} (h : PK σ) {c : Nat} (hc : c < nT (gI σ 18)) {E E' : List Nat} {s s' : SS} (p : PC σ c E E' s s') (ho : nT (aI σ 19 c) = 36) : ∃ r, s.1 = (35, nT (aI σ 20 c)) :: r ∧ s'.1 = r ∧ (0 ≤ aI σ 55 (nT (aI σ 20 c)) ∧ nT (aI σ 55 (nT (aI σ 20 c))) = c) ∧ ∃ u b, u < b ∧ b < c ∧ nT (aI σ 19 u) = 34 ∧ nT (aI σ 20 u) = nT (aI σ 20 c) ∧ (∃ m, Ss (aI σ 19) (aI σ 20) (u + 1) = some ((34, nT (aI σ 20 c)) :: r, m)) ∧ 0 ≤ aI σ 53 (nT (aI σ 20 c)) ∧ nT (aI σ 53 (nT (aI σ 20 c))) = u ∧ nT (aI σ 54 (nT (aI σ 20 c))) = b := by sorry
theorem no_app (x y : List Nat) : no (x ++ y) = no x + no y := by sorry
theorem no_rep (n : Nat) : no (List.replicate n 0) = 0 := by sorry
theorem no_le : ∀ l : List Nat, no l ≤ l.length := by sorry
theorem eSt_no {o : Nat} {a b : Int32} {E E' : List Nat} (ho : 1 ≤ o ∧ o ≤ 18) (h : eSt o a b E = some E') : ((o = 8 ∨ o = 10 ∨ o = 12) → no E' = no E + 1) ∧ ((o = 9 ∨ o = 11 ∨ o = 14) → no E' + 1 = no E) ∧ (¬ (o = 8 ∨ o = 10 ∨ o = 12) → ¬ (o = 9 ∨ o = 11 ∨ o = 14) → no E' = no E) ∧ (o = 13 → 1 ≤ no E) := by sorry
theorem PK.zp {σ : RS} (h : PK σ) {i : Nat} (hi : i < nT (gI σ 18)) {s : SS} (hs : Ss (aI σ 19) (aI σ 20) i = some s) (hz : zh s.1) : nT (aI σ 19 i) ≤ 18 ∨ aI σ 19 i = 21 ∨ aI σ 19 i = 31 ∨ aI σ 19 i = 35 := by sorry
theorem Nj_mono {o : Nat → Int32} {n : Nat} : ∀ m, n ≤ m → Nj o n ≤ Nj o m := by sorry
theorem PK.nj {σ : RS} (h : PK σ) : Nj (aI σ 19) (nT (gI σ 18)) ≤ 501 := by sorry
def Cl (l : List (Nat × Nat)) : Prop := ∀ q ∈ l, q.1 ≠ 33 ∧ q.1 ≠ 34
/-- where the flow stands: on its way; at the body of a for; in the update of a for -/
def FM (σ X : RS) (c : Nat) (s : SS) (μ : Nat) : Prop :=
  (Cl s.1 ∧ nT (gI X 103) ≤ Nj (aI σ 19) c ∧ μ = (nT (gI σ 18) - c) * 5000) ∨
  (∃ r, s.1 = (34, nT (aI σ 20 c)) :: r ∧ Cl r ∧ nT (aI σ 19 c) = 35 ∧ aI X 95 (nT (aI σ 20 c)) = 0 ∧ nT (gI X 103) ≤ Nj (aI σ 19) c ∧ μ = (nT (gI σ 18) - c) * 5000) ∨
  (∃ k r e m m2, s.1 = (34, k) :: r ∧ Cl r ∧ ¬ aI X 95 k = 0 ∧ c < e ∧ e < nT (gI σ 18) ∧ nT (aI σ 19 e) = 36 ∧ (0 ≤ aI σ 55 k ∧ nT (aI σ 55 k) = e) ∧ Ss (aI σ 19) (aI σ 20) e = some ((35, k) :: r, m2) ∧ Ss (aI σ 19) (aI σ 20) (e + 1) = some (r, m) ∧ nT (gI X 103) ≤ Nj (aI σ 19) (e + 1) ∧ μ = (nT (gI σ 18) - e - 1) * 5000 + (4500 - c))
def FV (σ X : RS) (c μ : Nat) : Prop := Fw σ X ∧ (gI X 92 = 0 ∨ gI X 92 = 1) ∧ (0 ≤ gI X 103 ∧ 0 ≤ gI X 100) ∧ c ≤ nT (gI σ 18) ∧ ∃ E s, Es (aI σ 19) (aI σ 20) (aI σ 21) c = some E ∧ Ss (aI σ 19) (aI σ 20) c = some s ∧ nT (gI X 100) = no E ∧ FM σ X c s μ
theorem FM.jl {σ X : RS} {c μ : Nat} {s : SS} (h : PK σ) (hc : c ≤ nT (gI σ 18)) (hm : FM σ X c s μ) : nT (gI X 103) ≤ 501 := by sorry
/-- over a code of an exp -/
theorem FV.exp {σ X Y : RS} {c μ : Nat} (h : PK σ) (hv : FV σ X c μ) (hc : c < nT (gI σ 18)) (ho : 1 ≤ nT (aI σ 19 c) ∧ nT (aI σ 19 c) ≤ 18) (hF : Fw X Y) (h92 : gI Y 92 = gI X 92) (h103 : gI Y 103 = gI X 103) (h95 : aI Y 95 = aI X 95)
    (h100 : ((nT (aI σ 19 c) = 8 ∨ nT (aI σ 19 c) = 10 ∨ nT (aI σ 19 c) = 12) ∧ gI Y 100 = gI X 100 + 1) ∨ ((nT (aI σ 19 c) = 9 ∨ nT (aI σ 19 c) = 11 ∨ nT (aI σ 19 c) = 14) ∧ gI Y 100 = gI X 100 - 1) ∨ (¬ (nT (aI σ 19 c) = 8 ∨ nT (aI σ 19 c) = 10 ∨ nT (aI σ 19 c) = 12) ∧ ¬ (nT (aI σ 19 c) = 9 ∨ nT (aI σ 19 c) = 11 ∨ nT (aI σ 19 c) = 14) ∧ gI Y 100 = gI X 100)) : ∃ μ', μ' < μ ∧ FV σ Y (c + 1) μ' := by sorry
theorem kpu_33 {n : Nat} (h : kpu n = true) : n ≠ 33 ∧ n ≠ 34 := by sorry
theorem nTi {x : Int32} {n : Nat} (h : nT x = n) (m : Int32) (hm : nT m = n) (hm0 : 0 ≤ m) (h0 : 0 ≤ x) : x = m := nT_eq h0 hm0 (by omega)
/-- over a code of a statement -/
theorem FV.stm {σ X Y : RS} {c r : Int32} {μ : Nat} (h : PK σ) (hv : FV σ X (nT c) μ) (h0 : 0 ≤ c) (hc : nT c < nT (gI σ 18)) (ho : 19 ≤ nT (aI σ 19 (nT c))) (hq : FQ X Y c r) : 0 ≤ r ∧ nT r ≤ nT (gI σ 18) ∧ ∃ μ', μ' < μ ∧ FV σ Y (nT r) μ' := by sorry
def iFu (k : Nat) : Bool := k == 66 || k == 67 || k == 92 || k == 100 || k == 103 || (112 ≤ k && k ≤ 117)
def gFu (k : Nat) : Bool := k == 93 || k == 94
def aFu (k : Nat) : Bool := k == 95 || k == 97 || (104 ≤ k && k ≤ 107) || k == 109 || k == 111
def lFu (k : Nat) : Bool := k == 96 || k == 98 || k == 99 || k == 101 || k == 102 || k == 108 || k == 110
def Fu (σ τ : RS) : Prop := (∀ k, iFu k = false → gI τ k = gI σ k) ∧ (∀ k, gFu k = false → gL τ k = gL σ k) ∧ (∀ k, aFu k = false → aI τ k = aI σ k) ∧ ∀ k, lFu k = false → aL τ k = aL σ k
theorem Fu.rf {σ : RS} : Fu σ σ := by sorry
theorem Fu.tr {σ τ υ : RS} (h1 : Fu σ τ) (h2 : Fu τ υ) : Fu σ υ := by sorry
theorem Fu.i {σ τ : RS} (h : Fu σ τ) {k : Nat} {v : Int32} (hk : iFu k = true) : Fu σ (sI τ k v) := by sorry
theorem Fu.g {σ τ : RS} (h : Fu σ τ) {k : Nat} {v : Int64} (hk : gFu k = true) : Fu σ (sL τ k v) := by sorry
theorem Fu.a {σ τ : RS} (h : Fu σ τ) {k : Nat} {f : Nat → Int32} (hk : aFu k = true) : Fu σ (sA τ k f) := by sorry
theorem Fu.m {σ τ : RS} (h : Fu σ τ) {k : Nat} {f : Nat → Int64} (hk : lFu k = true) : Fu σ (sM τ k f) := by sorry
theorem Fw.v {σ τ : RS} (h : Fw σ τ) : Fu σ τ := by sorry
theorem PJ.fv {σ τ : RS} (h : PJ σ) (hf : Fu σ τ) : PJ τ := by sorry
theorem nTq {x : Int32} (h0 : 0 ≤ x) (q : Int32) (hq : 0 ≤ q) {z : Nat} (hz : nT q = z) : x = q ↔ nT x = z := ⟨fun e => by rw [e, hz], fun e => nTi e q hz hq h0⟩
theorem FV.px {σ X : RS} {c : Int32} {μ : Nat} (h : PK σ) (hv : FV σ X (nT c) μ) (h0 : 0 ≤ c) (hc : nT c < nT (gI σ 18)) (ho : aI σ 19 (nT c) ≤ 18) (hec : EC σ (nT c)) : (0 ≤ c ∧ c < 4000) ∧ (0 ≤ aI X 22 c.toNatClampNeg ∧ aI X 22 c.toNatClampNeg ≤ 500) ∧ (1 ≤ (aI X 19 c.toNatClampNeg) ∧ (aI X 19 c.toNatClampNeg) ≤ 18) ∧ (((aI X 19 c.toNatClampNeg) = 2 ∨ (aI X 19 c.toNatClampNeg) = 3 ∨ (aI X 19 c.toNatClampNeg) = 4 ∨ (aI X 19 c.toNatClampNeg) = 17) → 0 ≤ (aI X 83 c.toNatClampNeg) ∧ (aI X 83 c.toNatClampNeg) < 60) ∧ (((aI X 19 c.toNatClampNeg) = 8 ∨ (aI X 19 c.toNatClampNeg) = 10 ∨ (aI X 19 c.toNatClampNeg) = 12) → 0 ≤ (gI X 100) ∧ (gI X 100) < 300) ∧ (((aI X 19 c.toNatClampNeg) = 9 ∨ (aI X 19 c.toNatClampNeg) = 11 ∨ (aI X 19 c.toNatClampNeg) = 14 ∨ (aI X 19 c.toNatClampNeg) = 13) → 1 ≤ (gI X 100) ∧ (gI X 100) ≤ 300) := by sorry
theorem FV.ps {σ X : RS} {c : Int32} {μ : Nat} (h : PK σ) (hv : FV σ X (nT c) μ) (h0 : 0 ≤ c) (hc : nT c < nT (gI σ 18)) (ho : 19 ≤ aI σ 19 (nT c)) : FSP X c := by sorry
theorem FV.fr {σ X Y : RS} {c μ : Nat} (hv : FV σ X c μ) (hf : Fw X Y) (h92 : gI Y 92 = 0 ∨ gI Y 92 = 1) (h100 : gI Y 100 = gI X 100) (h103 : gI Y 103 = gI X 103) (h95 : aI Y 95 = aI X 95) : FV σ Y c μ := by sorry
theorem FV.zero {σ X : RS} (hf : Fw σ X) (h92 : gI X 92 = 0 ∨ gI X 92 = 1) (h100 : gI X 100 = 0) (h103 : gI X 103 = 0) : FV σ X 0 (nT (gI σ 18) * 5000) := by sorry
def P_flow : RP := fun As σ => match As with
  | [] => PK σ ∧ (0 ≤ (gI σ 2) ∧ (gI σ 2) ≤ 2590) ∧ ∀ i, i < nT (gI σ 18) → EC σ i
  | _ => False
def Q_flow : RQ := fun As σ w τ => match As with
  | [] => w = none ∧ Fu σ τ
  | _ => False
set_option maxRecDepth 100000 in
set_option maxHeartbeats 4000000 in
theorem b_flow : Bod Bflow [(117, P_flowExp, Q_flowExp), (121, P_flowStep, Q_flowStep), (114, P_start, Q_start)] P_flow Q_flow := by sorry
theorem m_flow (l : Launch) : RMet l 4 113 P_flow Q_flow := by sorry
set_option maxRecDepth 100000 in
theorem e_flow (l : Launch) : RMetE l 4 113 P_flow Q_flow := by sorry
def iFm (k : Nat) : Bool := k == 66 || k == 67
def aFm (k : Nat) : Bool := k == 80
def lFm (k : Nat) : Bool := false
def Fm (σ τ : RS) : Prop := (∀ k, iFm k = false → gI τ k = gI σ k) ∧ (∀ k, gL τ k = gL σ k) ∧ (∀ k, aFm k = false → aI τ k = aI σ k) ∧ ∀ k, lFm k = false → aL τ k = aL σ k
theorem Fm.rf {σ : RS} : Fm σ σ := by sorry
theorem Fm.tr {σ τ υ : RS} (h1 : Fm σ τ) (h2 : Fm τ υ) : Fm σ υ := by sorry
theorem Fm.i {σ τ : RS} (h : Fm σ τ) {k : Nat} {v : Int32} (hk : iFm k = true) : Fm σ (sI τ k v) := by sorry
theorem Fm.a {σ τ : RS} (h : Fm σ τ) {k : Nat} {f : Nat → Int32} (hk : aFm k = true) : Fm σ (sA τ k f) := by sorry
theorem Fm.m {σ τ : RS} (h : Fm σ τ) {k : Nat} {f : Nat → Int64} (hk : lFm k = true) : Fm σ (sM τ k f) := by sorry
theorem Fm.j {σ τ : RS} (h : Fm σ τ) : Fj σ τ := by sorry
theorem PJ.mt0 {σ : RS} (h : PJ σ) {m : Int32} (h0 : 0 ≤ m) (hm : m < gI σ 36) : (0 ≤ aI σ 37 m.toNatClampNeg ∧ aI σ 37 m.toNatClampNeg ≤ 500) ∧ (0 ≤ aI σ 39 m.toNatClampNeg ∧ aI σ 39 m.toNatClampNeg ≤ 6) := by sorry
theorem PJ.vt {σ : RS} (h : PJ σ) {v : Int32} (h0 : 0 ≤ v) (hv : v < gI σ 42) : 0 ≤ aI σ 43 v.toNatClampNeg ∧ aI σ 43 v.toNatClampNeg ≤ 500 := by sorry
def P_methodsTold : RP := fun As σ => match As with
  | [] => PJ σ
  | _ => False
def Q_methodsTold : RQ := fun As σ w τ => match As with
  | [] => w = none ∧ Fm σ τ
  | _ => False
set_option maxRecDepth 100000 in
set_option maxHeartbeats 4000000 in
theorem b_methodsTold : Bod BmethodsTold [(70, P_err, Q_err), (86, P_isNamed, Q_isNamed), (84, P_paramsOf, Q_paramsOf), (83, P_typeOfParam, Q_typeOfParam)] P_methodsTold Q_methodsTold := by sorry
theorem m_methodsTold (l : Launch) : RMet l 3 87 P_methodsTold Q_methodsTold := by sorry
set_option maxRecDepth 100000 in
theorem e_methodsTold (l : Launch) : RMetE l 3 87 P_methodsTold Q_methodsTold := by sorry
/-! ahead of the judge's loop, and behind it -/
/-- the program as it was read: no default is known yet -/
def PD (σ : RS) : Prop := ∃ k j, PI (sI σ 62 0) [] ([], nT (gI σ 36)) k j
theorem sA_ids {σ : RS} : sI (sA σ 59 (aI σ 59)) 62 0 = sI σ 62 0 := by sorry
theorem PD.k {σ : RS} (h : PD σ) : PK σ := by sorry
theorem PD.d {σ : RS} (h : PD σ) : ∀ k, k < nT (gI σ 49) → aI σ 59 k = -2 := by sorry
theorem PD.s68 {σ : RS} (h : PD σ) : PD (sI σ 68 1) := by sorry
theorem PK.fj {σ τ : RS} (h : PK σ) (hf : Fj σ τ) : PK τ := by sorry
theorem PK.fv {σ τ : RS} (h : PK σ) (hf : Fu σ τ) : PK τ := by sorry
/-- ahead of the loop over the codes -/
def J0 (σ X : RS) : Prop := Fj σ X ∧ (gI X 69 = 0 ∧ gI X 74 = 0 ∧ gI X 91 = gI σ 91 ∧ gI X 68 = 1) ∧ aI X 59 = aI σ 59
theorem J0.jv {σ X : RS} (hD : PD σ) (h91 : gI σ 91 = 0) (h : J0 σ X) (h89 : gI X 89 = 0) : JV X 0 [] ([], 0) := by sorry
/-- in the loop over the codes -/
def J1 (σ X : RS) (c : Nat) : Prop := Fj σ X ∧ gI X 68 = 1 ∧ c ≤ nT (gI σ 18) ∧ ∃ E s, Es (aI X 19) (aI X 20) (aI X 21) c = some E ∧ Ss (aI X 19) (aI X 20) c = some s ∧ JV X c E s
/-- what the judge leaves -/
def JD (τ : RS) : Prop := PK τ ∧ (gI τ 68 = 1 ∧ gI τ 91 = 0 ∧ (0 ≤ gI τ 74 ∧ gI τ 74 ≤ 2000)) ∧ (∀ k, k < nT (gI τ 49) → aI τ 59 k = -2 ∨ (0 ≤ aI τ 59 k ∧ nT (aI τ 59 k) < nT (gI τ 18) ∧ aI τ 19 (nT (aI τ 59 k)) = 39 ∧ nT (aI τ 20 (nT (aI τ 59 k))) = k)) ∧ (gI τ 66 = 0 → (∀ i, i < nT (gI τ 18) → EC τ i) ∧ Et (aI τ 19) (aI τ 20) (aI τ 21) (aI τ 81) (nT (gI τ 18)) = some [])
theorem J1.jd {σ X : RS} {c : Nat} (hK : PK σ) (h : J1 σ X c) (hc : nT (gI σ 18) ≤ c) : JD X := by sorry
/-- flow leaves it -/
theorem JD.fv {σ τ : RS} (h : JD σ) (hf : Fu σ τ) (he : gI τ 66 = 0 → gI σ 66 = 0) : JD τ := by sorry
theorem JQ.fj {σ τ : RS} {c : Int32} (h : JQ σ τ c) : Fj σ τ := by sorry
theorem SQ.fj {σ τ : RS} {c : Int32} (h : SQ σ τ c) : Fj σ τ := by sorry
def P_judgeAll : RP := fun As σ => match As with
  | [] => PD σ ∧ gI σ 91 = 0 ∧ (0 ≤ (gI σ 2) ∧ (gI σ 2) ≤ 2590)
  | _ => False
def Q_judgeAll : RQ := fun As σ w τ => match As with
  | [] => w = none ∧ JD τ ∧ (∃ X, Fj (sI σ 68 1) X ∧ Fu X τ)
  | _ => False
set_option maxRecDepth 100000 in
set_option maxHeartbeats 4000000 in
theorem b_judgeAll : Bod BjudgeAll [(70, P_err, Q_err), (71, P_find, Q_find), (113, P_flow, Q_flow), (88, P_judgeExp, Q_judgeExp), (105, P_judgeStep, Q_judgeStep), (87, P_methodsTold, Q_methodsTold)] P_judgeAll Q_judgeAll := by sorry
theorem m_judgeAll (l : Launch) : RMet l 6 82 P_judgeAll Q_judgeAll := by sorry
set_option maxRecDepth 100000 in
theorem e_judgeAll (l : Launch) : RMetE l 6 82 P_judgeAll Q_judgeAll := by sorry
def iFg (k : Nat) : Bool := (66 ≤ k && k ≤ 69) || k == 74 || k == 89 || k == 91 || k == 92 || k == 100 || k == 103 || (112 ≤ k && k ≤ 117)
def gFg (k : Nat) : Bool := k == 93 || k == 94
def aFg (k : Nat) : Bool := k == 59 || (70 ≤ k && k ≤ 73) || (75 ≤ k && k ≤ 78) || (80 ≤ k && k ≤ 84) || k == 86 || k == 88 || k == 90 || k == 95 || k == 97 || (104 ≤ k && k ≤ 107) || k == 109 || k == 111
def lFg (k : Nat) : Bool := k == 72 || k == 79 || k == 85 || k == 87 || k == 96 || k == 98 || k == 99 || k == 101 || k == 102 || k == 108 || k == 110
def Fg (σ τ : RS) : Prop := (∀ k, iFg k = false → gI τ k = gI σ k) ∧ (∀ k, gFg k = false → gL τ k = gL σ k) ∧ (∀ k, aFg k = false → aI τ k = aI σ k) ∧ ∀ k, lFg k = false → aL τ k = aL σ k
theorem Fg.rf {σ : RS} : Fg σ σ := by sorry
theorem Fg.tr {σ τ υ : RS} (h1 : Fg σ τ) (h2 : Fg τ υ) : Fg σ υ := by sorry
theorem Fg.i {σ τ : RS} (h : Fg σ τ) {k : Nat} {v : Int32} (hk : iFg k = true) : Fg σ (sI τ k v) := by sorry
theorem Fg.g {σ τ : RS} (h : Fg σ τ) {k : Nat} {v : Int64} (hk : gFg k = true) : Fg σ (sL τ k v) := by sorry
theorem Fg.a {σ τ : RS} (h : Fg σ τ) {k : Nat} {f : Nat → Int32} (hk : aFg k = true) : Fg σ (sA τ k f) := by sorry
theorem Fg.m {σ τ : RS} (h : Fg σ τ) {k : Nat} {f : Nat → Int64} (hk : lFg k = true) : Fg σ (sM τ k f) := by sorry
theorem Fj.g {σ τ : RS} (h : Fj σ τ) : Fg σ τ := by sorry
theorem Fu.g2 {σ τ : RS} (h : Fu σ τ) : Fg σ τ := by sorry
/-- between two calls: the program that stands is judged, or isn't yet -/
def IG (σ : RS) : Prop := gI σ 91 = 0 ∧ (0 ≤ gI σ 2 ∧ gI σ 2 ≤ 2590) ∧ ((gI σ 68 = 0 ∧ PD σ) ∨ JD σ)
def P_isGood : RP := fun As σ => match As with
  | [] => IG σ
  | _ => False
def Q_isGood : RQ := fun As σ w τ => match As with
  | [] => ∃ r : Int32, w = some (.int r) ∧ (r = 0 ∨ (r = 1 ∧ gI τ 66 = 0)) ∧ JD τ ∧ Fg σ τ
  | _ => False
set_option maxRecDepth 100000 in
set_option maxHeartbeats 4000000 in
theorem b_isGood : Bod BisGood [(82, P_judgeAll, Q_judgeAll)] P_isGood Q_isGood := by sorry
theorem m_isGood (l : Launch) : RMet l 7 125 P_isGood Q_isGood := by sorry
set_option maxRecDepth 100000 in
theorem e_isGood (l : Launch) : RMetE l 7 125 P_isGood Q_isGood := by sorry
def P_judge : RP := fun As σ => match As with
  | [] => IG σ
  | _ => False
def Q_judge : RQ := fun As σ w τ => match As with
  | [] => ∃ (r : Int32) (X : RS) (b : Int32), w = some (.int r) ∧ JD X ∧ Fg σ X ∧ τ = sI X 120 b
  | _ => False
set_option maxRecDepth 100000 in
set_option maxHeartbeats 4000000 in
theorem b_judge : Bod Bjudge [(125, P_isGood, Q_isGood)] P_judge Q_judge := by sorry
theorem m_judge (l : Launch) : RMet l 8 126 P_judge Q_judge := by sorry
set_option maxRecDepth 100000 in
theorem e_judge (l : Launch) : RMetE l 8 126 P_judge Q_judge := by sorry
def P_means : RP := fun As σ => match As with
  | [.int i] => IG σ
  | _ => False
def Q_means : RQ := fun As σ w τ => match As with
  | [.int i] => ∃ r : Int32, w = some (.int r) ∧ (τ = σ ∨ (JD τ ∧ Fg σ τ))
  | _ => False
set_option maxRecDepth 100000 in
set_option maxHeartbeats 4000000 in
theorem b_means : Bod Bmeans [(125, P_isGood, Q_isGood), (129, P_isToken, Q_isToken)] P_means Q_means := by sorry
theorem m_means (l : Launch) : RMet l 8 133 P_means Q_means := by sorry
set_option maxRecDepth 100000 in
theorem e_means (l : Launch) : RMetE l 8 133 P_means Q_means := by sorry
def P_expAt : RP := fun As σ => match As with
  | [.int i, .int k] => 0 ≤ (gI σ 74) ∧ (gI σ 74) ≤ 2000
  | _ => False
def Q_expAt : RQ := fun As σ w τ => match As with
  | [.int i, .int k] => ∃ r : Int32, w = some (.int r) ∧ (r = -2 ∨ (0 ≤ r ∧ r < 2000)) ∧ τ = σ
  | _ => False
set_option maxRecDepth 100000 in
set_option maxHeartbeats 4000000 in
theorem b_expAt : Bod BexpAt [] P_expAt Q_expAt := by sorry
theorem m_expAt (l : Launch) : RMet l 1 134 P_expAt Q_expAt := by sorry
set_option maxRecDepth 100000 in
theorem e_expAt (l : Launch) : RMetE l 1 134 P_expAt Q_expAt := by sorry
def P_type : RP := fun As σ => match As with
  | [.int i, .int k] => IG σ
  | _ => False
def Q_type : RQ := fun As σ w τ => match As with
  | [.int i, .int k] => ∃ r : Int32, w = some (.int r) ∧ JD τ ∧ Fg σ τ
  | _ => False
set_option maxRecDepth 100000 in
set_option maxHeartbeats 4000000 in
theorem b_type : Bod Btype [(134, P_expAt, Q_expAt), (125, P_isGood, Q_isGood)] P_type Q_type := by sorry
theorem m_type (l : Launch) : RMet l 8 135 P_type Q_type := by sorry
set_option maxRecDepth 100000 in
theorem e_type (l : Launch) : RMetE l 8 135 P_type Q_type := by sorry
def P_constant : RP := fun As σ => match As with
  | [.int i, .int k] => IG σ
  | _ => False
def Q_constant : RQ := fun As σ w τ => match As with
  | [.int i, .int k] => ∃ r : Int64, w = some (.long r) ∧ JD τ ∧ Fg σ τ
  | _ => False
set_option maxRecDepth 100000 in
set_option maxHeartbeats 4000000 in
theorem b_constant : Bod Bconstant [(134, P_expAt, Q_expAt), (125, P_isGood, Q_isGood)] P_constant Q_constant := by sorry
theorem m_constant (l : Launch) : RMet l 8 136 P_constant Q_constant := by sorry
set_option maxRecDepth 100000 in
theorem e_constant (l : Launch) : RMetE l 8 136 P_constant Q_constant := by sorry
def P_ends : RP := fun As σ => match As with
  | [.int i] => IG σ
  | _ => False
def Q_ends : RQ := fun As σ w τ => match As with
  | [.int i] => ∃ r : Int32, w = some (.int r) ∧ JD τ ∧ Fg σ τ
  | _ => False
set_option maxRecDepth 100000 in
set_option maxHeartbeats 4000000 in
theorem b_ends : Bod Bends [(125, P_isGood, Q_isGood), (129, P_isToken, Q_isToken)] P_ends Q_ends := by sorry
theorem m_ends (l : Launch) : RMet l 8 137 P_ends Q_ends := by sorry
set_option maxRecDepth 100000 in
theorem e_ends (l : Launch) : RMetE l 8 137 P_ends Q_ends := by sorry
def P_assigned : RP := fun As σ => match As with
  | [.int i, .int k] => IG σ
  | _ => False
def Q_assigned : RQ := fun As σ w τ => match As with
  | [.int i, .int k] => ∃ r : Int32, w = some (.int r) ∧ JD τ ∧ Fg σ τ
  | _ => False
set_option maxRecDepth 100000 in
set_option maxHeartbeats 4000000 in
theorem b_assigned : Bod Bassigned [(125, P_isGood, Q_isGood), (129, P_isToken, Q_isToken)] P_assigned Q_assigned := by sorry
theorem m_assigned (l : Launch) : RMet l 8 138 P_assigned Q_assigned := by sorry
set_option maxRecDepth 100000 in
theorem e_assigned (l : Launch) : RMetE l 8 138 P_assigned Q_assigned := by sorry
def P_ran : RP := fun As σ => match As with
  | [.int what] => 0 ≤ (gI σ 148) ∧ (gI σ 148) ≤ 200
  | _ => False
def Q_ran : RQ := fun As σ w τ => match As with
  | [.int what] => ∃ r : Int64, w = some (.long r) ∧ τ = σ
  | _ => False
set_option maxRecDepth 100000 in
set_option maxHeartbeats 4000000 in
theorem m_ran (l : Launch) : RMet l 1 160 P_ran Q_ran := by sorry
/-! links: where && || ? : go on -/
/-- an operator of an exp stands open: the code is one of an exp -/
theorem eSt_open {o : Nat} {a b : Int32} {E E' l r : List Nat} {k : Nat} (h : eSt o a b E = some E') (he : E = l ++ k :: r) (hk : k = 1 ∨ k = 2 ∨ k = 3) : o ≤ 18 := by sorry
theorem eSt_suf {o : Nat} {a b : Int32} {E E' l r : List Nat} {k : Nat} (h : eSt o a b E = some E') (ho : ¬ (8 ≤ o ∧ o ≤ 14)) (he : E' = l ++ k :: r) (hk : k = 1 ∨ k = 2 ∨ k = 3) : ∃ l', E = l' ++ k :: r := by sorry
def okk (k o : Nat) : Prop := (k = 1 ∧ (o = 8 ∨ o = 10)) ∨ (k = 2 ∧ o = 12) ∨ (k = 3 ∧ o = 13)
/-- the open operators stand in linked -/
def OL (σ X : RS) (E : List Nat) (c : Nat) : Prop := ∀ l k r, E = l ++ k :: r → (k = 1 ∨ k = 2 ∨ k = 3) → ∃ p, p < c ∧ (0 ≤ aI X 126 (no r) ∧ nT (aI X 126 (no r)) = p) ∧ Es (aI σ 19) (aI σ 20) (aI σ 21) (p + 1) = some (k :: r) ∧ okk k (nT (aI σ 19 p)) ∧ ∀ i, p ≤ i → i < c → nT (aI σ 19 i) ≤ 18
/-- a link -/
def LD (σ X : RS) (p c : Nat) : Prop := 0 ≤ aI X 125 p ∧ p < nT (aI X 125 p) ∧ nT (aI X 125 p) < c ∧ (∀ i, p ≤ i → i ≤ nT (aI X 125 p) → nT (aI σ 19 i) ≤ 18) ∧ ∃ r, ((nT (aI σ 19 p) = 8 ∨ nT (aI σ 19 p) = 10) ∧ Es (aI σ 19) (aI σ 20) (aI σ 21) (p + 1) = some (1 :: r) ∧ Es (aI σ 19) (aI σ 20) (aI σ 21) (nT (aI X 125 p) + 1) = some (0 :: r) ∧ (nT (aI σ 19 (nT (aI X 125 p))) = 9 ∨ nT (aI σ 19 (nT (aI X 125 p))) = 11 ∨ nT (aI σ 19 (nT (aI X 125 p))) = 14)) ∨ (nT (aI σ 19 p) = 12 ∧ Es (aI σ 19) (aI σ 20) (aI σ 21) (p + 1) = some (2 :: r) ∧ nT (aI σ 19 (nT (aI X 125 p))) = 13 ∧ Es (aI σ 19) (aI σ 20) (aI σ 21) (nT (aI X 125 p) + 1) = some (3 :: r)) ∨ (nT (aI σ 19 p) = 13 ∧ Es (aI σ 19) (aI σ 20) (aI σ 21) (p + 1) = some (3 :: r) ∧ Es (aI σ 19) (aI σ 20) (aI σ 21) (nT (aI X 125 p) + 1) = some (0 :: r) ∧ (nT (aI σ 19 (nT (aI X 125 p))) = 9 ∨ nT (aI σ 19 (nT (aI X 125 p))) = 11 ∨ nT (aI σ 19 (nT (aI X 125 p))) = 14))
def LO (σ X : RS) (E : List Nat) (p : Nat) : Prop := ∃ l k r, E = l ++ k :: r ∧ okk k (nT (aI σ 19 p)) ∧ nT (aI X 126 (no r)) = p ∧ Es (aI σ 19) (aI σ 20) (aI σ 21) (p + 1) = some (k :: r)
def isl (n : Nat) : Prop := n = 8 ∨ n = 10 ∨ n = 12 ∨ n = 13
/-- links' loop -/
def LV2 (σ X : RS) (c : Nat) (n : Int32) : Prop := (∀ k, gI X k = gI σ k) ∧ (∀ k, k ≠ 125 → k ≠ 126 → aI X k = aI σ k) ∧ c ≤ nT (gI σ 18) ∧ ∃ E, Es (aI σ 19) (aI σ 20) (aI σ 21) c = some E ∧ (0 ≤ n ∧ nT n = no E) ∧ OL σ X E c ∧ ∀ p, p < c → isl (nT (aI σ 19 p)) → LO σ X E p ∨ LD σ X p c
theorem LD.up {σ X : RS} {p c c' : Nat} (h : LD σ X p c) (hc : c ≤ c') : LD σ X p c' := by sorry
theorem eSt_keep {o : Nat} {a b : Int32} {E E' l r : List Nat} {k : Nat} (h : eSt o a b E = some E') (ho : ¬ (8 ≤ o ∧ o ≤ 14)) (he : E = l ++ k :: r) (hk : k = 1 ∨ k = 2 ∨ k = 3) : ∃ l', E' = l' ++ k :: r := by sorry
theorem no_cons (k : Nat) (r : List Nat) : no (k :: r) = (if k = 1 ∨ k = 2 ∨ k = 3 then 1 else 0) + no r := rfl
theorem no_lt {r l r' : List Nat} {k : Nat} (h : r = l ++ k :: r') (hk : k = 1 ∨ k = 2 ∨ k = 3) : no r' < no r := by sorry
theorem okk_k {k o : Nat} (h : okk k o) : k = 1 ∨ k = 2 ∨ k = 3 := by sorry
theorem aI_126 {X : RS} {f : Nat → Int32} : aI (sA X 126 f) 126 = f := rfl
/-- an operator is opened -/
theorem LV2.opn {σ X : RS} {c n : Int32} {E E' : List Nat} {s s' : SS} (h : LV2 σ X (nT c) n) (h0 : 0 ≤ c) (hc : nT c < nT (gI σ 18)) (p : PC σ (nT c) E E' s s') (ho : nT (aI σ 19 (nT c)) = 8 ∨ nT (aI σ 19 (nT c)) = 10 ∨ nT (aI σ 19 (nT c)) = 12) : LV2 σ (sA X 126 (upd (aI X 126) (nT n) c)) (nT c + 1) (n + 1) := by sorry
/-- an operator is closed -/
theorem LV2.cls {σ X : RS} {c n : Int32} {E E' : List Nat} {s s' : SS} (h : LV2 σ X (nT c) n) (h0 : 0 ≤ c) (hc : nT c < nT (gI σ 18)) (p : PC σ (nT c) E E' s s') (ho : nT (aI σ 19 (nT c)) = 9 ∨ nT (aI σ 19 (nT c)) = 11 ∨ nT (aI σ 19 (nT c)) = 14) : (1 ≤ n ∧ n ≤ 251) ∧ (0 ≤ aI X 126 (nT (n - 1)) ∧ aI X 126 (nT (n - 1)) < 4000) ∧ LV2 σ (sA X 125 (upd (aI X 125) (nT (aI X 126 (nT (n - 1)))) c)) (nT c + 1) (n - 1) := by sorry
/-- the : of a ? -/
theorem LV2.qe {σ X : RS} {c n : Int32} {E E' : List Nat} {s s' : SS} (h : LV2 σ X (nT c) n) (h0 : 0 ≤ c) (hc : nT c < nT (gI σ 18)) (p : PC σ (nT c) E E' s s') (ho : nT (aI σ 19 (nT c)) = 13) : (1 ≤ n ∧ n ≤ 251) ∧ (0 ≤ aI X 126 (nT (n - 1)) ∧ aI X 126 (nT (n - 1)) < 4000) ∧ LV2 σ (sA (sA X 125 (upd (aI X 125) (nT (aI X 126 (nT (n - 1)))) c)) 126 (upd (aI X 126) (nT (n - 1)) c)) (nT c + 1) n := by sorry
/-- all others -/
theorem LV2.nx {σ X : RS} {c n : Int32} {E E' : List Nat} {s s' : SS} (h : LV2 σ X (nT c) n) (h0 : 0 ≤ c) (hc : nT c < nT (gI σ 18)) (p : PC σ (nT c) E E' s s') (ho : ¬ (8 ≤ nT (aI σ 19 (nT c)) ∧ nT (aI σ 19 (nT c)) ≤ 14)) : LV2 σ X (nT c + 1) n := by sorry
def LQ (σ τ : RS) : Prop := (∀ k, gI τ k = gI σ k) ∧ (∀ k, gL τ k = gL σ k) ∧ (∀ k, k ≠ 125 → k ≠ 126 → aI τ k = aI σ k) ∧ (∀ k, aL τ k = aL σ k) ∧ ∀ p, p < nT (gI σ 18) → isl (nT (aI σ 19 p)) → LD σ τ p (nT (gI σ 18))
theorem LV2.fin {σ X : RS} {c : Nat} {n : Int32} (hK : PK σ) (h : LV2 σ X c n) (hc : nT (gI σ 18) ≤ c) (hg : ∀ k, gL X k = gL σ k) (hl : ∀ k, aL X k = aL σ k) : LQ σ X := by sorry
theorem LV2.nb {σ X : RS} {c : Nat} {n : Int32} (hK : PK σ) (h : LV2 σ X c n) (hc : c < nT (gI σ 18)) : 0 ≤ n ∧ n ≤ 251 := by sorry
def P_links : RP := fun As σ => match As with
  | [] => PK σ
  | _ => False
def Q_links : RQ := fun As σ w τ => match As with
  | [] => w = none ∧ LQ σ τ
  | _ => False
set_option maxRecDepth 100000 in
set_option maxHeartbeats 4000000 in
theorem m_links (l : Launch) : RMet l 1 142 P_links Q_links := by sorry
/-! the run: the pile of values ahead of each code of a judged program -/
/-- void values stand on top alone -/
def gd : List Nat → Prop
  | [] => True
  | x :: r => (10 ≤ x → x % 10 = 0) ∧ ∀ k ∈ r, k < 10
theorem gd_tail {x : Nat} {r : List Nat} (h : ∀ k ∈ r, k < 10) : gd r := by sorry
theorem er_id {r : List Nat} (h : ∀ k ∈ r, k < 10) : er r = r := by sorry
theorem eT_er {o : Nat} {a b t : Int32} {z z' : List Nat} (h : eT o a b t z = some z') : eSt o a b (er z) = some (er z') := by sorry
theorem eT_gd {o : Nat} {a b t : Int32} {z z' : List Nat} (h : eT o a b t z = some z') (hg : gd z') : gd z := by sorry
theorem Et_step {o a b t : Nat → Int32} {i : Nat} {z' : List Nat} (h : Et o a b t (i + 1) = some z') : ∃ z, Et o a b t i = some z ∧ eT (nT (o i)) (a i) (b i) (t i) z = some z' := by sorry
/-- ahead of each code -/
theorem Et_all {o a b t : Nat → Int32} {n : Nat} (h : Et o a b t n = some []) : ∀ d c, c + d = n → ∃ z, Et o a b t c = some z ∧ gd z := by sorry
theorem Et_Es {o a b t : Nat → Int32} : ∀ (c : Nat) (z : List Nat), Et o a b t c = some z → Es o a b c = some (er z) := by sorry
/-- how many values the run has of such a pile -/
def wz : List Nat → Nat
  | [] => 0
  | k :: r => (if k = 0 ∨ k = 4 then 1 else 0) + wz r
theorem wz_le : ∀ l : List Nat, wz l ≤ l.length := by sorry
theorem wz_app (x y : List Nat) : wz (x ++ y) = wz x + wz y := by sorry
theorem wz_rep (n : Nat) : wz (List.replicate n 0) = n := by sorry
/-! a thing's life: from the code that begins it to the code that ends it the same stands open under it -/
theorem tfr_54 {n x : Nat} (h : tfr n x = true) : n ≠ 54 ∧ 18 < n := by sorry
/-- a sort that stands open -/
theorem Ss_sort {o a : Nat → Int32} : ∀ (i : Nat) (s : SS), Ss o a i = some s → ∀ q ∈ s.1, q.1 ≠ 20 → kpu q.1 = true ∨ ∃ y, tfr q.1 y = true := by sorry
/-- the code that begins what stands open with that sort -/
def bs (x : Nat) : Nat := match x with
  | 24 => 23
  | 27 => 26
  | 30 => 29
  | 33 => 32
  | 34 => 32
  | 35 => 32
  | 51 => 50
  | 52 => 50
  | x => x
theorem bs_tfr {n x : Nat} (h : tfr n x = true) : bs n = bs x := by sorry
theorem bs_kpu {n : Nat} (h : kpu n = true) : bs n = n := by sorry
theorem PK.back {σ : RS} (h : PK σ) : ∀ (c : Nat), c ≤ nT (gI σ 18) → ∀ l x k r m, Ss (aI σ 19) (aI σ 20) c = some (l ++ (x, k) :: r, m) → x ≠ 20 → ∃ b, b < c ∧ (kpu (nT (aI σ 19 b)) = true ∧ nT (aI σ 19 b) = bs x) ∧ nT (aI σ 20 b) = k ∧ (∃ m, Ss (aI σ 19) (aI σ 20) b = some (r, m)) ∧ ∀ i, b < i → i ≤ c → ∃ l' y m, (y ≠ 20 ∧ bs y = bs x) ∧ Ss (aI σ 19) (aI σ 20) i = some (l' ++ (y, k) :: r, m) := by sorry
theorem PK.fwd {σ : RS} (h : PK σ) : ∀ (t c : Nat), nT (gI σ 18) - c = t → c ≤ nT (gI σ 18) → ∀ l x k r m, Ss (aI σ 19) (aI σ 20) c = some (l ++ (x, k) :: r, m) → x ≠ 20 → ∃ e, c ≤ e ∧ e < nT (gI σ 18) ∧ (∃ y, tcl (nT (aI σ 19 e)) y = true) ∧ nT (aI σ 20 e) = k ∧ (∃ m, Ss (aI σ 19) (aI σ 20) (e + 1) = some (r, m)) ∧ ∀ i, c ≤ i → i ≤ e → ∃ l' y m, (y ≠ 20 ∧ bs y = bs x) ∧ Ss (aI σ 19) (aI σ 20) i = some (l' ++ (y, k) :: r, m) := by sorry
/-- its life -/
theorem PK.life {σ : RS} (h : PK σ) {c : Nat} (hc : c ≤ nT (gI σ 18)) {l : List (Nat × Nat)} {x k : Nat} {r : List (Nat × Nat)} {m : Nat} (hs : Ss (aI σ 19) (aI σ 20) c = some (l ++ (x, k) :: r, m)) (h20 : x ≠ 20) : ∃ b e, (b < c ∧ c ≤ e ∧ e < nT (gI σ 18)) ∧ ((kpu (nT (aI σ 19 b)) = true ∧ nT (aI σ 19 b) = bs x) ∧ nT (aI σ 20 b) = k ∧ ∃ m, Ss (aI σ 19) (aI σ 20) b = some (r, m)) ∧ ((∃ y, tcl (nT (aI σ 19 e)) y = true) ∧ nT (aI σ 20 e) = k ∧ (∃ m, Ss (aI σ 19) (aI σ 20) (e + 1) = some (r, m)) ∧ 0 ≤ aI σ 55 k ∧ nT (aI σ 55 k) = e) ∧ ∀ i, b < i → i ≤ e → ∃ l' y m, (y ≠ 20 ∧ bs y = bs x) ∧ Ss (aI σ 19) (aI σ 20) i = some (l' ++ (y, k) :: r, m) := by sorry
/-! where a thing's codes stand, and what stands open there -/
abbrev st (σ : RS) (c : Nat) : Option SS := Ss (aI σ 19) (aI σ 20) c
abbrev zt (σ : RS) (c : Nat) : Option (List Nat) := Et (aI σ 19) (aI σ 20) (aI σ 21) (aI σ 81) c
theorem Ss_mc {o a : Nat → Int32} : ∀ (t c : Nat), (∀ i, c ≤ i → i < c + t → ∀ s, Ss o a i = some s → s.1 ≠ []) → ∀ s s', Ss o a c = some s → Ss o a (c + t) = some s' → s'.2 = s.2 := by sorry
theorem PK.beg {σ : RS} (h : PK σ) {c : Nat} (hc : c ≤ nT (gI σ 18)) {l : List (Nat × Nat)} {x k : Nat} {r : List (Nat × Nat)} {m : Nat} (hs : st σ c = some (l ++ (x, k) :: r, m)) (h20 : x ≠ 20) : ∃ b, b < c ∧ (kpu (nT (aI σ 19 b)) = true ∧ nT (aI σ 19 b) = bs x) ∧ nT (aI σ 20 b) = k ∧ st σ b = some (r, m) := by sorry
/-- what stands open under a thing is always the same -/
theorem PK.rest {σ : RS} (h : PK σ) {c d : Nat} (hc : c ≤ nT (gI σ 18)) (hd : d ≤ nT (gI σ 18)) {l l' : List (Nat × Nat)} {x x' k : Nat} {r r' : List (Nat × Nat)} {m m' : Nat} (hs : st σ c = some (l ++ (x, k) :: r, m)) (h20 : x ≠ 20) (hs' : st σ d = some (l' ++ (x', k) :: r', m')) (h20' : x' ≠ 20) : r' = r ∧ m' = m ∧ bs x' = bs x := by sorry
/-- a code of a thing that comes later than the sort with which it stands open -/
theorem PK.code {σ : RS} (h : PK σ) {c p : Nat} (hc : c ≤ nT (gI σ 18)) (hp : p < nT (gI σ 18)) {l : List (Nat × Nat)} {x k : Nat} {r : List (Nat × Nat)} {m : Nat} (hs : st σ c = some (l ++ (x, k) :: r, m)) (h20 : x ≠ 20) (ha : nT (aI σ 20 p) = k) (ht : (∃ y, tfr (nT (aI σ 19 p)) y = true) ∨ ∃ y, tcl (nT (aI σ 19 p)) y = true) : (x < nT (aI σ 19 p) → c ≤ p) ∧ (∃ y, (y ≠ 20 ∧ bs y = bs x) ∧ st σ p = some ((y, k) :: r, m)) ∧ ((∃ y, tfr (nT (aI σ 19 p)) y = true) → st σ (p + 1) = some ((nT (aI σ 19 p), k) :: r, m)) ∧ ((∃ y, tcl (nT (aI σ 19 p)) y = true) → st σ (p + 1) = some (r, m)) := by sorry
/-- its end -/
theorem PK.end {σ : RS} (h : PK σ) {c : Nat} (hc : c ≤ nT (gI σ 18)) {l : List (Nat × Nat)} {x k : Nat} {r : List (Nat × Nat)} {m : Nat} (hs : st σ c = some (l ++ (x, k) :: r, m)) (h20 : x ≠ 20) : (0 ≤ aI σ 55 k ∧ c ≤ nT (aI σ 55 k) ∧ nT (aI σ 55 k) < nT (gI σ 18)) ∧ st σ (nT (aI σ 55 k) + 1) = some (r, m) ∧ 19 ≤ nT (aI σ 19 (nT (aI σ 55 k))) := by sorry
/-- a thing is a thing -/
theorem PK.thg {σ : RS} (h : PK σ) {c : Nat} (hc : c ≤ nT (gI σ 18)) {l : List (Nat × Nat)} {x k : Nat} {r : List (Nat × Nat)} {m : Nat} (hs : st σ c = some (l ++ (x, k) :: r, m)) (h20 : x ≠ 20) : k < nT (gI σ 49) := by sorry
/-- rows of a thing's numbers that are set -/
theorem PK.num {σ : RS} (h : PK σ) {k r : Nat} (hk : k < nT (gI σ 49)) (hr : 52 ≤ r ∧ r ≤ 58) : aI σ r k = -2 ∨ (0 ≤ aI σ r k ∧ nT (aI σ r k) < nT (gI σ 18) ∧ ksl (nT (aI σ 19 (nT (aI σ r k)))) = r ∧ nT (aI σ 20 (nT (aI σ r k))) = k) := by sorry
/-! what holds while a program runs -/
def RG (σ : RS) : Prop := JD σ ∧ gI σ 66 = 0 ∧ ∀ p, p < nT (gI σ 18) → isl (nT (aI σ 19 p)) → LD σ σ p (nT (gI σ 18))
theorem RG.k {σ : RS} (h : RG σ) : PK σ := h.1.1
theorem RG.ec {σ : RS} (h : RG σ) {i : Nat} (hi : i < nT (gI σ 18)) : EC σ i := (h.1.2.2.2 h.2.1).1 i hi
theorem RG.zs {σ : RS} (h : RG σ) {c : Nat} (hc : c ≤ nT (gI σ 18)) : ∃ z, zt σ c = some z ∧ gd z := Et_all (h.1.2.2.2 h.2.1).2 (nT (gI σ 18) - c) c (by omega)
theorem eT_s {o : Nat} {a b t : Int32} {z z' : List Nat} (ho : 19 ≤ o) (h : eT o a b t z = some z') : z' = [] ∧ ((∃ x, z = [x] ∧ x % 10 = 0 ∧ (o ≠ 21 → x = 0) ∧ pop1 o a b) ∨ (z = [] ∧ ¬ pop1 o a b)) := by sorry
/-- one code: ahead of it, behind it -/
theorem RG.cd {σ : RS} (h : RG σ) {c : Nat} (hc : c < nT (gI σ 18)) : ∃ z z', (zt σ c = some z ∧ gd z) ∧ (zt σ (c + 1) = some z' ∧ gd z') ∧ eT (nT (aI σ 19 c)) (aI σ 20 c) (aI σ 21 c) (aI σ 81 c) z = some z' := by sorry
theorem RG.beh {σ : RS} (h : RG σ) {c : Nat} (hc : c < nT (gI σ 18)) (ho : 19 ≤ nT (aI σ 19 c)) : zt σ (c + 1) = some [] := by sorry
theorem RG.ahd {σ : RS} (h : RG σ) {c : Nat} (hc : c < nT (gI σ 18)) (ho : 19 ≤ nT (aI σ 19 c)) (hp : ¬ pop1 (nT (aI σ 19 c)) (aI σ 20 c) (aI σ 21 c)) : zt σ c = some [] := by sorry
theorem RG.wz {σ : RS} (h : RG σ) {c : Nat} (hc : c ≤ nT (gI σ 18)) {z : List Nat} (hz : zt σ c = some z) : z.length ≤ 251 := by sorry
/-- a method that runs has a code there -/
theorem RG.in_ {σ : RS} (h : RG σ) {c : Nat} (hc : c ≤ nT (gI σ 18)) {l : List (Nat × Nat)} {m : Nat} (hs : st σ c = some (l, m)) (hm : m < nT (gI σ 36)) : c < nT (gI σ 18) := by sorry
/-- tries that stand open -/
def trs (l : List (Nat × Nat)) : List (Nat × Nat) := l.filter (fun q => decide (50 ≤ q.1 ∧ q.1 ≤ 52))
theorem trs_in {x k : Nat} {r : List (Nat × Nat)} (h : 50 ≤ x ∧ x ≤ 52) : trs ((x, k) :: r) = (x, k) :: trs r := by sorry
theorem trs_out {x k : Nat} {r : List (Nat × Nat)} (h : ¬ (50 ≤ x ∧ x ≤ 52)) : trs ((x, k) :: r) = trs r := by sorry
theorem trs_nl (l : List (Nat × Nat)) : (trs l).length ≤ nl l := by sorry
theorem trs_split {l w u : List (Nat × Nat)} {x k : Nat} (h : trs l = w ++ (x, k) :: u) : (50 ≤ x ∧ x ≤ 52) ∧ ∃ l1 l2, l = l1 ++ (x, k) :: l2 ∧ trs l1 = w ∧ trs l2 = u := by sorry
/-- how far a place is on the way -/
def vp (σ : RS) (c : Nat) : Nat := if nT (aI σ 19 c) = 26 ∨ nT (aI σ 19 c) = 32 then 25000000 else match st σ c with
  | some ((30, k) :: _, _) => 5000 * nT (aI σ 51 k) + c
  | some ((34, k) :: _, _) => 5000 * nT (aI σ 55 k) + c
  | _ => 5000 * c
/-- where a jump leads, under the tries u -/
def GT (σ : RS) (m : Nat) (to : Int32) (u : List (Nat × Nat)) : Prop := 0 ≤ to ∧ ∃ l w, (nT to ≤ nT (gI σ 18) ∧ zt σ (nT to) = some [] ∧ st σ (nT to) = some (l, m)) ∧ u = w ++ trs l ∧ (∀ q ∈ w, ¬ (aI σ 51 q.2 ≤ to ∧ to ≤ aI σ 55 q.2) ∧ 5000 * nT (aI σ 55 q.2) < vp σ (nT to)) ∧ ∀ q v, trs l = q :: v → aI σ 51 q.2 ≤ to ∧ to ≤ aI σ 55 q.2
/-- an entry of the tries -/
def YE (σ X : RS) (j h m : Nat) (q : Nat × Nat) (u : List (Nat × Nat)) (t : Nat) : Prop := (0 ≤ aI X 134 t ∧ nT (aI X 134 t) = q.2) ∧ (0 ≤ aI X 135 t ∧ nT (aI X 135 t) = j) ∧ (0 ≤ aI X 136 t ∧ nT (aI X 136 t) = h) ∧ (0 ≤ aI X 137 t ∧ nT (aI X 137 t) + 50 = q.1) ∧ (q.1 = 52 → (aI X 138 t = 0 ∨ aI X 138 t = 1 ∨ aI X 138 t = 2 ∨ aI X 138 t = 3) ∧ (aI X 138 t = 1 → GT σ m (aI X 139 t) u ∧ 5000 * nT (aI σ 55 q.2) < vp σ (nT (aI X 139 t))))
def TT (σ X : RS) (j h m : Nat) : List (Nat × Nat) → Nat → Nat → Prop
  | [], t0, t => t = t0
  | q :: u, t0, t => ∃ t', t = t' + 1 ∧ TT σ X j h m u t0 t' ∧ YE σ X j h m q u t'
/-- the calls below: i + 1 calls, the height where the topmost begins, the tries below it, its method -/
def BL (σ X : RS) : Nat → Nat → Nat → Nat → Prop
  | 0, h, t, m => (h = 0 ∧ t = 0) ∧ (0 ≤ aI X 132 0 ∧ nT (aI X 132 0) = m) ∧ m < nT (gI σ 36)
  | i + 1, h, t, m => ((0 ≤ aI X 132 (i + 1) ∧ nT (aI X 132 (i + 1)) = m) ∧ m < nT (gI σ 36)) ∧ ∃ h' t' m' l x r, BL σ X i h' t' m' ∧ (0 ≤ aI X 131 (i + 1) ∧ nT (aI X 131 (i + 1)) ≤ nT (gI σ 18)) ∧ (st σ (nT (aI X 131 (i + 1))) = some (l, m') ∧ zt σ (nT (aI X 131 (i + 1))) = some (x :: r)) ∧ ((aI σ 38 m = 5 ∧ x = 10) ∨ (¬ aI σ 38 m = 5 ∧ x = 0)) ∧ h = h' + wz r ∧ TT σ X (i + 1) h' m' (trs l) t' t
def Yq (X Y : RS) (t : Nat) : Prop := ∀ s, s < t → ∀ k, 134 ≤ k → k ≤ 139 → aI Y k s = aI X k s
theorem TT.le {σ X : RS} {j h m : Nat} {u : List (Nat × Nat)} {t0 t : Nat} (hT : TT σ X j h m u t0 t) : t = t0 + u.length := by sorry
theorem TT.eq {σ X Y : RS} {j h m : Nat} {u : List (Nat × Nat)} {t0 t : Nat} (hT : TT σ X j h m u t0 t) (hY : Yq X Y t) : TT σ Y j h m u t0 t := by sorry
theorem BL.eq {σ X Y : RS} {i h t m : Nat} (hB : BL σ X i h t m) (h1 : ∀ s, s ≤ i → aI Y 131 s = aI X 131 s ∧ aI Y 132 s = aI X 132 s) (hY : Yq X Y t) : BL σ Y i h t m := by sorry
/-- what bounds them -/
theorem BL.le {σ X : RS} (hP : RG σ) {i h t m : Nat} (hB : BL σ X i h t m) : h ≤ 251 * i ∧ t ≤ 40 * i ∧ m < nT (gI σ 36) ∧ (0 ≤ aI X 132 i ∧ nT (aI X 132 i) = m) := by sorry
/-! where jumps lead -/
theorem nle {x y : Int32} (hx : 0 ≤ x) (hy : 0 ≤ y) : x ≤ y ↔ nT x ≤ nT y := by sorry
theorem nlt {x y : Int32} (hx : 0 ≤ x) (hy : 0 ≤ y) : x < y ↔ nT x < nT y := by sorry
theorem PK.sz {σ : RS} (h : PK σ) : (0 ≤ gI σ 18 ∧ gI σ 18 ≤ 3020) ∧ nT (gI σ 18) ≤ 3020 := by sorry
/-- what stands above another ends before the other's later codes -/
theorem PK.ord {σ : RS} (h : PK σ) {c p : Nat} (hcp : c ≤ p) (hp : p ≤ nT (gI σ 18)) {l l3 r r' : List (Nat × Nat)} {x1 k1 x2 k2 y m m' : Nat} (hs : st σ c = some (l ++ (x1, k1) :: (l3 ++ (x2, k2) :: r), m)) (h1 : x1 ≠ 20) (h2 : x2 ≠ 20) (hq : st σ p = some ((y, k2) :: r', m')) (hy : y ≠ 20) : nT (aI σ 55 k1) < p := by sorry
/-- where a try begins -/
theorem PK.tb {σ : RS} (h : PK σ) {c : Nat} (hc : c ≤ nT (gI σ 18)) {l : List (Nat × Nat)} {x k : Nat} {r : List (Nat × Nat)} {m : Nat} (hs : st σ c = some (l ++ (x, k) :: r, m)) (hx : bs x = 26 ∨ bs x = 29 ∨ bs x = 50) (h20 : x ≠ 20) : (0 ≤ aI σ 51 k ∧ nT (aI σ 51 k) < c) ∧ nT (aI σ 19 (nT (aI σ 51 k))) = bs x ∧ nT (aI σ 20 (nT (aI σ 51 k))) = k ∧ st σ (nT (aI σ 51 k)) = some (r, m) := by sorry
theorem bs_t {x : Nat} (h : 50 ≤ x ∧ x ≤ 52) : bs x = 50 ∧ x ≠ 20 := by sorry
theorem vp_ge {σ : RS} (h : PK σ) {c : Nat} (hc : c ≤ nT (gI σ 18)) {l : List (Nat × Nat)} {m : Nat} (hs : st σ c = some (l, m)) (hl : ∀ k r, l ≠ (30, k) :: r) : 5000 * c ≤ vp σ c := by sorry
theorem vp_le {σ : RS} (h : PK σ) {c : Nat} (hc : c ≤ nT (gI σ 18)) : vp σ c ≤ 25000000 := by sorry
/-- a place whose code doesn't count: below each later code of a try around it -/
theorem vp_try {σ : RS} (h : PK σ) {c p : Nat} (hcp : c ≤ p) (hp : p < nT (gI σ 18)) (ho : ¬ (nT (aI σ 19 c) = 26 ∨ nT (aI σ 19 c) = 32)) {l : List (Nat × Nat)} {x k : Nat} {r r' : List (Nat × Nat)} {y m m' : Nat} (hs : st σ c = some (l ++ (x, k) :: r, m)) (hx : 50 ≤ x ∧ x ≤ 52) (hq : st σ p = some ((y, k) :: r', m')) (hy : y ≠ 20) : vp σ c < 5000 * (p + 1) := by sorry
theorem PK.tps {σ : RS} (h : PK σ) {c : Nat} (hc : c ≤ nT (gI σ 18)) {l : List (Nat × Nat)} {m : Nat} (hs : st σ c = some (l, m)) : ∀ q v, trs l = q :: v → 0 ≤ aI σ 51 q.2 ∧ nT (aI σ 51 q.2) < c ∧ 0 ≤ aI σ 55 q.2 ∧ c ≤ nT (aI σ 55 q.2) := by sorry
theorem trs_app (l r : List (Nat × Nat)) : trs (l ++ r) = trs l ++ trs r := by sorry
/-- a jump out of what stands above k -/
theorem GT.of {σ : RS} (h : PK σ) {c : Nat} (hc : c ≤ nT (gI σ 18)) {to : Int32} {l r l' : List (Nat × Nat)} {x k m : Nat} (hs : st σ c = some (l ++ (x, k) :: r, m)) (hx : ¬ (50 ≤ x ∧ x ≤ 52)) (h0 : 0 ≤ to) (h1 : nT to ≤ nT (gI σ 18) ∧ zt σ (nT to) = some [] ∧ st σ (nT to) = some (l', m)) (h2 : trs l' = trs r)
    (h3 : ∀ l1 xq q l2, l = l1 ++ (xq, q) :: l2 → 50 ≤ xq ∧ xq ≤ 52 → (nT to < nT (aI σ 51 q) ∨ nT (aI σ 55 q) < nT to) ∧ 5000 * nT (aI σ 55 q) < vp σ (nT to)) : GT σ m to (trs (l ++ (x, k) :: r)) := by sorry
/-! breaks, continues, catches, finallys -/
theorem PK.nzh {σ : RS} (h : PK σ) {c : Nat} (hc : c ≤ nT (gI σ 18)) {l : List (Nat × Nat)} {x k : Nat} {r : List (Nat × Nat)} {m : Nat} (hs : st σ c = some (l ++ (x, k) :: r, m)) (h20 : x ≠ 20) : ¬ zh r := by sorry
theorem nz30 {l : List (Nat × Nat)} (h : ¬ zh l) : ∀ k r, l ≠ (30, k) :: r := by sorry
theorem vp_st {σ : RS} (h : PK σ) {c : Nat} (hc : c < nT (gI σ 18)) (ho : ¬ nT (aI σ 19 c) ≤ 18 ∧ ¬ aI σ 19 c = 21 ∧ ¬ aI σ 19 c = 31 ∧ ¬ aI σ 19 c = 35 ∧ ¬ aI σ 19 c = 26 ∧ ¬ aI σ 19 c = 32) : vp σ c = 5000 * c := by sorry
/-- a finally ahead -/
theorem RG.fin {σ : RS} (h : RG σ) {c : Nat} (hc : c ≤ nT (gI σ 18)) {l : List (Nat × Nat)} {x k : Nat} {r : List (Nat × Nat)} {m : Nat} (hs : st σ c = some (l ++ (x, k) :: r, m)) (hx : 50 ≤ x ∧ x < 52) (hf : 0 ≤ aI σ 58 k) : (c ≤ nT (aI σ 58 k) ∧ nT (aI σ 58 k) < nT (gI σ 18)) ∧ st σ (nT (aI σ 58 k) + 1) = some ((52, k) :: r, m) ∧ zt σ (nT (aI σ 58 k) + 1) = some [] ∧ nT (aI σ 19 (nT (aI σ 58 k))) = 52 ∧ (¬ (nT (aI σ 19 c) = 26 ∨ nT (aI σ 19 c) = 32) → vp σ c < vp σ (nT (aI σ 58 k) + 1)) := by sorry
/-- a catch ahead -/
theorem RG.cat {σ : RS} (h : RG σ) {c : Nat} (hc : c ≤ nT (gI σ 18)) {l : List (Nat × Nat)} {k : Nat} {r : List (Nat × Nat)} {m : Nat} (hs : st σ c = some (l ++ (50, k) :: r, m)) (hf : 0 ≤ aI σ 57 k) : (c ≤ nT (aI σ 57 k) ∧ nT (aI σ 57 k) < nT (gI σ 18)) ∧ st σ (nT (aI σ 57 k) + 1) = some ((51, k) :: r, m) ∧ zt σ (nT (aI σ 57 k) + 1) = some [] ∧ nT (aI σ 19 (nT (aI σ 57 k))) = 51 ∧ (¬ (nT (aI σ 19 c) = 26 ∨ nT (aI σ 19 c) = 32) → vp σ c < vp σ (nT (aI σ 57 k) + 1)) ∧ (0 ≤ aI σ 61 k ∧ aI σ 61 k < 60) := by sorry
/-- the thing of a jump -/
theorem RG.jmp {σ : RS} (h : RG σ) {c : Nat} (hc : c < nT (gI σ 18)) (ho : aI σ 19 c = 46 ∨ aI σ 19 c = 47) {l : List (Nat × Nat)} {m : Nat} (hs : st σ c = some (l, m)) : (0 ≤ aI σ 20 c ∧ nT (aI σ 20 c) < nT (gI σ 49)) ∧ ∃ l1 x r, l = l1 ++ (x, nT (aI σ 20 c)) :: r ∧ jo (nT (aI σ 19 c)) x := by sorry
theorem RG.brk {σ : RS} (h : RG σ) {c : Nat} (hc : c < nT (gI σ 18)) (ho : aI σ 19 c = 46) {l : List (Nat × Nat)} {m : Nat} (hs : st σ c = some (l, m)) : GT σ m (aI σ 55 (nT (aI σ 20 c)) + 1) (trs l) ∧ vp σ c < vp σ (nT (aI σ 55 (nT (aI σ 20 c)) + 1)) := by sorry
/-! continues -/
theorem PK.kz {σ : RS} (h : PK σ) {c : Nat} (hc : c ≤ nT (gI σ 18)) {l : List (Nat × Nat)} {x k : Nat} {r : List (Nat × Nat)} {m : Nat} (hs : st σ c = some (l ++ (x, k) :: r, m)) (h20 : x ≠ 20) : (bs x = 26 → aI σ 50 k = 4) ∧ (bs x = 29 → aI σ 50 k = 5) ∧ (bs x = 32 → aI σ 50 k = 6) := by sorry
/-- the cond of a do -/
theorem PK.dc {σ : RS} (h : PK σ) {c : Nat} (hc : c ≤ nT (gI σ 18)) {l : List (Nat × Nat)} {k : Nat} {r : List (Nat × Nat)} {m : Nat} (hs : st σ c = some (l ++ (29, k) :: r, m)) : (0 ≤ aI σ 52 k ∧ c ≤ nT (aI σ 52 k) ∧ nT (aI σ 52 k) < nT (gI σ 18)) ∧ nT (aI σ 19 (nT (aI σ 52 k))) = 30 ∧ st σ (nT (aI σ 52 k)) = some ((29, k) :: r, m) := by sorry
theorem vp34 {σ : RS} (h : PK σ) {p : Nat} (h1 : 1 ≤ p) (hp : p ≤ nT (gI σ 18)) {k : Nat} {r : List (Nat × Nat)} {m : Nat} (hs : st σ p = some ((34, k) :: r, m)) : 5000 * nT (aI σ 55 k) < vp σ p := by sorry
/-- the update of a for -/
theorem PK.fu {σ : RS} (h : PK σ) {c : Nat} (hc : c ≤ nT (gI σ 18)) {l : List (Nat × Nat)} {k : Nat} {r : List (Nat × Nat)} {m : Nat} (hs : st σ c = some (l ++ (35, k) :: r, m)) : (0 ≤ aI σ 53 k ∧ nT (aI σ 53 k) < nT (gI σ 18)) ∧ nT (aI σ 19 (nT (aI σ 53 k))) = 34 ∧ st σ (nT (aI σ 53 k) + 1) = some ((34, k) :: r, m) ∧ nT (aI σ 53 k) + 1 < c := by sorry
/-- above -/
theorem PK.abv {σ : RS} (h : PK σ) {c : Nat} (hc : c ≤ nT (gI σ 18)) {l1 l2 : List (Nat × Nat)} {xq q x k : Nat} {r : List (Nat × Nat)} {m : Nat} (hs : st σ c = some ((l1 ++ (xq, q) :: l2) ++ (x, k) :: r, m)) (hx : 50 ≤ xq ∧ xq ≤ 52) : (nT (aI σ 51 q) < c ∧ st σ (nT (aI σ 51 q)) = some (l2 ++ (x, k) :: r, m)) ∧ nT (aI σ 55 q) < nT (gI σ 18) ∧ st σ c = some (l1 ++ (xq, q) :: (l2 ++ (x, k) :: r), m) := by sorry
theorem RG.cnt {σ : RS} (h : RG σ) {c : Nat} (hc : c < nT (gI σ 18)) (ho : aI σ 19 c = 47) {l : List (Nat × Nat)} {m : Nat} (hs : st σ c = some (l, m)) :
    (aI σ 50 (nT (aI σ 20 c)) = 4 → GT σ m (aI σ 51 (nT (aI σ 20 c))) (trs l) ∧ vp σ c < vp σ (nT (aI σ 51 (nT (aI σ 20 c))))) ∧
    (aI σ 50 (nT (aI σ 20 c)) = 5 → GT σ m (aI σ 52 (nT (aI σ 20 c))) (trs l) ∧ vp σ c < vp σ (nT (aI σ 52 (nT (aI σ 20 c))))) ∧
    (¬ aI σ 50 (nT (aI σ 20 c)) = 4 → ¬ aI σ 50 (nT (aI σ 20 c)) = 5 → GT σ m (aI σ 53 (nT (aI σ 20 c)) + 1) (trs l) ∧ vp σ c < vp σ (nT (aI σ 53 (nT (aI σ 20 c)) + 1))) := by sorry
def iFz (k : Nat) : Bool := k == 128 || k == 129 || k == 133 || k == 141 || k == 142 || (144 ≤ k && k ≤ 148)
def gFz (k : Nat) : Bool := k == 143
def aFz (k : Nat) : Bool := k == 131 || k == 132 || (134 ≤ k && k ≤ 139)
def lFz (k : Nat) : Bool := k == 127 || k == 130 || k == 140 || k == 149
def Fz (σ τ : RS) : Prop := (∀ k, iFz k = false → gI τ k = gI σ k) ∧ (∀ k, gFz k = false → gL τ k = gL σ k) ∧ (∀ k, aFz k = false → aI τ k = aI σ k) ∧ ∀ k, lFz k = false → aL τ k = aL σ k
theorem Fz.rf {σ : RS} : Fz σ σ := by sorry
theorem Fz.tr {σ τ υ : RS} (h1 : Fz σ τ) (h2 : Fz τ υ) : Fz σ υ := by sorry
theorem Fz.i {σ τ : RS} (h : Fz σ τ) {k : Nat} {v : Int32} (hk : iFz k = true) : Fz σ (sI τ k v) := by sorry
theorem Fz.g {σ τ : RS} (h : Fz σ τ) {k : Nat} {v : Int64} (hk : gFz k = true) : Fz σ (sL τ k v) := by sorry
theorem Fz.a {σ τ : RS} (h : Fz σ τ) {k : Nat} {f : Nat → Int32} (hk : aFz k = true) : Fz σ (sA τ k f) := by sorry
theorem Fz.m {σ τ : RS} (h : Fz σ τ) {k : Nat} {f : Nat → Int64} (hk : lFz k = true) : Fz σ (sM τ k f) := by sorry
def iRy (k : Nat) : Bool := k == 128 || k == 129 || k == 133 || k == 141 || k == 142
def gRy (k : Nat) : Bool := k == 143
def aRy (k : Nat) : Bool := 134 ≤ k && k ≤ 139
def lRy (k : Nat) : Bool := k == 127 || k == 130 || k == 140
def Ry (σ τ : RS) : Prop := (∀ k, iRy k = false → gI τ k = gI σ k) ∧ (∀ k, gRy k = false → gL τ k = gL σ k) ∧ (∀ k, aRy k = false → aI τ k = aI σ k) ∧ ∀ k, lRy k = false → aL τ k = aL σ k
theorem Ry.rf {σ : RS} : Ry σ σ := by sorry
theorem Ry.tr {σ τ υ : RS} (h1 : Ry σ τ) (h2 : Ry τ υ) : Ry σ υ := by sorry
theorem Ry.i {σ τ : RS} (h : Ry σ τ) {k : Nat} {v : Int32} (hk : iRy k = true) : Ry σ (sI τ k v) := by sorry
theorem Ry.g {σ τ : RS} (h : Ry σ τ) {k : Nat} {v : Int64} (hk : gRy k = true) : Ry σ (sL τ k v) := by sorry
theorem Ry.a {σ τ : RS} (h : Ry σ τ) {k : Nat} {f : Nat → Int32} (hk : aRy k = true) : Ry σ (sA τ k f) := by sorry
theorem Ry.m {σ τ : RS} (h : Ry σ τ) {k : Nat} {f : Nat → Int64} (hk : lRy k = true) : Ry σ (sM τ k f) := by sorry
theorem Ry.z {σ τ : RS} (h : Ry σ τ) : Fz σ τ := by sorry
theorem PK.fz {σ τ : RS} (h : PK σ) (hf : Fz σ τ) : PK τ := by sorry
theorem JD.fz {σ τ : RS} (h : JD σ) (hf : Fz σ τ) : JD τ := by sorry
theorem RG.fz {σ τ : RS} (h : RG σ) (hf : Fz σ τ) : RG τ := by sorry
/-- the program's own numbers are the same -/
def SE (σ τ : RS) : Prop := (gI τ 18 = gI σ 18 ∧ gI τ 36 = gI σ 36) ∧ (aI τ 19 = aI σ 19 ∧ aI τ 20 = aI σ 20 ∧ aI τ 21 = aI σ 21 ∧ aI τ 81 = aI σ 81) ∧ aI τ 51 = aI σ 51 ∧ aI τ 55 = aI σ 55 ∧ aI τ 38 = aI σ 38
theorem Fz.se {σ τ : RS} (h : Fz σ τ) : SE σ τ := by sorry
theorem SE.sy {σ τ : RS} (h : SE σ τ) : SE τ σ := by sorry
theorem SE.est {σ τ : RS} (h : SE σ τ) (c : Nat) : st τ c = st σ c := by sorry
theorem SE.ezt {σ τ : RS} (h : SE σ τ) (c : Nat) : zt τ c = zt σ c := by sorry
theorem SE.evp {σ τ : RS} (h : SE σ τ) (c : Nat) : vp τ c = vp σ c := by sorry
theorem SE.gt {σ τ : RS} (h : SE σ τ) {m : Nat} {to : Int32} {u : List (Nat × Nat)} (hg : GT σ m to u) : GT τ m to u := by sorry
theorem SE.tt {σ τ X : RS} (h : SE σ τ) {j b m : Nat} {u : List (Nat × Nat)} {t0 t : Nat} (hT : TT σ X j b m u t0 t) : TT τ X j b m u t0 t := by sorry
theorem SE.bl {σ τ X : RS} (h : SE σ τ) {i b t m : Nat} (hB : BL σ X i b t m) : BL τ X i b t m := by sorry
/-- ahead of a code that is run -/
def RA (σ X : RS) : Prop := ∃ i h t0 m l z, (0 ≤ gI X 129 ∧ nT (gI X 129) = i + 1 ∧ i < 30) ∧ BL σ X i h t0 m ∧ ((0 ≤ gI X 141 ∧ nT (gI X 141) ≤ nT (gI σ 18)) ∧ st σ (nT (gI X 141)) = some (l, m) ∧ zt σ (nT (gI X 141)) = some z) ∧ (0 ≤ gI X 128 ∧ nT (gI X 128) = h + wz z) ∧ (0 ≤ gI X 133 ∧ TT σ X (i + 1) h m (trs l) t0 (nT (gI X 133)))
def PG (σ S X : RS) : Prop := nT (gI X 129) < nT (gI S 129) ∨ (nT (gI X 129) = nT (gI S 129) ∧ vp σ (nT (gI S 141) - 1) < vp σ (nT (gI X 141)))
theorem SE.ra {σ τ X : RS} (h : SE σ τ) (hR : RA σ X) : RA τ X := by sorry
/-- where a call ends -/
def BP (σ : RS) : Prop := RG σ ∧ ∃ i h t m, (0 ≤ gI σ 129 ∧ nT (gI σ 129) = i + 1 ∧ i < 30) ∧ BL σ σ i h t m ∧ (0 ≤ gI σ 128 ∧ nT (gI σ 128) = h) ∧ (0 ≤ gI σ 133 ∧ nT (gI σ 133) = t)
def BQ (σ τ : RS) : Prop := Ry σ τ ∧ (¬ gI τ 142 = 0 ∨ (gI τ 142 = gI σ 142 ∧ RA σ τ ∧ nT (gI τ 129) < nT (gI σ 129)))
theorem BP.st0 {σ : RS} (h : BP σ) : (1 ≤ gI σ 129 ∧ gI σ 129 ≤ 30) ∧ (0 ≤ gI σ 128 ∧ gI σ 128 < 7999) ∧ (0 ≤ aI σ 132 (nT (gI σ 129 - 1)) ∧ aI σ 132 (nT (gI σ 129 - 1)) < 10) := by sorry
theorem BP.end {σ τ : RS} (hf : Ry σ τ) (h1 : ¬ gI τ 142 = 0) : BQ σ τ := ⟨hf, Or.inl h1⟩
/-- back in the caller -/
theorem BP.on {σ τ : RS} (h : BP σ) (hf : Ry σ τ) (h142 : gI τ 142 = gI σ 142) (h129 : gI τ 129 = gI σ 129 - 1) (hne : ¬ gI σ 129 - 1 = 0) (h141 : gI τ 141 = aI σ 131 (nT (gI σ 129 - 1))) (hy : ∀ k, 134 ≤ k → k ≤ 139 → aI τ k = aI σ k) (h133 : gI τ 133 = gI σ 133)
    (h128 : (aI σ 38 (nT (aI σ 132 (nT (gI σ 129 - 1)))) = 5 ∧ gI τ 128 = gI σ 128) ∨ (¬ aI σ 38 (nT (aI σ 132 (nT (gI σ 129 - 1)))) = 5 ∧ gI τ 128 = gI σ 128 + 1)) : BQ σ τ := by sorry
def P_back : RP := fun As σ => match As with
  | [.long v] => BP σ
  | _ => False
def Q_back : RQ := fun As σ w τ => match As with
  | [.long v] => w = none ∧ BQ σ τ
  | _ => False
set_option maxRecDepth 100000 in
set_option maxHeartbeats 4000000 in
theorem m_back (l : Launch) : RMet l 2 148 P_back Q_back := by sorry
/-! leaving what stands open -/
theorem BL.down {σ X : RS} {i h t m : Nat} (hB : BL σ X i h t m) (ht : 0 < t) : ∃ i' h' t' m' l c q u, i' < i ∧ BL σ X i' h' t' m' ∧ (c ≤ nT (gI σ 18) ∧ st σ c = some (l, m')) ∧ trs l = q :: u ∧ TT σ X (i' + 1) h' m' (q :: u) t' t := by sorry
def LW (σ X : RS) (how to : Int32) : Prop := Ry σ X ∧ (gI X 142 = gI σ 142 ∧ gI X 129 = gI σ 129 ∧ gI X 141 = gI σ 141 ∧ 1 ≤ gI σ 141) ∧ ∃ i h t0 m l w u, (0 ≤ gI X 129 ∧ nT (gI X 129) = i + 1 ∧ i < 30) ∧ BL σ X i h t0 m ∧ (nT (gI σ 141) - 1 < nT (gI σ 18) ∧ ¬ (nT (aI σ 19 (nT (gI σ 141) - 1)) = 26 ∨ nT (aI σ 19 (nT (gI σ 141) - 1)) = 32) ∧ st σ (nT (gI σ 141) - 1) = some (l, m)) ∧ trs l = w ++ u ∧ (0 ≤ gI X 128 ∧ nT (gI X 128) = h) ∧ (0 ≤ gI X 133 ∧ TT σ X (i + 1) h m u t0 (nT (gI X 133))) ∧ ((how = 1 ∧ GT σ m to u ∧ vp σ (nT (gI σ 141) - 1) < vp σ (nT to)) ∨ how = 2)
def LT (σ X : RS) (how to : Int32) (k : Nat) : Prop := Ry σ X ∧ (gI X 142 = gI σ 142 ∧ gI X 129 = gI σ 129 ∧ gI X 141 = gI σ 141 ∧ 1 ≤ gI σ 141) ∧ ∃ i h t0 m l1 x r w t', (0 ≤ gI X 129 ∧ nT (gI X 129) = i + 1 ∧ i < 30) ∧ BL σ X i h t0 m ∧ (nT (gI σ 141) - 1 < nT (gI σ 18) ∧ ¬ (nT (aI σ 19 (nT (gI σ 141) - 1)) = 26 ∨ nT (aI σ 19 (nT (gI σ 141) - 1)) = 32) ∧ st σ (nT (gI σ 141) - 1) = some (l1 ++ (x, k) :: r, m)) ∧ (50 ≤ x ∧ x ≤ 52) ∧ trs l1 = w ∧ (0 ≤ gI X 128 ∧ nT (gI X 128) = h) ∧ (0 ≤ gI X 133 ∧ nT (gI X 133) = t' + 1) ∧ (TT σ X (i + 1) h m (trs r) t0 t' ∧ YE σ X (i + 1) h m (x, k) (trs r) t') ∧ ((how = 1 ∧ GT σ m to ((x, k) :: trs r) ∧ vp σ (nT (gI σ 141) - 1) < vp σ (nT to)) ∨ how = 2)
theorem LW.bd {σ X : RS} {how to : Int32} (hG : RG σ) (h : LW σ X how to) : (1 ≤ gI X 129 ∧ gI X 129 ≤ 30) ∧ (0 ≤ gI X 133 ∧ gI X 133 ≤ 1200) := by sorry
/-- a try of this call stands on top -/
theorem LW.top {σ X : RS} {how to : Int32} (h : LW σ X how to) (h0 : 0 < gI X 133) (hc : aI X 135 (nT (gI X 133 - 1)) = gI X 129) : LT σ X how to (nT (aI X 134 (nT (gI X 133 - 1)))) := by sorry
/-- none stands there -/
theorem LW.bot {σ X : RS} {how to : Int32} (h : LW σ X how to) (hn : ¬ 0 < gI X 133 ∨ ¬ aI X 135 (nT (gI X 133 - 1)) = gI X 129) : ∃ i b t0 m, (0 ≤ gI X 129 ∧ nT (gI X 129) = i + 1 ∧ i < 30) ∧ BL σ X i b t0 m ∧ (0 ≤ gI X 128 ∧ nT (gI X 128) = b) ∧ (0 ≤ gI X 133 ∧ nT (gI X 133) = t0) ∧ ((how = 1 ∧ GT σ m to [] ∧ vp σ (nT (gI σ 141) - 1) < vp σ (nT to)) ∨ how = 2) := by sorry
theorem GT.cs {σ : RS} {m : Nat} {to : Int32} {q : Nat × Nat} {u : List (Nat × Nat)} (h : GT σ m to (q :: u)) : ((aI σ 51 q.2 ≤ to ∧ to ≤ aI σ 55 q.2) ∧ ∃ l, (nT to ≤ nT (gI σ 18) ∧ zt σ (nT to) = some [] ∧ st σ (nT to) = some (l, m)) ∧ trs l = q :: u) ∨ (¬ (aI σ 51 q.2 ≤ to ∧ to ≤ aI σ 55 q.2) ∧ GT σ m to u ∧ 5000 * nT (aI σ 55 q.2) < vp σ (nT to)) := by sorry
/-- it holds the target -/
theorem LT.in_ {σ X Y : RS} {how to : Int32} {k : Nat} (h : LT σ X how to k) (h1 : how = 1) (hi : aI σ 51 k ≤ to ∧ to ≤ aI σ 55 k) (e : Y = sI X 141 to) : RA σ Y ∧ PG σ σ Y := by sorry
/-- its finally is run first -/
theorem LT.fin {σ X Y : RS} {how to : Int32} {k : Nat} (hG : RG σ) (h : LT σ X how to k) (hn : ¬ (how = 1 ∧ aI σ 51 k ≤ to ∧ to ≤ aI σ 55 k)) (hs : aI X 137 (nT (gI X 133 - 1)) < 2) (hf : 0 ≤ aI σ 58 k)
    (y128 : gI Y 128 = aI X 136 (nT (gI X 133 - 1))) (y129 : gI Y 129 = gI X 129) (y133 : gI Y 133 = gI X 133) (y141 : gI Y 141 = aI σ 58 k + 1) (y131 : aI Y 131 = aI X 131) (y132 : aI Y 132 = aI X 132) (y134 : aI Y 134 = aI X 134) (y135 : aI Y 135 = aI X 135) (y136 : aI Y 136 = aI X 136) (y137 : aI Y 137 = upd (aI X 137) (nT (gI X 133 - 1)) 2) (y138 : aI Y 138 = upd (aI X 138) (nT (gI X 133 - 1)) how) (y139 : aI Y 139 = upd (aI X 139) (nT (gI X 133 - 1)) to) : RA σ Y ∧ PG σ σ Y := by sorry
/-- the next one -/
theorem LT.nx {σ X Y : RS} {how to : Int32} {k : Nat} (h : LT σ X how to k) (hn : ¬ (how = 1 ∧ aI σ 51 k ≤ to ∧ to ≤ aI σ 55 k)) (e : Y = sI X 133 (gI X 133 - 1)) : LW σ Y how to ∧ nT (gI Y 133) < nT (gI X 133) := by sorry
def RY (σ τ : RS) : Prop := Ry σ τ ∧ (¬ gI τ 142 = 0 ∨ (gI τ 142 = gI σ 142 ∧ RA σ τ ∧ PG σ σ τ))
theorem LW.jmp {σ X Y : RS} {how to : Int32} (h : LW σ X how to) (hn : ¬ 0 < gI X 133 ∨ ¬ aI X 135 (nT (gI X 133 - 1)) = gI X 129) (h1 : how = 1) (e : Y = sI X 141 to) : RY σ Y := by sorry
theorem LW.bp {σ X : RS} {how to : Int32} (hG : RG σ) (h : LW σ X how to) (hn : ¬ 0 < gI X 133 ∨ ¬ aI X 135 (nT (gI X 133 - 1)) = gI X 129) : BP X := by sorry
theorem LW.bq {σ X τ : RS} {how to : Int32} (h : LW σ X how to) (hq : BQ X τ) : RY σ τ := by sorry
theorem LT.bd {σ X : RS} {how to : Int32} {k : Nat} (hG : RG σ) (h : LT σ X how to k) : k < 501 ∧ 0 ≤ aI X 134 (nT (gI X 133 - 1)) ∧ nT (aI X 134 (nT (gI X 133 - 1))) = k := by sorry
def P_leave_ : RP := fun As σ => match As with
  | [.int how, .int to, .long v] => RG σ ∧ LW σ σ how to
  | _ => False
def Q_leave_ : RQ := fun As σ w τ => match As with
  | [.int how, .int to, .long v] => w = none ∧ RY σ τ
  | _ => False
set_option maxRecDepth 100000 in
set_option maxHeartbeats 4000000 in
theorem m_leave_ (l : Launch) : RMet l 3 147 P_leave_ Q_leave_ := by sorry
theorem slt {c v : Int32} (h1 : 1 ≤ c) (h2 : c ≤ 30) (h3 : 0 ≤ v) (h4 : v < 60) : 0 ≤ 60 * (c - 1) + v ∧ 60 * (c - 1) + v < 1860 := by sorry
/-- while a throw looks for its catch -/
def Hw (σ X : RS) : Prop := Ry σ X ∧ (gI X 142 = gI σ 142 ∧ 1 ≤ gI σ 141 ∧ ¬ (nT (aI σ 19 (nT (gI σ 141) - 1)) = 51 ∨ nT (aI σ 19 (nT (gI σ 141) - 1)) = 52)) ∧ ∃ i0 i h t0 m l c w u, (nT (gI σ 129) = i0 + 1 ∧ i0 < 30 ∧ i ≤ i0) ∧ BL σ X i h t0 m ∧ (c ≤ nT (gI σ 18) ∧ st σ c = some (l, m)) ∧ trs l = w ++ u ∧ (0 ≤ gI X 133 ∧ TT σ X (i + 1) h m u t0 (nT (gI X 133))) ∧ (i = i0 → c = nT (gI σ 141) - 1 ∧ ¬ (nT (aI σ 19 c) = 26 ∨ nT (aI σ 19 c) = 32))
def Ht (σ X : RS) (k : Nat) : Prop := Ry σ X ∧ (gI X 142 = gI σ 142 ∧ 1 ≤ gI σ 141 ∧ ¬ (nT (aI σ 19 (nT (gI σ 141) - 1)) = 51 ∨ nT (aI σ 19 (nT (gI σ 141) - 1)) = 52)) ∧ ∃ i0 i h t0 m l1 x r c t', (nT (gI σ 129) = i0 + 1 ∧ i0 < 30 ∧ i ≤ i0) ∧ BL σ X i h t0 m ∧ (c ≤ nT (gI σ 18) ∧ st σ c = some (l1 ++ (x, k) :: r, m)) ∧ (50 ≤ x ∧ x ≤ 52) ∧ (0 ≤ gI X 133 ∧ nT (gI X 133) = t' + 1) ∧ (TT σ X (i + 1) h m (trs r) t0 t' ∧ YE σ X (i + 1) h m (x, k) (trs r) t') ∧ (i = i0 → c = nT (gI σ 141) - 1 ∧ ¬ (nT (aI σ 19 c) = 26 ∨ nT (aI σ 19 c) = 32))
theorem TT.bd {σ X : RS} (hG : RG σ) {i h t0 m t c : Nat} {l w u : List (Nat × Nat)} (hi : i < 30) (hB : BL σ X i h t0 m) (hs : c ≤ nT (gI σ 18) ∧ st σ c = some (l, m)) (e : trs l = w ++ u) (hT : TT σ X (i + 1) h m u t0 t) : t ≤ 1200 := by sorry
theorem Hw.bd {σ X : RS} (hG : RG σ) (h : Hw σ X) : 0 ≤ gI X 133 ∧ gI X 133 ≤ 1200 := by sorry
theorem Hw.top {σ X : RS} (h : Hw σ X) (h0 : 0 < gI X 133) : Ht σ X (nT (aI X 134 (nT (gI X 133 - 1)))) := by sorry
theorem Ht.bd {σ X : RS} {k : Nat} (hG : RG σ) (h : Ht σ X k) : k < 501 ∧ (0 ≤ aI X 134 (nT (gI X 133 - 1)) ∧ nT (aI X 134 (nT (gI X 133 - 1))) = k) ∧ (1 ≤ aI X 135 (nT (gI X 133 - 1)) ∧ aI X 135 (nT (gI X 133 - 1)) ≤ 30) := by sorry
/-- its catch, its finally: y is its new state, kd its new kind -/
theorem Ht.go {σ X Y : RS} {k : Nat} (hG : RG σ) (h : Ht σ X k) (x' p : Nat) (hx' : x' = 51 ∨ x' = 52)
    (hp : ∀ (c : Nat) (l : List (Nat × Nat)) (x : Nat) (r : List (Nat × Nat)) (m : Nat), c ≤ nT (gI σ 18) → st σ c = some (l ++ (x, k) :: r, m) → nT (aI X 137 (nT (gI X 133 - 1))) + 50 = x → (c ≤ p ∧ p < nT (gI σ 18)) ∧ st σ (p + 1) = some ((x', k) :: r, m) ∧ zt σ (p + 1) = some [] ∧ nT (aI σ 19 p) = x' ∧ (¬ (nT (aI σ 19 c) = 26 ∨ nT (aI σ 19 c) = 32) → vp σ c < vp σ (p + 1)))
    (y128 : gI Y 128 = aI X 136 (nT (gI X 133 - 1))) (y129 : gI Y 129 = aI X 135 (nT (gI X 133 - 1))) (y133 : gI Y 133 = gI X 133) (y141 : 0 ≤ gI Y 141 ∧ nT (gI Y 141) = p + 1) (y131 : aI Y 131 = aI X 131) (y132 : aI Y 132 = aI X 132) (y134 : aI Y 134 = aI X 134) (y135 : aI Y 135 = aI X 135) (y136 : aI Y 136 = aI X 136) (y137 : ∃ s : Int32, (0 ≤ s ∧ nT s + 50 = x') ∧ aI Y 137 = upd (aI X 137) (nT (gI X 133 - 1)) s) (y138 : aI Y 138 = aI X 138 ∨ aI Y 138 = upd (aI X 138) (nT (gI X 133 - 1)) 3) (y138b : x' = 52 → aI Y 138 = upd (aI X 138) (nT (gI X 133 - 1)) 3) (y139 : aI Y 139 = aI X 139) : RA σ Y ∧ PG σ σ Y ∧ ¬ gI Y 141 = gI σ 141 := by sorry
theorem Ht.nx {σ X Y : RS} {k : Nat} (h : Ht σ X k) (hf : Ry σ Y) (h142 : gI Y 142 = gI X 142) (e33 : gI Y 133 = gI X 133 - 1) (e131 : aI Y 131 = aI X 131) (e132 : aI Y 132 = aI X 132) (ey : ∀ q, 134 ≤ q → q ≤ 139 → aI Y q = aI X q) : Hw σ Y ∧ nT (gI Y 133) < nT (gI X 133) := by sorry
/-- as raise needs it -/
def RY2 (σ τ : RS) : Prop := RY σ τ ∧ (gI τ 142 = 0 → ¬ gI τ 141 = gI σ 141)
theorem Ht.cat {σ X Y : RS} {k : Nat} (hG : RG σ) (h : Ht σ X k) (hs : aI X 137 (nT (gI X 133 - 1)) = 0) (hf : 0 ≤ aI σ 57 k) (hR : Ry σ Y) (y142 : gI Y 142 = gI X 142)
    (y128 : gI Y 128 = aI X 136 (nT (gI X 133 - 1))) (y129 : gI Y 129 = aI X 135 (nT (gI X 133 - 1))) (y133 : gI Y 133 = gI X 133) (y141 : gI Y 141 = aI σ 57 k + 1) (y131 : aI Y 131 = aI X 131) (y132 : aI Y 132 = aI X 132) (y134 : aI Y 134 = aI X 134) (y135 : aI Y 135 = aI X 135) (y136 : aI Y 136 = aI X 136) (y137 : aI Y 137 = upd (aI X 137) (nT (gI X 133 - 1)) 1) (y138 : aI Y 138 = aI X 138) (y139 : aI Y 139 = aI X 139) : RY2 σ Y := by sorry
theorem Ht.fin {σ X Y : RS} {k : Nat} (hG : RG σ) (h : Ht σ X k) (hs : aI X 137 (nT (gI X 133 - 1)) < 2) (hf : 0 ≤ aI σ 58 k) (hR : Ry σ Y) (y142 : gI Y 142 = gI X 142)
    (y128 : gI Y 128 = aI X 136 (nT (gI X 133 - 1))) (y129 : gI Y 129 = aI X 135 (nT (gI X 133 - 1))) (y133 : gI Y 133 = gI X 133) (y141 : gI Y 141 = aI σ 58 k + 1) (y131 : aI Y 131 = aI X 131) (y132 : aI Y 132 = aI X 132) (y134 : aI Y 134 = aI X 134) (y135 : aI Y 135 = aI X 135) (y136 : aI Y 136 = aI X 136) (y137 : aI Y 137 = upd (aI X 137) (nT (gI X 133 - 1)) 2) (y138 : aI Y 138 = upd (aI X 138) (nT (gI X 133 - 1)) 3) (y139 : aI Y 139 = aI X 139) : RY2 σ Y := by sorry
theorem Ht.var {σ X : RS} {k : Nat} (hG : RG σ) (h : Ht σ X k) (hs : aI X 137 (nT (gI X 133 - 1)) = 0) (hf : 0 ≤ aI σ 57 k) : 0 ≤ aI σ 61 k ∧ aI σ 61 k < 60 := by sorry
def P_raise : RP := fun As σ => match As with
  | [.long v] => RG σ ∧ Hw σ σ
  | _ => False
def Q_raise : RQ := fun As σ w τ => match As with
  | [.long v] => w = none ∧ RY2 σ τ
  | _ => False
set_option maxRecDepth 100000 in
set_option maxHeartbeats 4000000 in
theorem m_raise (l : Launch) : RMet l 2 149 P_raise Q_raise := by sorry
/-! one code of the run -/
def CN (σ : RS) : Prop := (0 ≤ gI σ 144 ∧ gI σ 144 ≤ gI σ 145 ∧ gI σ 145 ≤ 20000) ∧ (0 ≤ gI σ 148 ∧ gI σ 148 ≤ 200) ∧ (0 ≤ gI σ 146 ∧ gI σ 146 ≤ gI σ 144) ∧ (0 ≤ gI σ 123 ∧ gI σ 123 ≤ 40)
theorem CN.ry {σ τ : RS} (h : CN σ) (hf : Ry σ τ) : CN τ := by sorry
/-- ahead of the code c, with pc behind it -/
def WS (σ : RS) (c : Nat) : Prop := (c < nT (gI σ 18) ∧ 0 ≤ gI σ 141 ∧ nT (gI σ 141) = c + 1) ∧ ∃ i h t0 m l z, (0 ≤ gI σ 129 ∧ nT (gI σ 129) = i + 1 ∧ i < 30) ∧ BL σ σ i h t0 m ∧ (st σ c = some (l, m) ∧ zt σ c = some z) ∧ (0 ≤ gI σ 128 ∧ nT (gI σ 128) = h + wz z) ∧ (0 ≤ gI σ 133 ∧ TT σ σ (i + 1) h m (trs l) t0 (nT (gI σ 133)))
def MS (σ : RS) (c : Nat) (τ : RS) : Prop := gI τ 145 = gI σ 145 ∧ (nT (gI σ 144) < nT (gI τ 144) ∨ (gI τ 144 = gI σ 144 ∧ (nT (gI τ 129) < nT (gI σ 129) ∨ (nT (gI τ 129) = nT (gI σ 129) ∧ vp σ c < vp σ (nT (gI τ 141))))))
def WQ (σ : RS) (c : Nat) (τ : RS) : Prop := Fz σ τ ∧ CN τ ∧ (¬ gI τ 142 = 0 ∨ (gI τ 142 = 0 ∧ RA σ τ ∧ MS σ c τ))
/-- out of what leave, raise tell of X, where X is σ but for the pile and the tries -/
theorem WQ.ry {σ X τ : RS} {c : Nat} (hC : CN σ) (h0 : gI σ 142 = 0) (hW : nT (gI σ 141) = c + 1) (hX : Ry σ X) (h142 : gI X 142 = gI σ 142) (h129 : gI X 129 = gI σ 129) (h141 : gI X 141 = gI σ 141) (hq : RY X τ) : WQ σ c τ := by sorry
/-- the code that ends a try -/
theorem WS.try_ {σ : RS} {c : Nat} (hG : RG σ) (hW : WS σ c) (ho : nT (aI σ 19 c) = 53) : ∃ i h t0 m x k r t', (0 ≤ gI σ 129 ∧ nT (gI σ 129) = i + 1 ∧ i < 30) ∧ BL σ σ i h t0 m ∧ (c < nT (gI σ 18) ∧ st σ c = some ((x, k) :: r, m) ∧ st σ (c + 1) = some (r, m) ∧ zt σ (c + 1) = some []) ∧ (x = 51 ∨ x = 52) ∧ (0 ≤ gI σ 128 ∧ nT (gI σ 128) = h) ∧ (0 ≤ gI σ 133 ∧ nT (gI σ 133) = t' + 1 ∧ t' < 1200) ∧ (TT σ σ (i + 1) h m (trs r) t0 t' ∧ YE σ σ (i + 1) h m (x, k) (trs r) t') ∧ (vp σ c = 5000 * c ∧ nT (aI σ 55 k) = c) ∧ 5000 * (c + 1) ≤ vp σ (c + 1) := by sorry
theorem over_a {σ Y : RS} {c : Nat} (hG : RG σ) (hC : CN σ) (h0 : gI σ 142 = 0) (hW : WS σ c) (ho : nT (aI σ 19 c) = 53) (e : Y = sI σ 133 (gI σ 133 - 1)) : WQ σ c Y := by sorry
theorem over_r {σ X : RS} {c : Nat} (hG : RG σ) (hW : WS σ c) (ho : nT (aI σ 19 c) = 53) (e : X = sI σ 133 (gI σ 133 - 1)) : RG X ∧ Hw X X := by sorry
theorem over_l {σ X : RS} {c : Nat} (hG : RG σ) (hW : WS σ c) (ho : nT (aI σ 19 c) = 53) (e : X = sI σ 133 (gI σ 133 - 1)) (hs2 : ¬ aI σ 137 (nT (gI σ 133 - 1)) < 2) (hk0 : ¬ aI σ 138 (nT (gI σ 133 - 1)) = 0) (hk3 : ¬ aI σ 138 (nT (gI σ 133 - 1)) = 3) : RG X ∧ LW X X (aI σ 138 (nT (gI σ 133 - 1))) (aI σ 139 (nT (gI σ 133 - 1))) := by sorry
theorem WS.yb {σ : RS} {c : Nat} (hG : RG σ) (hW : WS σ c) (ho : nT (aI σ 19 c) = 53) : 0 ≤ gI σ 133 - 1 ∧ gI σ 133 - 1 < 1200 := by sorry
def P_over : RP := fun As σ => match As with
  | [] => RG σ ∧ CN σ ∧ gI σ 142 = 0 ∧ WS σ (nT (gI σ 141) - 1) ∧ nT (aI σ 19 (nT (gI σ 141) - 1)) = 53
  | _ => False
def Q_over : RQ := fun As σ w τ => match As with
  | [] => w = none ∧ WQ σ (nT (gI σ 141) - 1) τ
  | _ => False
set_option maxRecDepth 100000 in
set_option maxHeartbeats 4000000 in
theorem m_over (l : Launch) : RMet l 4 158 P_over Q_over := by sorry
def P_operate : RP := fun As σ => match As with
  | [.int s, .int ty, .long a, .long b] => (RG σ ∧ Hw σ σ) ∧ (0 ≤ (gI σ 128) ∧ (gI σ 128) < 8000)
  | _ => False
def Q_operate : RQ := fun As σ w τ => match As with
  | [.int s, .int ty, .long a, .long b] => w = none ∧ (RY2 σ τ ∨ ∃ f, τ = sI (sM σ 127 f) 128 ((gI σ 128) + 1))
  | _ => False
set_option maxRecDepth 100000 in
set_option maxHeartbeats 4000000 in
theorem m_operate (l : Launch) : RMet l 3 153 P_operate Q_operate := by sorry
def P_choose : RP := fun As σ => match As with
  | [.int k, .long v] => (0 ≤ k ∧ k < 600) ∧ (0 ≤ aI σ 51 k.toNatClampNeg ∧ aI σ 51 k.toNatClampNeg ≤ 3020) ∧ (0 ≤ (aI σ 55 k.toNatClampNeg) ∧ (aI σ 55 k.toNatClampNeg) < 3020)
  | _ => False
def Q_choose : RQ := fun As σ w τ => match As with
  | [.int k, .long v] => w = none ∧ ∃ p, τ = sI σ 141 p ∧ ((0 ≤ aI σ 59 k.toNatClampNeg ∧ p = aI σ 59 k.toNatClampNeg + 1) ∨ (aI σ 59 k.toNatClampNeg < 0 ∧ p = (aI σ 55 k.toNatClampNeg) + 1) ∨ ∃ c, (0 ≤ c ∧ c < (aI σ 55 k.toNatClampNeg)) ∧ aI σ 19 c.toNatClampNeg = 38 ∧ aI σ 20 c.toNatClampNeg = k ∧ p = c + 1)
  | _ => False
set_option maxRecDepth 100000 in
set_option maxHeartbeats 4000000 in
theorem m_choose (l : Launch) : RMet l 1 159 P_choose Q_choose := by sorry
/-! a call -/
theorem WS.st1 {σ : RS} {c : Nat} (hG : RG σ) (hc : c < nT (gI σ 18)) (ho : nT (aI σ 19 c) ≤ 18) {l : List (Nat × Nat)} {m : Nat} (hs : st σ c = some (l, m)) : st σ (c + 1) = some (l, m) := by sorry
theorem WS.call {σ : RS} {c : Nat} (hG : RG σ) (hW : WS σ c) (ho : aI σ 19 c = 18) : ∃ i h t0 m l z r x, (0 ≤ gI σ 129 ∧ nT (gI σ 129) = i + 1 ∧ i < 30) ∧ BL σ σ i h t0 m ∧ (st σ (c + 1) = some (l, m) ∧ zt σ (c + 1) = some (x :: r) ∧ zt σ c = some z) ∧ ((aI σ 81 c = 5 ∧ x = 10) ∨ (¬ aI σ 81 c = 5 ∧ x = 0)) ∧ wz z = nT (aI σ 20 c) + wz r ∧ (0 ≤ gI σ 128 ∧ nT (gI σ 128) = h + wz z) ∧ (0 ≤ gI σ 133 ∧ TT σ σ (i + 1) h m (trs l) t0 (nT (gI σ 133))) ∧ (h + wz z ≤ 7781 ∧ nT (gI σ 133) ≤ 1200) := by sorry
theorem MS.cnt {σ τ : RS} {c : Nat} (h : CN σ) (hn : ¬ gI σ 144 = gI σ 145) (h1 : gI τ 144 = gI σ 144 + 1) (h2 : gI τ 145 = gI σ 145) : MS σ c τ := by sorry
/-- a call that ends at once: in() and out() -/
theorem call_b {σ τ : RS} {c : Nat} (hG : RG σ) (hC : CN σ) (hW : WS σ c) (ho : aI σ 19 c = 18) (hf : Fz σ τ) (hCt : CN τ) (hn : ¬ gI σ 144 = gI σ 145) (h144 : gI τ 144 = gI σ 144 + 1) (h145 : gI τ 145 = gI σ 145) (h142 : gI τ 142 = 0) (h129 : gI τ 129 = gI σ 129) (h133 : gI τ 133 = gI σ 133) (h141 : gI τ 141 = gI σ 141) (hy : ∀ k, 131 ≤ k → k ≤ 139 → aI τ k = aI σ k)
    (h128 : (aI σ 20 c = 0 ∧ aI σ 81 c = 3 ∧ gI τ 128 = gI σ 128 + 1) ∨ (aI σ 20 c = 1 ∧ aI σ 81 c = 5 ∧ gI τ 128 = gI σ 128 - 1)) : WQ σ c τ := by sorry
/-- a call of a method -/
theorem call_m {σ τ : RS} {c : Nat} {μ : Int32} (hG : RG σ) (hC : CN σ) (hW : WS σ c) (ho : aI σ 19 c = 18) (hf : Fz σ τ) (hCt : CN τ) (hn : ¬ gI σ 144 = gI σ 145) (h144 : gI τ 144 = gI σ 144 + 1) (h145 : gI τ 145 = gI σ 145) (h142 : gI τ 142 = 0) (hm : 0 ≤ μ ∧ μ < gI σ 36) (hr : aI σ 81 c = aI σ 38 (nT μ)) (h30 : gI σ 129 < 30) (h129 : gI τ 129 = gI σ 129 + 1) (h133 : gI τ 133 = gI σ 133) (h141 : gI τ 141 = aI σ 41 (nT μ)) (hy : ∀ k, 134 ≤ k → k ≤ 139 → aI τ k = aI σ k)
    (h132 : aI τ 132 = upd (aI σ 132) (nT (gI σ 129)) μ) (h131 : aI τ 131 = upd (aI σ 131) (nT (gI σ 129)) (gI σ 141)) (hn0 : 0 ≤ aI σ 20 c) (h128 : gI τ 128 = gI σ 128 - aI σ 20 c) : WQ σ c τ := by sorry
def P_call0 : RP := fun As σ => match As with
  | [.int c] => RG σ ∧ CN σ ∧ gI σ 142 = 0 ∧ WS σ (nT c) ∧ 0 ≤ c ∧ aI σ 19 (nT c) = 18
  | _ => False
def Q_call0 : RQ := fun As σ w τ => match As with
  | [.int c] => w = none ∧ WQ σ (nT c) τ
  | _ => False
set_option maxRecDepth 100000 in
set_option maxHeartbeats 4000000 in
theorem m_call0 (l : Launch) : RMet l 2 154 P_call0 Q_call0 := by sorry
/-! a code that leads on -/
theorem vp_exp {σ : RS} (h : PK σ) {c p : Nat} (hcp : c < p) (hp : p ≤ nT (gI σ 18)) (ho : ¬ (nT (aI σ 19 c) = 26 ∨ nT (aI σ 19 c) = 32)) (hs : st σ p = st σ c) : vp σ c < vp σ p := by sorry
/-- to another place: the tries are the same -/
theorem step_to {σ τ : RS} {c p : Nat} {l l' : List (Nat × Nat)} {m : Nat} {z z' : List Nat} (hC : CN σ) (hS : WS σ c) (s1 : st σ c = some (l, m)) (s2 : zt σ c = some z) (hf : Ry σ τ) (h142 : gI τ 142 = 0) (h129 : gI τ 129 = gI σ 129) (h133 : gI τ 133 = gI σ 133) (hy : ∀ k, 134 ≤ k → k ≤ 139 → aI τ k = aI σ k) (h141 : 0 ≤ gI τ 141 ∧ nT (gI τ 141) = p) (hp : p ≤ nT (gI σ 18)) (g1 : st σ p = some (l', m)) (g2 : trs l' = trs l) (g3 : zt σ p = some z') (h128 : 0 ≤ gI τ 128 ∧ nT (gI τ 128) + wz z = nT (gI σ 128) + wz z') (hv : vp σ c < vp σ p) : WQ σ c τ := by sorry
/-- a code that counts -/
theorem step_cnt {σ τ : RS} {c : Nat} {l l' : List (Nat × Nat)} {m : Nat} {z : List Nat} (hC : CN σ) (hS : WS σ c) (s1 : st σ c = some (l, m)) (s2 : zt σ c = some z) (hf : Fz σ τ) (hCt : CN τ) (hn : ¬ gI σ 144 = gI σ 145) (h144 : gI τ 144 = gI σ 144 + 1) (h145 : gI τ 145 = gI σ 145) (h142 : gI τ 142 = 0) (h129 : gI τ 129 = gI σ 129) (h133 : gI τ 133 = gI σ 133) (hy : ∀ k, 131 ≤ k → k ≤ 139 → aI τ k = aI σ k) (h141 : gI τ 141 = gI σ 141) (h128 : gI τ 128 = gI σ 128) (g1 : st σ (c + 1) = some (l', m)) (g2 : trs l' = trs l) (g3 : zt σ (c + 1) = some z) : WQ σ c τ := by sorry
/-- what a statement's code does to the tries: nothing, but for 50 .. 53 -/
theorem sSt_trs {n : Nat} {a : Int32} {c : Nat} {s s' : SS} (h : sSt n a c s = some s') (hn : ¬ (50 ≤ n ∧ n ≤ 53)) : trs s'.1 = trs s.1 := by sorry
/-- the code itself, ahead and behind -/
theorem WS.cd {σ : RS} {c : Nat} (hG : RG σ) (hS : WS σ c) : ∃ l m z l' z', (st σ c = some (l, m) ∧ zt σ c = some z) ∧ (zt σ (c + 1) = some z') ∧ eT (nT (aI σ 19 c)) (aI σ 20 c) (aI σ 21 c) (aI σ 81 c) z = some z' ∧ (nT (aI σ 19 c) ≠ 54 → st σ (c + 1) = some (l', m) ∧ sSt (nT (aI σ 19 c)) (aI σ 20 c) c (l, m) = some (l', m)) ∧ (gd z ∧ z.length ≤ 251) := by sorry
/-! where statements' codes lead -/
theorem Ss_s20 {o a : Nat → Int32} : ∀ (i : Nat) (s : SS), Ss o a i = some s → ∀ l p r, s.1 = l ++ (20, p) :: r → p < i ∧ nT (o p) = 20 ∧ ∃ m, Ss o a p = some (r, m) := by sorry
/-- under what stands open no exp alone stands -/
theorem PK.nzt {σ : RS} (h : PK σ) {c : Nat} (hc : c ≤ nT (gI σ 18)) {q : Nat × Nat} {r : List (Nat × Nat)} {m : Nat} (hs : st σ c = some (q :: r, m)) : ¬ zh r := by sorry
/-- a place where a code may lead -/
def Tg (σ : RS) (c : Nat) (l : List (Nat × Nat)) (m : Nat) (p : Nat) : Prop := p ≤ nT (gI σ 18) ∧ (∃ l', st σ p = some (l', m) ∧ trs l' = trs l) ∧ zt σ p = some [] ∧ vp σ c < vp σ p
/-- the next code, where no try is begun or ended and nothing is counted -/
theorem RG.tn {σ : RS} (hG : RG σ) {c : Nat} (hc : c < nT (gI σ 18)) {l : List (Nat × Nat)} {m : Nat} (hs : st σ c = some (l, m)) (ho : 19 ≤ nT (aI σ 19 c)) (hn : ¬ nT (aI σ 19 c) = 30 ∧ ¬ nT (aI σ 19 c) = 26 ∧ ¬ nT (aI σ 19 c) = 32 ∧ ¬ nT (aI σ 19 c) = 35 ∧ ¬ (50 ≤ nT (aI σ 19 c) ∧ nT (aI σ 19 c) ≤ 54)) : Tg σ c l m (c + 1) := by sorry
/-- behind its end -/
theorem RG.te {σ : RS} (hG : RG σ) {c : Nat} (hc : c < nT (gI σ 18)) {x k : Nat} {r : List (Nat × Nat)} {m : Nat} (hs : st σ c = some ((x, k) :: r, m)) (h20 : x ≠ 20) (hx : ¬ (50 ≤ x ∧ x ≤ 52)) (hv : vp σ c = 5000 * c) : (0 ≤ aI σ 55 k ∧ aI σ 55 k < 3020) ∧ Tg σ c ((x, k) :: r) m (nT (aI σ 55 k) + 1) := by sorry
/-! where ifs, loops and switches lead -/
theorem RG.tif {σ : RS} (hG : RG σ) {c : Nat} (hc : c < nT (gI σ 18)) {l : List (Nat × Nat)} {m : Nat} (hs : st σ c = some (l, m)) (ho : nT (aI σ 19 c) = 23) : (0 ≤ aI σ 56 (nT (aI σ 20 c)) → aI σ 56 (nT (aI σ 20 c)) < 3020 ∧ Tg σ c l m (nT (aI σ 56 (nT (aI σ 20 c))) + 1)) ∧ (0 ≤ aI σ 55 (nT (aI σ 20 c)) ∧ aI σ 55 (nT (aI σ 20 c)) < 3020) ∧ Tg σ c l m (nT (aI σ 55 (nT (aI σ 20 c))) + 1) := by sorry
theorem vp26 {σ : RS} {p : Nat} (h : nT (aI σ 19 p) = 26 ∨ nT (aI σ 19 p) = 32) : vp σ p = 25000000 := by sorry
/-- back to a while's cond -/
theorem RG.twh {σ : RS} (hG : RG σ) {c k : Nat} (hc : c < nT (gI σ 18)) {r : List (Nat × Nat)} {m : Nat} (hs : st σ c = some ((27, k) :: r, m)) (hv : vp σ c = 5000 * c) : (0 ≤ aI σ 51 k) ∧ Tg σ c ((27, k) :: r) m (nT (aI σ 51 k)) := by sorry
/-- back into a do -/
theorem RG.tdo {σ : RS} (hG : RG σ) {c k : Nat} (hc : c < nT (gI σ 18)) {r : List (Nat × Nat)} {m : Nat} (hs : st σ c = some ((30, k) :: r, m)) (ho : nT (aI σ 19 c) = 31) : (0 ≤ aI σ 51 k ∧ aI σ 51 k < 3020) ∧ Tg σ c ((30, k) :: r) m (nT (aI σ 51 k) + 1) := by sorry
/-- a for: its body, its end -/
theorem RG.tfo {σ : RS} (hG : RG σ) {c : Nat} (hc : c < nT (gI σ 18)) {r : List (Nat × Nat)} {m : Nat} (hs : st σ c = some ((32, nT (aI σ 20 c)) :: r, m)) (ho : nT (aI σ 19 c) = 33) (hv : vp σ c = 5000 * c) : (0 ≤ aI σ 54 (nT (aI σ 20 c)) ∧ aI σ 54 (nT (aI σ 20 c)) < 3020) ∧ Tg σ c ((32, nT (aI σ 20 c)) :: r) m (nT (aI σ 54 (nT (aI σ 20 c))) + 1) := by sorry
/-- a for: its update -/
theorem RG.tfx {σ : RS} (hG : RG σ) {c k : Nat} (hc : c < nT (gI σ 18)) {r : List (Nat × Nat)} {m : Nat} (hs : st σ c = some ((35, k) :: r, m)) (he : nT (aI σ 55 k) = c) (hv : vp σ c = 5000 * c) : (0 ≤ aI σ 53 k ∧ aI σ 53 k < 3020) ∧ Tg σ c ((35, k) :: r) m (nT (aI σ 53 k) + 1) := by sorry
/-- a for: back to its cond -/
theorem RG.tfb {σ : RS} (hG : RG σ) {c k : Nat} (hc : c < nT (gI σ 18)) {r : List (Nat × Nat)} {m : Nat} (hs : st σ c = some ((34, k) :: r, m)) (ho : nT (aI σ 19 c) = 35) : (0 ≤ aI σ 56 k) ∧ Tg σ c ((34, k) :: r) m (nT (aI σ 56 k)) := by sorry
/-- a switch: a case, its default -/
theorem RG.tsw {σ : RS} (hG : RG σ) {c p : Nat} (hc : c < nT (gI σ 18)) {l : List (Nat × Nat)} {m : Nat} (hs : st σ c = some (l, m)) (ho : nT (aI σ 19 c) = 37) (hp : p < nT (gI σ 18)) (hop : nT (aI σ 19 p) = 38 ∨ nT (aI σ 19 p) = 39) (ha : nT (aI σ 20 p) = nT (aI σ 20 c)) : Tg σ c l m (p + 1) := by sorry
/-- a switch: behind it -/
theorem RG.tse {σ : RS} (hG : RG σ) {c : Nat} (hc : c < nT (gI σ 18)) {l : List (Nat × Nat)} {m : Nat} (hs : st σ c = some (l, m)) (ho : nT (aI σ 19 c) = 37) : (0 ≤ aI σ 55 (nT (aI σ 20 c)) ∧ aI σ 55 (nT (aI σ 20 c)) < 3020) ∧ Tg σ c l m (nT (aI σ 55 (nT (aI σ 20 c))) + 1) := by sorry
/-! a try begun, its catch, its finally reached -/
theorem WS.beg {σ τ : RS} {c : Nat} (hG : RG σ) (hC : CN σ) (hS : WS σ c) (ho : aI σ 19 c = 50) (hf : Ry σ τ) (h142 : gI τ 142 = 0) (h129 : gI τ 129 = gI σ 129) (h141 : gI τ 141 = gI σ 141) (h128 : gI τ 128 = gI σ 128) (h133 : gI τ 133 = gI σ 133 + 1) (y134 : aI τ 134 = upd (aI σ 134) (nT (gI σ 133)) (aI σ 20 c)) (y135 : aI τ 135 = upd (aI σ 135) (nT (gI σ 133)) (gI σ 129)) (y136 : aI τ 136 = upd (aI σ 136) (nT (gI σ 133)) (gI σ 128)) (y137 : aI τ 137 = upd (aI σ 137) (nT (gI σ 133)) 0) (y138 : aI τ 138 = upd (aI σ 138) (nT (gI σ 133)) 0) (y139 : aI τ 139 = aI σ 139) : WQ σ c τ := by sorry
/-- the try that stands on top -/
theorem WS.tp {σ : RS} {c : Nat} (hG : RG σ) (hS : WS σ c) {x k : Nat} {r : List (Nat × Nat)} {m : Nat} (hs : st σ c = some ((x, k) :: r, m)) (hx : 50 ≤ x ∧ x ≤ 52) (hz : zt σ c = some []) : ∃ i h t0 t', (0 ≤ gI σ 129 ∧ nT (gI σ 129) = i + 1 ∧ i < 30) ∧ BL σ σ i h t0 m ∧ (0 ≤ gI σ 128 ∧ nT (gI σ 128) = h) ∧ ((0 ≤ gI σ 133 ∧ 0 < gI σ 133 ∧ gI σ 133 ≤ 1200) ∧ nT (gI σ 133) = t' + 1 ∧ nT (gI σ 133 - 1) = t') ∧ (TT σ σ (i + 1) h m (trs r) t0 t' ∧ YE σ σ (i + 1) h m (x, k) (trs r) t') := by sorry
/-- its finally is reached: p is the place behind the FIN -/
theorem WS.fin {σ τ : RS} {c p : Nat} (hG : RG σ) (hC : CN σ) (hS : WS σ c) {x k : Nat} {r : List (Nat × Nat)} {m : Nat} (hs : st σ c = some ((x, k) :: r, m)) (hx : 50 ≤ x ∧ x ≤ 52) (hz : zt σ c = some []) (hf : Ry σ τ) (h142 : gI τ 142 = 0) (h129 : gI τ 129 = gI σ 129) (h141 : 0 ≤ gI τ 141 ∧ nT (gI τ 141) = p) (h128 : gI τ 128 = gI σ 128) (h133 : gI τ 133 = gI σ 133) (y134 : aI τ 134 = aI σ 134) (y135 : aI τ 135 = aI σ 135) (y136 : aI τ 136 = aI σ 136) (y137 : aI τ 137 = upd (aI σ 137) (nT (gI σ 133 - 1)) 2) (y138 : aI τ 138 = upd (aI σ 138) (nT (gI σ 133 - 1)) 0) (y139 : aI τ 139 = aI σ 139) (hp : p ≤ nT (gI σ 18)) (g1 : st σ p = some ((52, k) :: r, m)) (g2 : zt σ p = some []) (hv : vp σ c < vp σ p) : WQ σ c τ := by sorry
/-- it is over -/
theorem WS.out {σ τ : RS} {c p : Nat} (hG : RG σ) (hC : CN σ) (hS : WS σ c) {x k : Nat} {r : List (Nat × Nat)} {m : Nat} (hs : st σ c = some ((x, k) :: r, m)) (hx : 50 ≤ x ∧ x ≤ 52) (hz : zt σ c = some []) (hf : Ry σ τ) (h142 : gI τ 142 = 0) (h129 : gI τ 129 = gI σ 129) (h141 : 0 ≤ gI τ 141 ∧ nT (gI τ 141) = p) (h128 : gI τ 128 = gI σ 128) (h133 : gI τ 133 = gI σ 133 - 1) (hy : ∀ q, 134 ≤ q → q ≤ 139 → aI τ q = aI σ q) (hp : p ≤ nT (gI σ 18)) (g1 : st σ p = some (r, m)) (g2 : zt σ p = some []) (hv : vp σ c < vp σ p) : WQ σ c τ := by sorry
/-! a statement's code: what it takes from the pile, and where it leads -/
theorem WS.nop {σ : RS} {c : Nat} (hG : RG σ) (hS : WS σ c) (ho : 19 ≤ nT (aI σ 19 c)) (hp : ¬ pop1 (nT (aI σ 19 c)) (aI σ 20 c) (aI σ 21 c)) : zt σ c = some [] := hG.ahd hS.1.1 ho hp
theorem WS.pop {σ : RS} {c : Nat} (hG : RG σ) (hS : WS σ c) (ho : 19 ≤ nT (aI σ 19 c)) (h21 : nT (aI σ 19 c) ≠ 21) (hp : pop1 (nT (aI σ 19 c)) (aI σ 20 c) (aI σ 21 c)) : zt σ c = some [0] ∧ (0 < gI σ 128 ∧ gI σ 128 ≤ 7800) := by sorry
theorem step_g {σ τ : RS} {c p : Nat} {l : List (Nat × Nat)} {m : Nat} {z : List Nat} (hC : CN σ) (hS : WS σ c) (s1 : st σ c = some (l, m)) (s2 : zt σ c = some z) (ht : Tg σ c l m p) (hf : Ry σ τ) (h142 : gI τ 142 = 0) (h129 : gI τ 129 = gI σ 129) (h133 : gI τ 133 = gI σ 133) (hy : ∀ k, 134 ≤ k → k ≤ 139 → aI τ k = aI σ k) (h141 : 0 ≤ gI τ 141 ∧ nT (gI τ 141) = p) (h128 : 0 ≤ gI τ 128 ∧ nT (gI τ 128) + wz z = nT (gI σ 128)) : WQ σ c τ := by sorry
/-- codes of exps that the run passes over -/
theorem step_x {σ τ : RS} {c : Nat} (hG : RG σ) (hC : CN σ) (h0 : gI σ 142 = 0) (hS : WS σ c) (ho : nT (aI σ 19 c) = 9 ∨ nT (aI σ 19 c) = 11 ∨ nT (aI σ 19 c) = 14 ∨ nT (aI σ 19 c) = 15) (e : τ = σ) : WQ σ c τ := by sorry
/-! a statement's code, case by case -/
theorem WS.bd {σ : RS} {c : Nat} (hG : RG σ) (hS : WS σ c) : (1 ≤ gI σ 129 ∧ gI σ 129 ≤ 30) ∧ (0 ≤ gI σ 128 ∧ gI σ 128 ≤ 7800) ∧ (0 ≤ gI σ 133 ∧ gI σ 133 ≤ 1200) ∧ (0 ≤ aI σ 132 (nT (gI σ 129 - 1)) ∧ aI σ 132 (nT (gI σ 129 - 1)) < 10) := by sorry
theorem WS.lw {σ X : RS} {c : Nat} {how to : Int32} {l : List (Nat × Nat)} {m : Nat} {z : List Nat} (hG : RG σ) (hS : WS σ c) (ho : ¬ (nT (aI σ 19 c) = 26 ∨ nT (aI σ 19 c) = 32)) (s1 : st σ c = some (l, m)) (s2 : zt σ c = some z) (hf : Ry σ X) (h129 : gI X 129 = gI σ 129) (h141 : gI X 141 = gI σ 141) (h133 : gI X 133 = gI σ 133) (hy : ∀ k, 134 ≤ k → k ≤ 139 → aI X k = aI σ k) (h128 : 0 ≤ gI X 128 ∧ nT (gI X 128) + wz z = nT (gI σ 128)) (hj : (how = 1 ∧ GT σ m to (trs l) ∧ vp σ c < vp σ (nT to)) ∨ how = 2) : RG X ∧ LW X X how to := by sorry
theorem WS.hw {σ X : RS} {c : Nat} (hG : RG σ) (hS : WS σ c) (ho : ¬ (nT (aI σ 19 c) = 26 ∨ nT (aI σ 19 c) = 32) ∧ ¬ (nT (aI σ 19 c) = 51 ∨ nT (aI σ 19 c) = 52)) (hf : Ry σ X) (h129 : gI X 129 = gI σ 129) (h141 : gI X 141 = gI σ 141) (h133 : gI X 133 = gI σ 133) (hy : ∀ k, 134 ≤ k → k ≤ 139 → aI X k = aI σ k) : RG X ∧ Hw X X := by sorry
/-- codes that count -/
theorem step_c {σ τ : RS} {c : Nat} (hG : RG σ) (hC : CN σ) (hS : WS σ c) (ho : nT (aI σ 19 c) = 20 ∨ nT (aI σ 19 c) = 26 ∨ nT (aI σ 19 c) = 30 ∨ nT (aI σ 19 c) = 32) (hf : Fz σ τ) (hCt : CN τ) (hn : ¬ gI σ 144 = gI σ 145) (h144 : gI τ 144 = gI σ 144 + 1) (h145 : gI τ 145 = gI σ 145) (h142 : gI τ 142 = 0) (h129 : gI τ 129 = gI σ 129) (h133 : gI τ 133 = gI σ 133) (hy : ∀ k, 131 ≤ k → k ≤ 139 → aI τ k = aI σ k) (h141 : gI τ 141 = gI σ 141) (h128 : gI τ 128 = gI σ 128) : WQ σ c τ := by sorry
/-- the next code, nothing taken from the pile -/
theorem step_n {σ τ : RS} {c : Nat} (hG : RG σ) (hC : CN σ) (h0 : gI σ 142 = 0) (hS : WS σ c) (ho : 19 ≤ nT (aI σ 19 c)) (hn : ¬ nT (aI σ 19 c) = 30 ∧ ¬ nT (aI σ 19 c) = 26 ∧ ¬ nT (aI σ 19 c) = 32 ∧ ¬ nT (aI σ 19 c) = 35 ∧ ¬ (50 ≤ nT (aI σ 19 c) ∧ nT (aI σ 19 c) ≤ 54)) (hp : ¬ pop1 (nT (aI σ 19 c)) (aI σ 20 c) (aI σ 21 c)) (e : τ = σ) : WQ σ c τ := by sorry
/-- a value is taken; then p -/
theorem step_p {σ τ : RS} {c p : Nat} {l : List (Nat × Nat)} {m : Nat} (hG : RG σ) (hC : CN σ) (hS : WS σ c) (s1 : st σ c = some (l, m)) (ho : 19 ≤ nT (aI σ 19 c)) (h21 : nT (aI σ 19 c) ≠ 21) (hp : pop1 (nT (aI σ 19 c)) (aI σ 20 c) (aI σ 21 c)) (ht : Tg σ c l m p) (hf : Ry σ τ) (h142 : gI τ 142 = 0) (h129 : gI τ 129 = gI σ 129) (h133 : gI τ 133 = gI σ 133) (hy : ∀ k, 134 ≤ k → k ≤ 139 → aI τ k = aI σ k) (h141 : 0 ≤ gI τ 141 ∧ nT (gI τ 141) = p) (h128 : gI τ 128 = gI σ 128 - 1) : WQ σ c τ := by sorry
/-- POP -/
theorem step_pop {σ τ : RS} {c : Nat} (hG : RG σ) (hC : CN σ) (h0 : gI σ 142 = 0) (hS : WS σ c) (ho : aI σ 19 c = 21) (e : (aI σ 82 c = 5 ∧ τ = σ) ∨ (¬ aI σ 82 c = 5 ∧ τ = sI σ 128 (gI σ 128 - 1))) : WQ σ c τ := by sorry
/-- what stands on top at a code of a thing -/
theorem RG.hd {σ : RS} (hG : RG σ) {c : Nat} (hc : c < nT (gI σ 18)) {l : List (Nat × Nat)} {m : Nat} (hs : st σ c = some (l, m)) (x : Nat) (hx : ∀ y, (tfr (nT (aI σ 19 c)) y = true ∨ tcl (nT (aI σ 19 c)) y = true) → y = x) (ht : (∃ y, tfr (nT (aI σ 19 c)) y = true) ∨ ∃ y, tcl (nT (aI σ 19 c)) y = true) : ∃ r, l = (x, nT (aI σ 20 c)) :: r := by sorry
theorem PK.kfr {σ : RS} (h : PK σ) {k : Nat} (hk : k < nT (gI σ 49)) : 0 ≤ aI σ 51 k ∧ aI σ 51 k ≤ 3020 := by sorry
theorem RG.s37 {σ : RS} (hG : RG σ) {c : Nat} (hc : c < nT (gI σ 18)) {l : List (Nat × Nat)} {m : Nat} (hs : st σ c = some (l, m)) (ho : nT (aI σ 19 c) = 37) : st σ (c + 1) = some ([] ++ (37, nT (aI σ 20 c)) :: l, m) := by sorry
theorem RG.h52 {σ : RS} (hG : RG σ) {c : Nat} (hc : c < nT (gI σ 18)) {l : List (Nat × Nat)} {m : Nat} (hs : st σ c = some (l, m)) (ho : aI σ 19 c = 52) : ∃ x r, (50 ≤ x ∧ x ≤ 52) ∧ l = (x, nT (aI σ 20 c)) :: r ∧ st σ (c + 1) = some ((52, nT (aI σ 20 c)) :: r, m) ∧ vp σ c < vp σ (c + 1) := by sorry
def P_workStep : RP := fun As σ => match As with
  | [.int c, .int t] => RG σ ∧ CN σ ∧ gI σ 142 = 0 ∧ WS σ (nT c) ∧ 0 ≤ c ∧ (19 ≤ (aI σ 19 c.toNatClampNeg) ∨ (aI σ 19 c.toNatClampNeg) = 9 ∨ (aI σ 19 c.toNatClampNeg) = 11 ∨ (aI σ 19 c.toNatClampNeg) = 14 ∨ (aI σ 19 c.toNatClampNeg) = 15)
  | _ => False
def Q_workStep : RQ := fun As σ w τ => match As with
  | [.int c, .int t] => w = none ∧ WQ σ (nT c) τ
  | _ => False
set_option maxRecDepth 100000 in
set_option maxHeartbeats 4000000 in
theorem m_workStep (l : Launch) : RMet l 5 157 P_workStep Q_workStep := by sorry
/-! an exp's code -/
theorem WQ.up {σ τ : RS} {c : Nat} {p : Int32} (h : WQ (sI σ 141 p) c τ) : WQ σ c τ := by sorry
/-- with pc set behind the code -/
theorem RA.ws {σ : RS} (hG : RG σ) (h : RA σ σ) : (0 ≤ gI σ 141 ∧ nT (gI σ 141) < nT (gI σ 18)) ∧ RG (sI σ 141 (gI σ 141 + 1)) ∧ WS (sI σ 141 (gI σ 141 + 1)) (nT (gI σ 141)) := by sorry
theorem CN.pc {σ : RS} {p : Int32} (h : CN σ) : CN (sI σ 141 p) := h.ry (Ry.rf.i rfl)
/-- on within an exp -/
theorem step_e {σ τ : RS} {c p : Nat} {z z' : List Nat} (hG : RG σ) (hC : CN σ) (hS : WS σ c) (ho : nT (aI σ 19 c) ≤ 18) (s2 : zt σ c = some z) (hcp : c < p) (hp : p ≤ nT (gI σ 18)) (hst : st σ p = st σ c) (g3 : zt σ p = some z') (hf : Ry σ τ) (h142 : gI τ 142 = 0) (h129 : gI τ 129 = gI σ 129) (h133 : gI τ 133 = gI σ 133) (hy : ∀ k, 134 ≤ k → k ≤ 139 → aI τ k = aI σ k) (h141 : 0 ≤ gI τ 141 ∧ nT (gI τ 141) = p) (h128 : 0 ≤ gI τ 128 ∧ nT (gI τ 128) + wz z = nT (gI σ 128) + wz z') : WQ σ c τ := by sorry
/-- what stands on the pile at an exp's code -/
theorem WS.ex {σ : RS} {c : Nat} (hG : RG σ) (hS : WS σ c) (ho : nT (aI σ 19 c) ≤ 18) : ∃ z z', (zt σ c = some z ∧ zt σ (c + 1) = some z' ∧ gd z ∧ gd z') ∧ eT (nT (aI σ 19 c)) (aI σ 20 c) (aI σ 21 c) (aI σ 81 c) z = some z' ∧ st σ (c + 1) = st σ c ∧ (0 ≤ gI σ 128 ∧ wz z ≤ nT (gI σ 128) ∧ nT (gI σ 128) ≤ 7530 + 251) := by sorry
/-- behind a link -/
theorem RG.lnk {σ : RS} (hG : RG σ) {c : Nat} (hc : c < nT (gI σ 18)) (ho : nT (aI σ 19 c) = 8 ∨ nT (aI σ 19 c) = 10 ∨ nT (aI σ 19 c) = 12 ∨ nT (aI σ 19 c) = 13) {z : List Nat} (hz : zt σ c = some z) : (0 ≤ aI σ 125 c ∧ c < nT (aI σ 125 c) ∧ nT (aI σ 125 c) < nT (gI σ 18)) ∧ st σ (nT (aI σ 125 c) + 1) = st σ c ∧ ∃ r, (((nT (aI σ 19 c) = 8 ∨ nT (aI σ 19 c) = 10) ∧ z = 0 :: r ∧ zt σ (c + 1) = some (1 :: r) ∧ zt σ (nT (aI σ 125 c) + 1) = some (0 :: r)) ∨ (nT (aI σ 19 c) = 12 ∧ z = 0 :: r ∧ zt σ (c + 1) = some (2 :: r) ∧ zt σ (nT (aI σ 125 c) + 1) = some (3 :: r)) ∨ (nT (aI σ 19 c) = 13 ∧ z = 0 :: 2 :: r ∧ zt σ (nT (aI σ 125 c) + 1) = some (0 :: r))) := by sorry
/-! an exp's code, by its op -/
theorem eT_w {n : Nat} {a b t : Int32} {z z' : List Nat} (h : eT n a b t z = some z') : (((1 ≤ n ∧ n ≤ 4) ∨ n = 16) → wz z' = wz z + 1) ∧ ((n = 5 ∨ n = 6 ∨ (n = 17 ∧ a = 61)) → wz z' = wz z ∧ 1 ≤ wz z) ∧ ((n = 7 ∨ (n = 17 ∧ ¬ a = 61)) → wz z' + 1 = wz z ∧ 2 ≤ wz z) := by sorry
/-- how many values an exp's code finds at least -/
theorem WS.ht {σ : RS} {c : Nat} (hG : RG σ) (hS : WS σ c) (ho : nT (aI σ 19 c) ≤ 18) : (0 ≤ gI σ 128 ∧ gI σ 128 ≤ 7790) ∧ ((nT (aI σ 19 c) = 5 ∨ nT (aI σ 19 c) = 6 ∨ nT (aI σ 19 c) = 17) → 1 ≤ gI σ 128) ∧ ((nT (aI σ 19 c) = 7 ∨ (nT (aI σ 19 c) = 17 ∧ ¬ aI σ 20 c = 61)) → 2 ≤ gI σ 128) ∧ ((nT (aI σ 19 c) = 8 ∨ nT (aI σ 19 c) = 10 ∨ nT (aI σ 19 c) = 12) → 1 ≤ gI σ 128) := by sorry
theorem ex_s {σ τ : RS} {c : Nat} {k : Nat} (hG : RG σ) (hC : CN σ) (h0 : gI σ 142 = 0) (hS : WS σ c) (ho : nT (aI σ 19 c) ≤ 18) (hf : Ry σ τ) (e142 : gI τ 142 = gI σ 142) (e129 : gI τ 129 = gI σ 129) (e133 : gI τ 133 = gI σ 133) (e141 : gI τ 141 = gI σ 141) (hy : ∀ k, 134 ≤ k → k ≤ 139 → aI τ k = aI σ k) (h128 : 0 ≤ gI τ 128) (hk : ∀ z z', eT (nT (aI σ 19 c)) (aI σ 20 c) (aI σ 21 c) (aI σ 81 c) z = some z' → nT (gI τ 128) + wz z = nT (gI σ 128) + wz z') : WQ σ c τ := by sorry
theorem ex_up {σ τ : RS} {c : Nat} (hG : RG σ) (hC : CN σ) (h0 : gI σ 142 = 0) (hS : WS σ c) (ho : (1 ≤ nT (aI σ 19 c) ∧ nT (aI σ 19 c) ≤ 4) ∨ nT (aI σ 19 c) = 16) (hf : Ry σ τ) (e142 : gI τ 142 = gI σ 142) (e129 : gI τ 129 = gI σ 129) (e133 : gI τ 133 = gI σ 133) (e141 : gI τ 141 = gI σ 141) (hy : ∀ k, 134 ≤ k → k ≤ 139 → aI τ k = aI σ k) (h128 : gI τ 128 = gI σ 128 + 1) : WQ σ c τ := by sorry
theorem ex_eq {σ τ : RS} {c : Nat} (hG : RG σ) (hC : CN σ) (h0 : gI σ 142 = 0) (hS : WS σ c) (ho : nT (aI σ 19 c) = 5 ∨ nT (aI σ 19 c) = 6 ∨ (nT (aI σ 19 c) = 17 ∧ aI σ 20 c = 61)) (hf : Ry σ τ) (e142 : gI τ 142 = gI σ 142) (e129 : gI τ 129 = gI σ 129) (e133 : gI τ 133 = gI σ 133) (e141 : gI τ 141 = gI σ 141) (hy : ∀ k, 134 ≤ k → k ≤ 139 → aI τ k = aI σ k) (h128 : gI τ 128 = gI σ 128) : WQ σ c τ := by sorry
theorem ex_dn {σ τ : RS} {c : Nat} (hG : RG σ) (hC : CN σ) (h0 : gI σ 142 = 0) (hS : WS σ c) (ho : nT (aI σ 19 c) = 7 ∨ (nT (aI σ 19 c) = 17 ∧ ¬ aI σ 20 c = 61)) (hf : Ry σ τ) (e142 : gI τ 142 = gI σ 142) (e129 : gI τ 129 = gI σ 129) (e133 : gI τ 133 = gI σ 133) (e141 : gI τ 141 = gI σ 141) (hy : ∀ k, 134 ≤ k → k ≤ 139 → aI τ k = aI σ k) (h128 : gI τ 128 = gI σ 128 - 1) : WQ σ c τ := by sorry
/-- on behind the link, or not -/
theorem ex_lk {σ τ : RS} {c : Nat} (hG : RG σ) (hC : CN σ) (h0 : gI σ 142 = 0) (hS : WS σ c) (ho : nT (aI σ 19 c) = 8 ∨ nT (aI σ 19 c) = 10 ∨ nT (aI σ 19 c) = 12 ∨ nT (aI σ 19 c) = 13) (hf : Ry σ τ) (e142 : gI τ 142 = gI σ 142) (e129 : gI τ 129 = gI σ 129) (e133 : gI τ 133 = gI σ 133) (hy : ∀ k, 134 ≤ k → k ≤ 139 → aI τ k = aI σ k) (h : (gI τ 141 = aI σ 125 c + 1 ∧ gI τ 128 = gI σ 128 ∧ ¬ nT (aI σ 19 c) = 12) ∨ (gI τ 141 = aI σ 125 c + 1 ∧ gI τ 128 = gI σ 128 - 1 ∧ nT (aI σ 19 c) = 12) ∨ (gI τ 141 = gI σ 141 ∧ gI τ 128 = gI σ 128 - 1 ∧ ¬ nT (aI σ 19 c) = 13)) : WQ σ c τ := by sorry
/-- within work, with pc set -/
def KW (σ X : RS) (c : Int32) : Prop := (RG X ∧ CN X ∧ gI X 142 = 0 ∧ WS X (nT c)) ∧ (0 ≤ c ∧ c < 3020 ∧ gI X 141 = c + 1) ∧ ∀ τ, WQ X (nT c) τ → WQ σ (nT c) τ
theorem KW.of {σ : RS} {c : Int32} (hG : RG σ) (hC : CN σ) (h0 : gI σ 142 = 0) (hR : RA σ σ) (e : c = gI σ 141) : KW σ (sI σ 141 (c + 1)) c := by sorry
/-- a variable's number at an exp's code -/
theorem RG.asg {σ : RS} (hG : RG σ) {c : Nat} (hc : c < nT (gI σ 18)) (ho : aI σ 19 c = 16) : 0 ≤ aI σ 80 (nT (aI σ 22 c)) ∧ aI σ 80 (nT (aI σ 22 c)) < 60 := by sorry
theorem RG.vat {σ : RS} (hG : RG σ) {c : Nat} (hc : c < nT (gI σ 18)) (ho : aI σ 19 c = 2 ∨ aI σ 19 c = 3 ∨ aI σ 19 c = 4 ∨ aI σ 19 c = 17) : 0 ≤ aI σ 83 c ∧ aI σ 83 c < 60 := by sorry
def P_work : RP := fun As σ => match As with
  | [.int c] => RG σ ∧ CN σ ∧ gI σ 142 = 0 ∧ RA σ σ ∧ c = gI σ 141
  | _ => False
def Q_work : RQ := fun As σ w τ => match As with
  | [.int c] => w = none ∧ WQ σ (nT c) τ
  | _ => False
set_option maxRecDepth 100000 in
set_option maxHeartbeats 4000000 in
theorem m_work (l : Launch) : RMet l 6 152 P_work Q_work := by sorry
/-! the whole run -/
def iRf (k : Nat) : Bool := k == 121 || k == 128 || k == 129 || k == 133 || k == 141 || k == 142 || (144 ≤ k && k ≤ 148)
def gRf (k : Nat) : Bool := k == 143
def aRf (k : Nat) : Bool := k == 125 || k == 126 || k == 131 || k == 132 || (134 ≤ k && k ≤ 139)
def lRf (k : Nat) : Bool := k == 127 || k == 130 || k == 140 || k == 149
def Rf (σ τ : RS) : Prop := (∀ k, iRf k = false → gI τ k = gI σ k) ∧ (∀ k, gRf k = false → gL τ k = gL σ k) ∧ (∀ k, aRf k = false → aI τ k = aI σ k) ∧ ∀ k, lRf k = false → aL τ k = aL σ k
theorem Rf.rf {σ : RS} : Rf σ σ := by sorry
theorem Rf.tr {σ τ υ : RS} (h1 : Rf σ τ) (h2 : Rf τ υ) : Rf σ υ := by sorry
theorem Rf.i {σ τ : RS} (h : Rf σ τ) {k : Nat} {v : Int32} (hk : iRf k = true) : Rf σ (sI τ k v) := by sorry
theorem Rf.g {σ τ : RS} (h : Rf σ τ) {k : Nat} {v : Int64} (hk : gRf k = true) : Rf σ (sL τ k v) := by sorry
theorem Rf.a {σ τ : RS} (h : Rf σ τ) {k : Nat} {f : Nat → Int32} (hk : aRf k = true) : Rf σ (sA τ k f) := by sorry
theorem Rf.m {σ τ : RS} (h : Rf σ τ) {k : Nat} {f : Nat → Int64} (hk : lRf k = true) : Rf σ (sM τ k f) := by sorry
def iFo (k : Nat) : Bool := (66 ≤ k && k ≤ 117) || k == 121 || (125 ≤ k && k ≤ 148)
def gFo (k : Nat) : Bool := k == 93 || k == 94 || k == 143
def aFo (k : Nat) : Bool := k == 59 || (70 ≤ k && k ≤ 117) || (125 ≤ k && k ≤ 139)
def lFo (k : Nat) : Bool := (70 ≤ k && k ≤ 117) || (125 ≤ k && k ≤ 149)
def Fo (σ τ : RS) : Prop := (∀ k, iFo k = false → gI τ k = gI σ k) ∧ (∀ k, gFo k = false → gL τ k = gL σ k) ∧ (∀ k, aFo k = false → aI τ k = aI σ k) ∧ ∀ k, lFo k = false → aL τ k = aL σ k
theorem Fo.rf {σ : RS} : Fo σ σ := by sorry
theorem Fo.tr {σ τ υ : RS} (h1 : Fo σ τ) (h2 : Fo τ υ) : Fo σ υ := by sorry
theorem Fo.i {σ τ : RS} (h : Fo σ τ) {k : Nat} {v : Int32} (hk : iFo k = true) : Fo σ (sI τ k v) := by sorry
theorem Fo.g {σ τ : RS} (h : Fo σ τ) {k : Nat} {v : Int64} (hk : gFo k = true) : Fo σ (sL τ k v) := by sorry
theorem Fo.a {σ τ : RS} (h : Fo σ τ) {k : Nat} {f : Nat → Int32} (hk : aFo k = true) : Fo σ (sA τ k f) := by sorry
theorem Fo.m {σ τ : RS} (h : Fo σ τ) {k : Nat} {f : Nat → Int64} (hk : lFo k = true) : Fo σ (sM τ k f) := by sorry
theorem PK.rf {σ τ : RS} (h : PK σ) (hf : Rf σ τ) : PK τ := by sorry
theorem JD.rf {σ τ : RS} (h : JD σ) (hf : Rf σ τ) : JD τ := by sorry
theorem Rf.o {σ τ : RS} (h : Rf σ τ) : Fo σ τ := by sorry
theorem Fz.o {σ τ : RS} (h : Fz σ τ) : Fo σ τ := by sorry
theorem Fg.o {σ τ : RS} (h : Fg σ τ) : Fo σ τ := by sorry
theorem LQ.rf {σ τ : RS} (h : LQ σ τ) : Rf σ τ := by sorry
theorem LQ.rg {σ τ : RS} (h : LQ σ τ) (hJ : JD σ) (h66 : gI σ 66 = 0) : RG τ := by sorry
theorem RG.rf {σ τ : RS} (h : RG σ) (hf : Rf σ τ) (h125 : aI τ 125 = aI σ 125) : RG τ := by sorry
/-- where a run begins -/
theorem RA.beg {X : RS} {m : Int32} (hG : RG X) (hm : 0 ≤ m ∧ m < gI X 36) (h129 : gI X 129 = 1) (h128 : gI X 128 = 0) (h133 : gI X 133 = 0) (h132 : aI X 132 0 = m) (h141 : gI X 141 = aI X 41 (nT m)) : RA X X := by sorry
/-- what a run still may do -/
def MU0 (X : RS) : Nat := (nT (gI X 145) - nT (gI X 144)) * 775000031 + nT (gI X 129) * 25000001 + (25000001 - vp X (nT (gI X 141)))
def RLw (S X : RS) : Prop := (RG X ∧ CN X ∧ Fz S X) ∧ (¬ gI X 142 = 0 ∨ (gI X 142 = 0 ∧ RA X X))
theorem RLw.on {S X τ : RS} (h : RLw S X) (h0 : gI X 142 = 0) (hq : WQ X (nT (gI X 141)) τ) : RLw S τ ∧ (gI τ 142 = 0 → MU0 τ < MU0 X) := by sorry
theorem IG.o {σ τ : RS} (h : IG σ) (hj : JD τ) (hf : Fo σ τ) : IG τ := ⟨hj.2.1.2.1, by rw [hf.1 2 rfl]; exact h.2.1, Or.inr hj⟩
def P_run : RP := fun As σ => match As with
  | [.int m, .int limit] => IG σ ∧ (0 ≤ (gI σ 123) ∧ (gI σ 123) ≤ 40) ∧ (0 ≤ (gI σ 148) ∧ (gI σ 148) ≤ 200)
  | _ => False
def Q_run : RQ := fun As σ w τ => match As with
  | [.int m, .int limit] => ∃ r : Int32, w = some (.int r) ∧ (τ = σ ∨ (JD τ ∧ Fo σ τ ∧ 0 ≤ (gI τ 148) ∧ (gI τ 148) ≤ 200))
  | _ => False
set_option maxRecDepth 100000 in
set_option maxHeartbeats 4000000 in
theorem m_run (l : Launch) : RMet l 8 151 P_run Q_run := by sorry
/-! two runs side by side -/
abbrev JK : Type := Nat → RL → RL → List Value → List Value → RS → RS → Prop
abbrev JZ : Type := Option Value → RS → Option Value → RS → Prop
abbrev JPr : Type := List Value → List Value → RS → RS → Prop
abbrev JQr : Type := List Value → List Value → RS → RS → JZ
abbrev JC : Type := List (Nat × JPr × JQr)
def jct (jc : JC) (μ : Nat) : Option (JPr × JQr) := match jc with
  | [] => none
  | q :: r => match Nat.beq q.1 μ with
    | true => some q.2
    | false => jct r μ
def jst (jc : JC) (K : JK) (Z : JZ) (x : RI) (pc : Nat) (l1 l2 : RL) (s1 s2 : List Value) (σ ρ : RS) (k : JK) : Prop :=
  match x.1 with
  | .iconst n => k (pc + 1) l1 l2 (.int (Int32.ofInt n) :: s1) (.int (Int32.ofInt n) :: s2) σ ρ
  | .bipush n => k (pc + 2) l1 l2 (.int (Int32.ofInt n) :: s1) (.int (Int32.ofInt n) :: s2) σ ρ
  | .sipush n => k (pc + 3) l1 l2 (.int (Int32.ofInt n) :: s1) (.int (Int32.ofInt n) :: s2) σ ρ
  | .lconst n => k (pc + 1) l1 l2 (.long (Int64.ofNat (n : Nat)) :: s1) (.long (Int64.ofNat (n : Nat)) :: s2) σ ρ
  | .ldc2_w _ => k (pc + 3) l1 l2 (.long (Int64.ofInt x.2.2.1) :: s1) (.long (Int64.ofInt x.2.2.1) :: s2) σ ρ
  | .iload_n _ => match rlk l1 x.2.2.2.1, rlk l2 x.2.2.2.1 with
    | some (.int v), some (.int v') => k (pc + 1) l1 l2 (.int v :: s1) (.int v' :: s2) σ ρ
    | _, _ => False
  | .iload n => match rlk l1 n, rlk l2 n with
    | some (.int v), some (.int v') => k (pc + 2) l1 l2 (.int v :: s1) (.int v' :: s2) σ ρ
    | _, _ => False
  | .lload_n _ => match rlk l1 x.2.2.2.1, rlk l2 x.2.2.2.1 with
    | some (.long v), some (.long v') => k (pc + 1) l1 l2 (.long v :: s1) (.long v' :: s2) σ ρ
    | _, _ => False
  | .aload_n _ => match rlk l1 x.2.2.2.1, rlk l2 x.2.2.2.1 with
    | some (.ref v), some (.ref v') => k (pc + 1) l1 l2 (.ref v :: s1) (.ref v' :: s2) σ ρ
    | _, _ => False
  | .iinc n d => match rlk l1 n, rlk l2 n with
    | some (.int v), some (.int v') => k (pc + 3) (rs1 l1 n (.int (v + Int32.ofInt d))) (rs1 l2 n (.int (v' + Int32.ofInt d))) s1 s2 σ ρ
    | _, _ => False
  | .istore_n _ => match s1, s2 with
    | .int v :: r, .int v' :: r' => k (pc + 1) (rs1 l1 x.2.2.2.1 (.int v)) (rs1 l2 x.2.2.2.1 (.int v')) r r' σ ρ
    | _, _ => True
  | .istore n => match s1, s2 with
    | .int v :: r, .int v' :: r' => k (pc + 2) (rs1 l1 n (.int v)) (rs1 l2 n (.int v')) r r' σ ρ
    | _, _ => True
  | .lstore_n _ => match s1, s2 with
    | .long v :: r, .long v' :: r' => k (pc + 1) (rs2 l1 x.2.2.2.1 (.long v)) (rs2 l2 x.2.2.2.1 (.long v')) r r' σ ρ
    | _, _ => True
  | .iadd => match s1, s2 with
    | .int a :: .int b :: r, .int a' :: .int b' :: r' => k (pc + 1) l1 l2 (.int (b + a) :: r) (.int (b' + a') :: r') σ ρ
    | _, _ => True
  | .isub => match s1, s2 with
    | .int a :: .int b :: r, .int a' :: .int b' :: r' => k (pc + 1) l1 l2 (.int (b - a) :: r) (.int (b' - a') :: r') σ ρ
    | _, _ => True
  | .imul => match s1, s2 with
    | .int a :: .int b :: r, .int a' :: .int b' :: r' => k (pc + 1) l1 l2 (.int (b * a) :: r) (.int (b' * a') :: r') σ ρ
    | _, _ => True
  | .ior => match s1, s2 with
    | .int a :: .int b :: r, .int a' :: .int b' :: r' => k (pc + 1) l1 l2 (.int (b ||| a) :: r) (.int (b' ||| a') :: r') σ ρ
    | _, _ => True
  | .ishl => match s1, s2 with
    | .int a :: .int b :: r, .int a' :: .int b' :: r' => k (pc + 1) l1 l2 (.int (b <<< (a &&& 31)) :: r) (.int (b' <<< (a' &&& 31)) :: r') σ ρ
    | _, _ => True
  | .ladd => match s1, s2 with
    | .long a :: .long b :: r, .long a' :: .long b' :: r' => k (pc + 1) l1 l2 (.long (b + a) :: r) (.long (b' + a') :: r') σ ρ
    | _, _ => True
  | .lmul => match s1, s2 with
    | .long a :: .long b :: r, .long a' :: .long b' :: r' => k (pc + 1) l1 l2 (.long (b * a) :: r) (.long (b' * a') :: r') σ ρ
    | _, _ => True
  | .lor => match s1, s2 with
    | .long a :: .long b :: r, .long a' :: .long b' :: r' => k (pc + 1) l1 l2 (.long (b ||| a) :: r) (.long (b' ||| a') :: r') σ ρ
    | _, _ => True
  | .lshl => match s1, s2 with
    | .int a :: .long b :: r, .int a' :: .long b' :: r' => k (pc + 1) l1 l2 (.long (b <<< (a.toInt64 &&& 63)) :: r) (.long (b' <<< (a'.toInt64 &&& 63)) :: r') σ ρ
    | _, _ => True
  | .iand => False
  | .ishr => False
  | .iushr => False
  | .lsub => False
  | .land => False
  | .lxor => False
  | .lneg => False
  | .lshr => False
  | .lushr => False
  | .l2i => False
  | .i2b => False
  | .i2c => False
  | .ldiv => False
  | .lrem => False
  | .lload _ => False
  | .lstore _ => False
  | .lreturn => False
  | .i2l => match s1, s2 with
    | .int a :: r, .int a' :: r' => k (pc + 1) l1 l2 (.long a.toInt64 :: r) (.long a'.toInt64 :: r') σ ρ
    | _, _ => True
  | .lcmp => match s1, s2 with
    | .long a :: .long b :: r, .long a' :: .long b' :: r' => k (pc + 1) l1 l2 (.int (lg_cmp b a) :: r) (.int (lg_cmp b' a') :: r') σ ρ
    | _, _ => True
  | .dup => match s1, s2 with
    | .int a :: r, .int a' :: r' => k (pc + 1) l1 l2 (.int a :: .int a :: r) (.int a' :: .int a' :: r') σ ρ
    | .ref a :: r, .ref a' :: r' => k (pc + 1) l1 l2 (.ref a :: .ref a :: r) (.ref a' :: .ref a' :: r') σ ρ
    | _, _ => False
  | .dup2 => match s1, s2 with
    | .int a :: .ref b :: r, .int a' :: .ref b' :: r' => k (pc + 1) l1 l2 (.int a :: .ref b :: .int a :: .ref b :: r) (.int a' :: .ref b' :: .int a' :: .ref b' :: r') σ ρ
    | _, _ => True
  | .pop => match s1, s2 with
    | .int _ :: r, .int _ :: r' => k (pc + 1) l1 l2 r r' σ ρ
    | _, _ => True
  | .ifCond c _ => match s1, s2 with
    | .int v :: r, .int v' :: r' => (rcd c v 0 → rcd c v' 0 ∧ K x.2.2.2.1 l1 l2 r r' σ ρ) ∧ (rno c v 0 → rno c v' 0 ∧ k (pc + 3) l1 l2 r r' σ ρ)
    | _, _ => True
  | .if_icmp c _ => match s1, s2 with
    | .int y :: .int v :: r, .int y' :: .int v' :: r' => (rcd c v y → rcd c v' y' ∧ K x.2.2.2.1 l1 l2 r r' σ ρ) ∧ (rno c v y → rno c v' y' ∧ k (pc + 3) l1 l2 r r' σ ρ)
    | _, _ => True
  | .goto _ => K x.2.2.2.1 l1 l2 s1 s2 σ ρ
  | .tableswitch _ _ _ _ => match s1, s2 with
    | .int v :: r, .int v' :: r' => v' = v ∧ rsw v.toInt x.2.2.2.2 x.2.2.2.1 (fun t => K t l1 l2 r r' σ ρ)
    | _, _ => True
  | .lookupswitch _ _ => match s1, s2 with
    | .int v :: r, .int v' :: r' => v' = v ∧ rsw v.toInt x.2.2.2.2 x.2.2.2.1 (fun t => K t l1 l2 r r' σ ρ)
    | _, _ => True
  | .ireturn => match s1, s2 with
    | [.int v], [.int v'] => Z (some (.int v)) σ (some (.int v')) ρ
    | _, _ => True
  | .return_ => match s1, s2 with
    | [], [] => Z none σ none ρ
    | _, _ => True
  | .getfield _ => match s1, s2 with
    | .ref _ :: r, .ref _ :: r' => (match Nat.beq x.2.2.1.toNat 0 with
      | true => k (pc + 3) l1 l2 (.int (gI σ x.2.2.2.1) :: r) (.int (gI ρ x.2.2.2.1) :: r') σ ρ
      | false => match Nat.beq x.2.2.1.toNat 1 with
        | true => k (pc + 3) l1 l2 (.int (gI σ x.2.2.2.1) :: r) (.int (gI ρ x.2.2.2.1) :: r') σ ρ
        | false => match Nat.beq x.2.2.1.toNat 2 with
          | true => k (pc + 3) l1 l2 (.long (gL σ x.2.2.2.1) :: r) (.long (gL ρ x.2.2.2.1) :: r') σ ρ
          | false => k (pc + 3) l1 l2 (.ref x.2.2.2.1 :: r) (.ref x.2.2.2.1 :: r') σ ρ)
    | _, _ => True
  | .putfield _ => match s1, s2 with
    | .int v :: .ref _ :: r, .int v' :: .ref _ :: r' => k (pc + 3) l1 l2 r r' (sI σ x.2.2.2.1 v) (sI ρ x.2.2.2.1 v')
    | .long v :: .ref _ :: r, .long v' :: .ref _ :: r' => k (pc + 3) l1 l2 r r' (sL σ x.2.2.2.1 v) (sL ρ x.2.2.2.1 v')
    | _, _ => False
  | .iaload => match s1, s2 with
    | .int j :: .ref n :: r, .int j' :: .ref n' :: r' => vp_in j (ln n) → vp_in j' (ln n') → k (pc + 1) l1 l2 (.int (aI σ n j.toNatClampNeg) :: r) (.int (aI ρ n' j'.toNatClampNeg) :: r') σ ρ
    | _, _ => True
  | .baload => match s1, s2 with
    | .int j :: .ref n :: r, .int j' :: .ref n' :: r' => vp_in j (ln n) → vp_in j' (ln n') → k (pc + 1) l1 l2 (.int (aI σ n j.toNatClampNeg) :: r) (.int (aI ρ n' j'.toNatClampNeg) :: r') σ ρ
    | _, _ => True
  | .laload => match s1, s2 with
    | .int j :: .ref n :: r, .int j' :: .ref n' :: r' => vp_in j (ln n) → vp_in j' (ln n') → k (pc + 1) l1 l2 (.long (aL σ n j.toNatClampNeg) :: r) (.long (aL ρ n' j'.toNatClampNeg) :: r') σ ρ
    | _, _ => True
  | .iastore => match s1, s2 with
    | .int v :: .int j :: .ref n :: r, .int v' :: .int j' :: .ref n' :: r' => vp_in j (ln n) → vp_in j' (ln n') → k (pc + 1) l1 l2 r r' (sA σ n (upd (aI σ n) j.toNatClampNeg v)) (sA ρ n' (upd (aI ρ n') j'.toNatClampNeg v'))
    | _, _ => True
  | .bastore => match s1, s2 with
    | .int v :: .int j :: .ref n :: r, .int v' :: .int j' :: .ref n' :: r' => vp_in j (ln n) → vp_in j' (ln n') → k (pc + 1) l1 l2 r r' (sA σ n (upd (aI σ n) j.toNatClampNeg v)) (sA ρ n' (upd (aI ρ n') j'.toNatClampNeg v'))
    | _, _ => True
  | .lastore => match s1, s2 with
    | .long v :: .int j :: .ref n :: r, .long v' :: .int j' :: .ref n' :: r' => vp_in j (ln n) → vp_in j' (ln n') → k (pc + 1) l1 l2 r r' (sM σ n (vp_updL (aL σ n) j.toNatClampNeg v)) (sM ρ n' (vp_updL (aL ρ n') j'.toNatClampNeg v'))
    | _, _ => True
  | .invokevirtual _ => match jct jc x.2.2.2.1 with
    | some (P, Q) => match s1.drop x.2.2.1.toNat, s2.drop x.2.2.1.toNat with
      | .ref _ :: r, .ref _ :: r' => P (s1.take x.2.2.1.toNat).reverse (s2.take x.2.2.1.toNat).reverse σ ρ ∧ ∀ (w : Option Value) (τ : RS) (w' : Option Value) (τ' : RS), Q (s1.take x.2.2.1.toNat).reverse (s2.take x.2.2.1.toNat).reverse σ ρ w τ w' τ' → k (pc + 3) l1 l2 (w.toList ++ r) (w'.toList ++ r') τ τ'
      | _, _ => True
    | none => False
  | _ => True
def jwp (jc : JC) (K : JK) (Z : JZ) : List RI → JK
  | [], pc, l1, l2, s1, s2, σ, ρ => K pc l1 l2 s1 s2 σ ρ
  | x :: is, pc, l1, l2, s1, s2, σ, ρ => jst jc K Z x pc l1 l2 s1 s2 σ ρ (jwp jc K Z is)
def jgo (bs : RB) (jc : JC) (K : JK) (Z : JZ) : JK := fun pc l1 l2 s1 s2 σ ρ => match rfd bs pc with
  | some is => jwp jc K Z is pc l1 l2 s1 s2 σ ρ
  | none => True
/-- each place has one value -/
def Uq (ls : RL) : Prop := ∀ i v v', (i, v) ∈ ls → (i, v') ∈ ls → v = v'
def JMet (μ : Nat) (P : JPr) (Q : JQr) : Prop := ∀ A1 A2 σ ρ, P A1 A2 σ ρ → ∀ w τ w' τ', EvM μ A1 σ w τ → EvM μ A2 ρ w' τ' → Q A1 A2 σ ρ w τ w' τ'
theorem rdl_key {i j : Nat} : ∀ (l : RL) (q : Nat × Value), q ∈ rdl i j l ↔ q ∈ l ∧ rky i j q = true := by sorry
theorem rky_ne {i j : Nat} {q : Nat × Value} (h : rky i j q = true) : q.1 ≠ i := by sorry
theorem Uq.r1 {ls : RL} (h : Uq ls) {i : Nat} {v : Value} : Uq (rs1 ls i v) := by sorry
theorem Uq.r2 {ls : RL} (h : Uq ls) {i : Nat} {v : Value} : Uq (rs2 ls i v) := by sorry
theorem Uq.lk {ls ls' : RL} (h : Uq ls') (hs : ∀ q ∈ ls, q ∈ ls') {i : Nat} {a b : Value} (ha : rlk ls i = some a) (hb : (i, b) ∈ ls') : b = a := h i b a hb (hs _ (rlk_mem ha))
theorem rcd_no {c : Jvm.ClassFile.Cond} {x y : Int32} (h : rcd c x y) (h' : rno c x y) : False := by sorry
theorem rsx_w {x : Int} {l : List (Int × Nat)} {d t : Nat} {K : Nat → Prop} (h : rsx x l d t) (hw : rsw x l d K) : K t := by sorry
theorem rsx_u {x : Int} {l : List (Int × Nat)} {d t t' : Nat} (h : rsx x l d t) (h' : rsx x l d t') : t = t' := by sorry
theorem vp_in0 {j : Int32} {n : Nat} (h : vp_in j n) : 0 ≤ j := by sorry
theorem jst_ok {jc : JC} {K : JK} {Z : JZ} {x : RI} {pc : Nat} {l1 l2 m1 m2 : RL} {s1 s2 : List Value} {σ ρ : RS} {k : JK} {N1 N2 : RK} {J1 J2 : Nat → List Value → Prop} {R1 R2 : Option Value → Prop} {C1 C2 : Nat → List Value → List Value → Prop} {Φ : Prop}
    (u1 : Uq m1) (u2 : Uq m2) (b1 : ∀ q ∈ l1, q ∈ m1) (b2 : ∀ q ∈ l2, q ∈ m2)
    (hj : jst jc K Z x pc l1 l2 s1 s2 σ ρ k) (h1 : rxe x pc m1 s1 σ N1 J1 R1 C1) (h2 : rxe x pc m2 s2 ρ N2 J2 R2 C2)
    (hN : ∀ pc' a1 a2 c1 c2 r1 r2 σ' ρ', Uq c1 → Uq c2 → (∀ q ∈ a1, q ∈ c1) → (∀ q ∈ a2, q ∈ c2) → k pc' a1 a2 r1 r2 σ' ρ' → N1 pc' c1 r1 σ' → N2 pc' c2 r2 ρ' → Φ)
    (hJ : ∀ t r1 r2, K t l1 l2 r1 r2 σ ρ → J1 t r1 → J2 t r2 → Φ)
    (hR : ∀ w w', Z w σ w' ρ → R1 w → R2 w' → Φ)
    (hC : ∀ μ P Q A1 A2 r1 r2, jct jc μ = some (P, Q) → P A1 A2 σ ρ → (∀ w τ w' τ', Q A1 A2 σ ρ w τ w' τ' → k (pc + 3) l1 l2 (w.toList ++ r1) (w'.toList ++ r2) τ τ') → C1 μ A1 r1 → C2 μ A2 r2 → Φ) : Φ := by sorry
/-- what is shown of two runs from a place on -/
def Jm (μ n : Nat) (is : List RI) (Z : JZ) : JK := fun pc l1 l2 s1 s2 σ ρ => ∀ (m1 m2 : RL) (m : Nat) (w : Option Value) (τ : RS) (w' : Option Value) (τ' : RS), Uq m1 → Uq m2 → (∀ q ∈ l1, q ∈ m1) → (∀ q ∈ l2, q ∈ m2) → Ev n μ is pc m1 s1 σ w τ → Ev m μ is pc m2 s2 ρ w' τ' → Z w τ w' τ'
theorem jwp_ok {jc : JC} {Z : JZ} {μ : Nat} (hjc : ∀ ν P Q, jct jc ν = some (P, Q) → JMet ν P Q) (is : List RI) : ∀ (n : Nat) (K : JK), (∀ pc l1 l2 s1 s2 σ ρ, K pc l1 l2 s1 s2 σ ρ → ∀ n', n' ≤ n → Jm μ n' [] Z pc l1 l2 s1 s2 σ ρ) → ∀ pc l1 l2 s1 s2 σ ρ, jwp jc K Z is pc l1 l2 s1 s2 σ ρ → ∀ n', n' ≤ n → Jm μ n' is Z pc l1 l2 s1 s2 σ ρ := by sorry
theorem lv_uq (vs : List Value) : ∀ i, Uq (lv_args i vs) ∧ ∀ k v, (k, v) ∈ lv_args i vs → i ≤ k := by sorry
theorem JMet.by {μ : Nat} {P : JPr} {Q : JQr} (bs : RB) (jc : JC) (hv : evl μ = some bs) (hjc : ∀ ν P Q, jct jc ν = some (P, Q) → JMet ν P Q)
    (body : ∀ (A1 A2 : List Value) (σ ρ : RS), P A1 A2 σ ρ → ∀ K : Nat → JK, (∀ (n pc : Nat) (l1 l2 : RL) (s1 s2 : List Value) (τ τ' : RS), (∀ m, m < n → jgo bs jc (K m) (Q A1 A2 σ ρ) pc l1 l2 s1 s2 τ τ') → K n pc l1 l2 s1 s2 τ τ') → (∀ (n pc : Nat) (l1 l2 l1' l2' : RL) (s1 s2 : List Value) (τ τ' : RS), (∀ q ∈ l1, q ∈ l1') → (∀ q ∈ l2, q ∈ l2') → K n pc l1 l2 s1 s2 τ τ' → K n pc l1' l2' s1 s2 τ τ') → ∀ n, K n 0 (lv_args 0 (.ref 1000 :: A1)) (lv_args 0 (.ref 1000 :: A2)) [] [] σ ρ) : JMet μ P Q := by sorry
theorem jc0 : ∀ ν P Q, jct ([] : JC) ν = some (P, Q) → JMet ν P Q := fun _ _ _ h => by cases h
theorem jcc {μ : Nat} {P : JPr} {Q : JQr} {r : JC} (h : JMet μ P Q) (hr : ∀ ν P Q, jct r ν = some (P, Q) → JMet ν P Q) : ∀ ν P' Q', jct ((μ, P, Q) :: r) ν = some (P', Q') → JMet ν P' Q' := by sorry
/-! one run alone -/
abbrev UP1 : Type := List Value → RS → Prop
abbrev UQ1 : Type := List Value → RS → Option Value → RS → Prop
abbrev UC : Type := List (Nat × UP1 × UQ1)
def uct (jc : UC) (μ : Nat) : Option (UP1 × UQ1) := match jc with
  | [] => none
  | q :: r => match Nat.beq q.1 μ with
    | true => some q.2
    | false => uct r μ
def ust (jc : UC) (K : RK) (Z : Option Value → RS → Prop) (x : RI) (pc : Nat) (l1 : RL) (s1 : List Value) (σ : RS) (k : RK) : Prop :=
  match x.1 with
  | .iconst n => k (pc + 1) l1 (.int (Int32.ofInt n) :: s1) σ
  | .bipush n => k (pc + 2) l1 (.int (Int32.ofInt n) :: s1) σ
  | .sipush n => k (pc + 3) l1 (.int (Int32.ofInt n) :: s1) σ
  | .lconst n => k (pc + 1) l1 (.long (Int64.ofNat (n : Nat)) :: s1) σ
  | .ldc2_w _ => k (pc + 3) l1 (.long (Int64.ofInt x.2.2.1) :: s1) σ
  | .iload_n _ => match rlk l1 x.2.2.2.1 with
    | some (.int v) => k (pc + 1) l1 (.int v :: s1) σ
    | _ => False
  | .iload n => match rlk l1 n with
    | some (.int v) => k (pc + 2) l1 (.int v :: s1) σ
    | _ => False
  | .lload_n _ => match rlk l1 x.2.2.2.1 with
    | some (.long v) => k (pc + 1) l1 (.long v :: s1) σ
    | _ => False
  | .aload_n _ => match rlk l1 x.2.2.2.1 with
    | some (.ref v) => k (pc + 1) l1 (.ref v :: s1) σ
    | _ => False
  | .iinc n d => match rlk l1 n with
    | some (.int v) => k (pc + 3) (rs1 l1 n (.int (v + Int32.ofInt d))) s1 σ
    | _ => False
  | .istore_n _ => match s1 with
    | .int v :: r => k (pc + 1) (rs1 l1 x.2.2.2.1 (.int v)) r σ
    | _ => True
  | .istore n => match s1 with
    | .int v :: r => k (pc + 2) (rs1 l1 n (.int v)) r σ
    | _ => True
  | .lstore_n _ => match s1 with
    | .long v :: r => k (pc + 1) (rs2 l1 x.2.2.2.1 (.long v)) r σ
    | _ => True
  | .iadd => match s1 with
    | .int a :: .int b :: r => k (pc + 1) l1 (.int (b + a) :: r) σ
    | _ => True
  | .isub => match s1 with
    | .int a :: .int b :: r => k (pc + 1) l1 (.int (b - a) :: r) σ
    | _ => True
  | .imul => match s1 with
    | .int a :: .int b :: r => k (pc + 1) l1 (.int (b * a) :: r) σ
    | _ => True
  | .ior => match s1 with
    | .int a :: .int b :: r => k (pc + 1) l1 (.int (b ||| a) :: r) σ
    | _ => True
  | .ishl => match s1 with
    | .int a :: .int b :: r => k (pc + 1) l1 (.int (b <<< (a &&& 31)) :: r) σ
    | _ => True
  | .ladd => match s1 with
    | .long a :: .long b :: r => k (pc + 1) l1 (.long (b + a) :: r) σ
    | _ => True
  | .lmul => match s1 with
    | .long a :: .long b :: r => k (pc + 1) l1 (.long (b * a) :: r) σ
    | _ => True
  | .lor => match s1 with
    | .long a :: .long b :: r => k (pc + 1) l1 (.long (b ||| a) :: r) σ
    | _ => True
  | .lshl => match s1 with
    | .int a :: .long b :: r => k (pc + 1) l1 (.long (b <<< (a.toInt64 &&& 63)) :: r) σ
    | _ => True
  | .iand => match s1 with
    | .int y :: .int x :: r => k (pc + 1) l1 (.int (x &&& y) :: r) σ
    | _ => True
  | .ishr => match s1 with
    | .int y :: .int x :: r => k (pc + 1) l1 (.int (x >>> (y &&& 31)) :: r) σ
    | _ => True
  | .iushr => match s1 with
    | .int y :: .int x :: r => k (pc + 1) l1 (.int ((x.toUInt32 >>> (y.toUInt32 &&& Int32.toUInt32 31)).toInt32) :: r) σ
    | _ => True
  | .lsub => match s1 with
    | .long y :: .long x :: r => k (pc + 1) l1 (.long (x - y) :: r) σ
    | _ => True
  | .land => match s1 with
    | .long y :: .long x :: r => k (pc + 1) l1 (.long (x &&& y) :: r) σ
    | _ => True
  | .lxor => match s1 with
    | .long y :: .long x :: r => k (pc + 1) l1 (.long (x ^^^ y) :: r) σ
    | _ => True
  | .lneg => match s1 with
    | .long x :: r => k (pc + 1) l1 (.long (-x) :: r) σ
    | _ => True
  | .lshr => match s1 with
    | .int y :: .long x :: r => k (pc + 1) l1 (.long (x >>> (y.toInt64 &&& 63)) :: r) σ
    | _ => True
  | .lushr => match s1 with
    | .int y :: .long x :: r => k (pc + 1) l1 (.long ((x.toUInt64 >>> (y.toInt64.toUInt64 &&& Int64.toUInt64 63)).toInt64) :: r) σ
    | _ => True
  | .l2i => match s1 with
    | .long x :: r => k (pc + 1) l1 (.int x.toInt32 :: r) σ
    | _ => True
  | .i2b => match s1 with
    | .int x :: r => k (pc + 1) l1 (.int x.toInt8.toInt32 :: r) σ
    | _ => True
  | .i2c => match s1 with
    | .int x :: r => k (pc + 1) l1 (.int (x.toUInt32 % 65536).toInt32 :: r) σ
    | _ => True
  | .ldiv => match s1 with
    | .long y :: .long x :: r => ¬ y = 0 → k (pc + 1) l1 (.long (x / y) :: r) σ
    | _ => True
  | .lrem => match s1 with
    | .long y :: .long x :: r => ¬ y = 0 → k (pc + 1) l1 (.long (x - x / y * y) :: r) σ
    | _ => True
  | .lload n => match rlk l1 n with
    | some (.long v) => k (pc + 2) l1 (.long v :: s1) σ
    | _ => False
  | .lstore n => match s1 with
    | .long v :: r => k (pc + 2) (rs2 l1 n (.long v)) r σ
    | _ => True
  | .lreturn => match s1 with
    | [.long v] => Z (some (.long v)) σ
    | _ => True
  | .i2l => match s1 with
    | .int a :: r => k (pc + 1) l1 (.long a.toInt64 :: r) σ
    | _ => True
  | .lcmp => match s1 with
    | .long a :: .long b :: r => k (pc + 1) l1 (.int (lg_cmp b a) :: r) σ
    | _ => True
  | .dup => match s1 with
    | .int a :: r => k (pc + 1) l1 (.int a :: .int a :: r) σ
    | .ref a :: r => k (pc + 1) l1 (.ref a :: .ref a :: r) σ
    | _ => True
  | .dup2 => match s1 with
    | .int a :: .ref b :: r => k (pc + 1) l1 (.int a :: .ref b :: .int a :: .ref b :: r) σ
    | _ => True
  | .pop => match s1 with
    | .int _ :: r => k (pc + 1) l1 r σ
    | _ => True
  | .ifCond c _ => match s1 with
    | .int v :: r => (rcd c v 0 → K x.2.2.2.1 l1 r σ) ∧ (rno c v 0 → k (pc + 3) l1 r σ)
    | _ => True
  | .if_icmp c _ => match s1 with
    | .int y :: .int v :: r => (rcd c v y → K x.2.2.2.1 l1 r σ) ∧ (rno c v y → k (pc + 3) l1 r σ)
    | _ => True
  | .goto _ => K x.2.2.2.1 l1 s1 σ
  | .tableswitch _ _ _ _ => match s1 with
    | .int v :: r => rsw v.toInt x.2.2.2.2 x.2.2.2.1 (fun t => K t l1 r σ)
    | _ => True
  | .lookupswitch _ _ => match s1 with
    | .int v :: r => rsw v.toInt x.2.2.2.2 x.2.2.2.1 (fun t => K t l1 r σ)
    | _ => True
  | .ireturn => match s1 with
    | [.int v] => Z (some (.int v)) σ
    | _ => True
  | .return_ => match s1 with
    | [] => Z none σ
    | _ => True
  | .getfield _ => match s1 with
    | .ref _ :: r => (match Nat.beq x.2.2.1.toNat 0 with
      | true => k (pc + 3) l1 (.int (gI σ x.2.2.2.1) :: r) σ
      | false => match Nat.beq x.2.2.1.toNat 1 with
        | true => k (pc + 3) l1 (.int (gI σ x.2.2.2.1) :: r) σ
        | false => match Nat.beq x.2.2.1.toNat 2 with
          | true => k (pc + 3) l1 (.long (gL σ x.2.2.2.1) :: r) σ
          | false => k (pc + 3) l1 (.ref x.2.2.2.1 :: r) σ)
    | _ => True
  | .putfield _ => match s1 with
    | .int v :: .ref _ :: r => k (pc + 3) l1 r (sI σ x.2.2.2.1 v)
    | .long v :: .ref _ :: r => k (pc + 3) l1 r (sL σ x.2.2.2.1 v)
    | _ => True
  | .iaload => match s1 with
    | .int j :: .ref n :: r => vp_in j (ln n) → k (pc + 1) l1 (.int (aI σ n j.toNatClampNeg) :: r) σ
    | _ => True
  | .baload => match s1 with
    | .int j :: .ref n :: r => vp_in j (ln n) → k (pc + 1) l1 (.int (aI σ n j.toNatClampNeg) :: r) σ
    | _ => True
  | .laload => match s1 with
    | .int j :: .ref n :: r => vp_in j (ln n) → k (pc + 1) l1 (.long (aL σ n j.toNatClampNeg) :: r) σ
    | _ => True
  | .iastore => match s1 with
    | .int v :: .int j :: .ref n :: r => vp_in j (ln n) → k (pc + 1) l1 r (sA σ n (upd (aI σ n) j.toNatClampNeg v))
    | _ => True
  | .bastore => match s1 with
    | .int v :: .int j :: .ref n :: r => vp_in j (ln n) → k (pc + 1) l1 r (sA σ n (upd (aI σ n) j.toNatClampNeg v))
    | _ => True
  | .lastore => match s1 with
    | .long v :: .int j :: .ref n :: r => vp_in j (ln n) → k (pc + 1) l1 r (sM σ n (vp_updL (aL σ n) j.toNatClampNeg v))
    | _ => True
  | .invokevirtual _ => match uct jc x.2.2.2.1 with
    | some (P, Q) => match s1.drop x.2.2.1.toNat with
      | .ref _ :: r => P (s1.take x.2.2.1.toNat).reverse σ ∧ ∀ (w : Option Value) (τ : RS), Q (s1.take x.2.2.1.toNat).reverse σ w τ → k (pc + 3) l1 (w.toList ++ r) τ
      | _ => True
    | none => False
  | _ => True
def uwp (jc : UC) (K : RK) (Z : Option Value → RS → Prop) : List RI → RK
  | [], pc, l1, s1, σ => K pc l1 s1 σ
  | x :: is, pc, l1, s1, σ => ust jc K Z x pc l1 s1 σ (uwp jc K Z is)
def ugo (bs : RB) (jc : UC) (K : RK) (Z : Option Value → RS → Prop) : RK := fun pc l1 s1 σ => match rfd bs pc with
  | some is => uwp jc K Z is pc l1 s1 σ
  | none => True
def UMet (μ : Nat) (P : UP1) (Q : UQ1) : Prop := ∀ A1 σ, P A1 σ → ∀ w τ, EvM μ A1 σ w τ → Q A1 σ w τ
theorem ust_ok {jc : UC} {K : RK} {Z : Option Value → RS → Prop} {x : RI} {pc : Nat} {l1 m1 : RL} {s1 : List Value} {σ : RS} {k : RK} {N1 : RK} {J1 : Nat → List Value → Prop} {R1 : Option Value → Prop} {C1 : Nat → List Value → List Value → Prop} {Φ : Prop}
    (u1 : Uq m1) (b1 : ∀ q ∈ l1, q ∈ m1)
    (hj : ust jc K Z x pc l1 s1 σ k) (h1 : rxe x pc m1 s1 σ N1 J1 R1 C1)
    (hN : ∀ pc' a1 c1 r1 σ', Uq c1 → (∀ q ∈ a1, q ∈ c1) → k pc' a1 r1 σ' → N1 pc' c1 r1 σ' → Φ)
    (hJ : ∀ t r1, K t l1 r1 σ → J1 t r1 → Φ)
    (hR : ∀ w, Z w σ → R1 w → Φ)
    (hC : ∀ μ P Q A1 r1, uct jc μ = some (P, Q) → P A1 σ → (∀ w τ, Q A1 σ w τ → k (pc + 3) l1 (w.toList ++ r1) τ) → C1 μ A1 r1 → Φ) : Φ := by sorry
def Um (μ n : Nat) (is : List RI) (Z : Option Value → RS → Prop) : RK := fun pc l1 s1 σ => ∀ (m1 : RL) (w : Option Value) (τ : RS), Uq m1 → (∀ q ∈ l1, q ∈ m1) → Ev n μ is pc m1 s1 σ w τ → Z w τ
theorem uwp_ok {jc : UC} {Z : Option Value → RS → Prop} {μ : Nat} (hjc : ∀ ν P Q, uct jc ν = some (P, Q) → UMet ν P Q) (is : List RI) : ∀ (n : Nat) (K : RK), (∀ pc l1 s1 σ, K pc l1 s1 σ → ∀ n', n' ≤ n → Um μ n' [] Z pc l1 s1 σ) → ∀ pc l1 s1 σ, uwp jc K Z is pc l1 s1 σ → ∀ n', n' ≤ n → Um μ n' is Z pc l1 s1 σ := by sorry
theorem UMet.by {μ : Nat} {P : UP1} {Q : UQ1} (bs : RB) (jc : UC) (hv : evl μ = some bs) (hjc : ∀ ν P Q, uct jc ν = some (P, Q) → UMet ν P Q)
    (body : ∀ (A1 : List Value) (σ : RS), P A1 σ → ∀ K : Nat → RK, (∀ (n pc : Nat) (l1 : RL) (s1 : List Value) (τ : RS), (∀ m, m < n → ugo bs jc (K m) (Q A1 σ) pc l1 s1 τ) → K n pc l1 s1 τ) → (∀ (n pc : Nat) (l1 l1' : RL) (s1 : List Value) (τ : RS), (∀ q ∈ l1, q ∈ l1') → K n pc l1 s1 τ → K n pc l1' s1 τ) → ∀ n, K n 0 (lv_args 0 (.ref 1000 :: A1)) [] σ) : UMet μ P Q := by sorry
theorem uc0 : ∀ ν P Q, uct ([] : UC) ν = some (P, Q) → UMet ν P Q := fun _ _ _ h => by cases h
theorem ucc {μ : Nat} {P : UP1} {Q : UQ1} {r : UC} (h : UMet μ P Q) (hr : ∀ ν P Q, uct r ν = some (P, Q) → UMet ν P Q) : ∀ ν P' Q', uct ((μ, P, Q) :: r) ν = some (P', Q') → UMet ν P' Q' := by sorry
/-- two runs, each by itself -/
theorem JMet.u {μ : Nat} {P : UP1} {Q : UQ1} (h : UMet μ P Q) : JMet μ (fun A1 A2 σ ρ => P A1 σ ∧ P A2 ρ) (fun A1 A2 σ ρ w τ w' τ' => Q A1 σ w τ ∧ Q A2 ρ w' τ') := by sorry
/-! what two readings of one text agree in -/
def rjI (md k : Nat) : Bool := k == 2 || k == 14 || k == 15 || k == 17 || k == 18 || k == 36 || k == 42 || k == 49 || (Nat.ble 1 md && k == 62) || (Nat.ble 2 md && k == 29)
def rjA (k : Nat) : Bool := k == 3 || k == 6 || k == 10 || k == 19 || k == 20 || k == 25 || k == 26 || k == 27 || k == 51 || k == 63 || k == 64
def Rj (md : Nat) (σ ρ : RS) : Prop := (∀ k, rjI md k = true → gI ρ k = gI σ k) ∧
  (∀ i, i < nT (gI σ 2) → aI ρ 3 i = aI σ 3 i ∧ aI ρ 6 i = aI σ 6 i ∧ (aI σ 3 i = 2 → aI ρ 10 i = aI σ 10 i)) ∧
  (2 ≤ md → ∀ i, i < nT (gI σ 29) → aI ρ 25 i = aI σ 25 i ∧ aI ρ 26 i = aI σ 26 i ∧ aI ρ 27 i = aI σ 27 i) ∧
  (1 ≤ md → ∀ i, i < nT (gI σ 62) → aI ρ 63 i = aI σ 63 i ∧ aI ρ 64 i = aI σ 64 i ∧ nT (aI σ 64 i) < nT (gI σ 49)) ∧
  (∀ i, i < nT (gI σ 49) → aI ρ 51 i = aI σ 51 i) ∧
  (∀ i, i < nT (gI σ 18) → aI ρ 19 i = aI σ 19 i ∧ ((aI σ 19 i = 38 ∨ aI σ 19 i = 39) → aI ρ 20 i = aI σ 20 i)) ∧
  (0 ≤ gI σ 14 ∧ gI σ 14 < gI σ 2) ∧ (∀ i, i < nT (gI σ 2) → ¬ aI σ 3 i = 0 → ¬ aI σ 3 i = 6 → i + 1 < nT (gI σ 2) ∨ 2500 ≤ i)
theorem Rj.e2 {md : Nat} {σ ρ : RS} (h : Rj md σ ρ) : gI ρ 2 = gI σ 2 := h.1 2 (by unfold rjI; simp)
theorem Rj.e14 {md : Nat} {σ ρ : RS} (h : Rj md σ ρ) : gI ρ 14 = gI σ 14 := h.1 14 (by unfold rjI; simp)
theorem Rj.e15 {md : Nat} {σ ρ : RS} (h : Rj md σ ρ) : gI ρ 15 = gI σ 15 := h.1 15 (by unfold rjI; simp)
theorem Rj.e17 {md : Nat} {σ ρ : RS} (h : Rj md σ ρ) : gI ρ 17 = gI σ 17 := h.1 17 (by unfold rjI; simp)
theorem Rj.e18 {md : Nat} {σ ρ : RS} (h : Rj md σ ρ) : gI ρ 18 = gI σ 18 := h.1 18 (by unfold rjI; simp)
theorem Rj.e29 {σ ρ : RS} (h : Rj 2 σ ρ) : gI ρ 29 = gI σ 29 := h.1 29 rfl
theorem Rj.e36 {md : Nat} {σ ρ : RS} (h : Rj md σ ρ) : gI ρ 36 = gI σ 36 := h.1 36 (by unfold rjI; simp)
theorem Rj.e42 {md : Nat} {σ ρ : RS} (h : Rj md σ ρ) : gI ρ 42 = gI σ 42 := h.1 42 (by unfold rjI; simp)
theorem Rj.e49 {md : Nat} {σ ρ : RS} (h : Rj md σ ρ) : gI ρ 49 = gI σ 49 := h.1 49 (by unfold rjI; simp)
theorem Rj.e62 {md : Nat} {σ ρ : RS} (h : Rj (md + 1) σ ρ) : gI ρ 62 = gI σ 62 := h.1 62 (by unfold rjI; simp)
theorem Rj.hp {md : Nat} {σ ρ : RS} (h : Rj md σ ρ) : (gI σ 14).toNatClampNeg < (gI σ 2).toNatClampNeg := nT_lt h.2.2.2.2.2.2.1.1 h.2.2.2.2.2.2.1.2
theorem Rj.a3 {md : Nat} {σ ρ : RS} (h : Rj md σ ρ) {x : Int32} (hx : x.toNatClampNeg < (gI σ 2).toNatClampNeg) : aI ρ 3 x.toNatClampNeg = aI σ 3 x.toNatClampNeg := (h.2.1 _ hx).1
theorem Rj.a6 {md : Nat} {σ ρ : RS} (h : Rj md σ ρ) {x : Int32} (hx : x.toNatClampNeg < (gI σ 2).toNatClampNeg) : aI ρ 6 x.toNatClampNeg = aI σ 6 x.toNatClampNeg := (h.2.1 _ hx).2.1
theorem Rj.a10 {md : Nat} {σ ρ : RS} (h : Rj md σ ρ) {x : Int32} (hx : x.toNatClampNeg < (gI σ 2).toNatClampNeg) (h2 : aI σ 3 x.toNatClampNeg = 2) : aI ρ 10 x.toNatClampNeg = aI σ 10 x.toNatClampNeg := (h.2.1 _ hx).2.2 h2
theorem Rj.a25 {σ ρ : RS} (h : Rj 2 σ ρ) {x : Int32} (hx : x.toNatClampNeg < (gI σ 29).toNatClampNeg) : aI ρ 25 x.toNatClampNeg = aI σ 25 x.toNatClampNeg := (h.2.2.1 (by decide) _ hx).1
theorem Rj.a26 {σ ρ : RS} (h : Rj 2 σ ρ) {x : Int32} (hx : x.toNatClampNeg < (gI σ 29).toNatClampNeg) : aI ρ 26 x.toNatClampNeg = aI σ 26 x.toNatClampNeg := (h.2.2.1 (by decide) _ hx).2.1
theorem Rj.a27 {σ ρ : RS} (h : Rj 2 σ ρ) {x : Int32} (hx : x.toNatClampNeg < (gI σ 29).toNatClampNeg) : aI ρ 27 x.toNatClampNeg = aI σ 27 x.toNatClampNeg := (h.2.2.1 (by decide) _ hx).2.2
theorem Rj.a63 {md : Nat} {σ ρ : RS} (h : Rj (md + 1) σ ρ) {x : Int32} (hx : x.toNatClampNeg < (gI σ 62).toNatClampNeg) : aI ρ 63 x.toNatClampNeg = aI σ 63 x.toNatClampNeg := (h.2.2.2.1 (by omega) _ hx).1
theorem Rj.a64 {md : Nat} {σ ρ : RS} (h : Rj (md + 1) σ ρ) {x : Int32} (hx : x.toNatClampNeg < (gI σ 62).toNatClampNeg) : aI ρ 64 x.toNatClampNeg = aI σ 64 x.toNatClampNeg := (h.2.2.2.1 (by omega) _ hx).2.1
theorem Rj.t64 {md : Nat} {σ ρ : RS} (h : Rj (md + 1) σ ρ) {x : Int32} (hx : x.toNatClampNeg < (gI σ 62).toNatClampNeg) : (aI σ 64 x.toNatClampNeg).toNatClampNeg < (gI σ 49).toNatClampNeg := (h.2.2.2.1 (by omega) _ hx).2.2
theorem Rj.a51 {md : Nat} {σ ρ : RS} (h : Rj md σ ρ) {x : Int32} (hx : x.toNatClampNeg < (gI σ 49).toNatClampNeg) : aI ρ 51 x.toNatClampNeg = aI σ 51 x.toNatClampNeg := h.2.2.2.2.1 _ hx
theorem Rj.a19 {md : Nat} {σ ρ : RS} (h : Rj md σ ρ) {x : Int32} (hx : x.toNatClampNeg < (gI σ 18).toNatClampNeg) : aI ρ 19 x.toNatClampNeg = aI σ 19 x.toNatClampNeg := (h.2.2.2.2.2.1 _ hx).1
theorem Rj.a20 {md : Nat} {σ ρ : RS} (h : Rj md σ ρ) {x : Int32} (hx : x.toNatClampNeg < (gI σ 18).toNatClampNeg) (ho : aI σ 19 x.toNatClampNeg = 38 ∨ aI σ 19 x.toNatClampNeg = 39) : aI ρ 20 x.toNatClampNeg = aI σ 20 x.toNatClampNeg := (h.2.2.2.2.2.1 _ hx).2 ho
theorem rjI_2 {md k : Nat} (h : rjI md k = true) : rjI 2 k = true := by sorry
theorem Rj.w {md : Nat} {σ ρ : RS} (h : Rj md σ ρ) : Rj 0 σ ρ := by sorry
theorem Rj.w1 {σ ρ : RS} (h : Rj 2 σ ρ) : Rj 1 σ ρ := by sorry
/-- what doesn't count -/
def Ir (σ τ : RS) : Prop := (∀ k, rjI 2 k = true → gI τ k = gI σ k) ∧ ∀ k, rjA k = true → aI τ k = aI σ k
theorem Rj.ir {md : Nat} {σ ρ τ τ' : RS} (h : Rj md σ ρ) (h1 : Ir σ τ) (h2 : Ir ρ τ') : Rj md τ τ' := by sorry
theorem Rj.i {md : Nat} {σ ρ : RS} (h : Rj md σ ρ) {k : Nat} {v v' : Int32} (hk : rjI 2 k = false) : Rj md (sI σ k v) (sI ρ k v') := by sorry
theorem Rj.a {md : Nat} {σ ρ : RS} (h : Rj md σ ρ) {k : Nat} {f f' : Nat → Int32} (hk : rjA k = false) : Rj md (sA σ k f) (sA ρ k f') := by sorry
theorem Rj.m {md : Nat} {σ ρ : RS} (h : Rj md σ ρ) {k : Nat} {f f' : Nat → Int64} : Rj md (sM σ k f) (sM ρ k f') := by sorry
/-- all numbers the same but one -/
def S1 (k : Nat) (σ τ : RS) : Prop := (∀ j, j ≠ k → gI τ j = gI σ j) ∧ ∀ j, aI τ j = aI σ j
theorem S1.s {k : Nat} {σ : RS} {v : Int32} : S1 k σ (sI σ k v) := ⟨fun j hj => by rw [gI_sI, nb_ne hj], fun _ => rfl⟩
theorem Rj.v {md : Nat} {σ ρ τ τ' : RS} (h : Rj md σ ρ) {k : Nat} (hk : k = 15 ∨ k = 17 ∨ k = 34 ∨ k = 35 ∨ k = 36 ∨ k = 42) (h1 : S1 k σ τ) (h2 : S1 k ρ τ') (he : gI τ' k = gI τ k) : Rj md τ τ' := by sorry
theorem Rj.s {md : Nat} {σ ρ : RS} (h : Rj md σ ρ) {k : Nat} {v : Int32} (hk : k = 15 ∨ k = 17 ∨ k = 34 ∨ k = 35 ∨ k = 36 ∨ k = 42) : Rj md (sI σ k v) (sI ρ k v) := by sorry
theorem Rj.o {md : Nat} {σ ρ τ τ' : RS} (h : Rj md σ ρ) (h1 : S1 29 σ τ) (h2 : S1 29 ρ τ') (he : gI τ' 29 = gI τ 29) (hv : nT (gI τ 29) ≤ nT (gI σ 29)) : Rj md τ τ' := by sorry
theorem Rj.f {md : Nat} {σ ρ τ τ' : RS} (h : Rj md σ ρ) (h1 : S1 62 σ τ) (h2 : S1 62 ρ τ') (he : gI τ' 62 = gI τ 62) (hv : nT (gI τ 62) ≤ nT (gI σ 62)) : Rj md τ τ' := by sorry
theorem nT_pred {x : Int32} (h : 0 < x) : nT (x - 1) ≤ nT x := by sorry
theorem Rj.o1 {md : Nat} {σ ρ : RS} (h : Rj md σ ρ) (h0 : 0 < gI σ 29) : Rj md (sI σ 29 (gI σ 29 - 1)) (sI ρ 29 (gI σ 29 - 1)) := by sorry
theorem Rj.o0 {md : Nat} {σ ρ : RS} (h : Rj md σ ρ) : Rj md (sI σ 29 0) (sI ρ 29 0) := by sorry
theorem Rj.f1 {md : Nat} {σ ρ : RS} (h : Rj md σ ρ) (h0 : 0 < gI σ 62) : Rj md (sI σ 62 (gI σ 62 - 1)) (sI ρ 62 (gI σ 62 - 1)) := by sorry
theorem Rj.f0 {md : Nat} {σ ρ : RS} (h : Rj md σ ρ) : Rj md (sI σ 62 0) (sI ρ 62 0) := by sorry
theorem Rj.o2 {σ ρ : RS} (h : Rj 1 σ ρ) : Rj 2 (sI σ 29 0) (sI ρ 29 0) := by sorry
theorem Rj.f2 {σ ρ : RS} (h : Rj 0 σ ρ) : Rj 1 (sI σ 62 0) (sI ρ 62 0) := by sorry
/-- one token further -/
theorem Rj.p {md : Nat} {σ ρ τ τ' : RS} (h : Rj md σ ρ) (h1 : S1 14 σ τ) (h2 : S1 14 ρ τ') (e1 : gI τ 14 = gI σ 14 + 1) (e2 : gI τ' 14 = gI σ 14 + 1) (hl : gI σ 14 < 500) (ht : ¬ aI σ 3 (gI σ 14).toNatClampNeg = 0 ∧ ¬ aI σ 3 (gI σ 14).toNatClampNeg = 6) : Rj md τ τ' := by sorry
/-- one code more -/
def Em (σ : RS) (op a : Int32) (τ : RS) : Prop := (∀ k, k ≠ 18 → gI τ k = gI σ k) ∧ gI τ 18 = gI σ 18 + 1 ∧ aI τ 19 = upd (aI σ 19) (nT (gI σ 18)) op ∧ aI τ 20 = upd (aI σ 20) (nT (gI σ 18)) a ∧ (∀ k, k < 19 ∨ 24 < k → aI τ k = aI σ k) ∧ (0 ≤ gI σ 18 ∧ gI σ 18 < 4000)
theorem Rj.em {md : Nat} {σ ρ τ τ' : RS} {op a a' : Int32} (h : Rj md σ ρ) (h1 : Em σ op a τ) (h2 : Em ρ op a' τ') (ha : (op = 38 ∨ op = 39) → a' = a) : Rj md τ τ' := by sorry
/-- one operator more -/
def Pu (σ : RS) (s g t : Int32) (τ : RS) : Prop := (∀ k, k ≠ 29 → gI τ k = gI σ k) ∧ gI τ 29 = gI σ 29 + 1 ∧ (aI τ 25 = upd (aI σ 25) (nT (gI σ 29)) s ∧ aI τ 26 = upd (aI σ 26) (nT (gI σ 29)) g ∧ aI τ 27 = upd (aI σ 27) (nT (gI σ 29)) t) ∧ (∀ k, k < 25 ∨ 28 < k → aI τ k = aI σ k) ∧ (0 ≤ gI σ 29 ∧ gI σ 29 < 600)
theorem Rj.pu {σ ρ τ τ' : RS} {s g t : Int32} (h : Rj 2 σ ρ) (h1 : Pu σ s g t τ) (h2 : Pu ρ s g t τ') : Rj 2 τ τ' := by sorry
/-- one thing more -/
def Th (σ τ : RS) : Prop := (∀ k, k ≠ 49 → gI τ k = gI σ k) ∧ gI τ 49 = gI σ 49 + 1 ∧ aI τ 51 = upd (aI σ 51) (nT (gI σ 49)) (gI σ 18) ∧ (∀ k, k < 50 ∨ 61 < k → aI τ k = aI σ k) ∧ (0 ≤ gI σ 49 ∧ gI σ 49 < 600)
theorem Th.lt {σ τ : RS} (h : Th σ τ) : (gI σ 49).toNatClampNeg < (gI τ 49).toNatClampNeg := by sorry
theorem Rj.th {md : Nat} {σ ρ τ τ' : RS} (h : Rj md σ ρ) (h1 : Th σ τ) (h2 : Th ρ τ') : Rj md τ τ' := by sorry
/-- one frame more -/
def Fmq (σ : RS) (s k : Int32) (τ : RS) : Prop := (∀ k, k ≠ 62 → gI τ k = gI σ k) ∧ gI τ 62 = gI σ 62 + 1 ∧ (aI τ 63 = upd (aI σ 63) (nT (gI σ 62)) s ∧ aI τ 64 = upd (aI σ 64) (nT (gI σ 62)) k) ∧ (∀ k, k < 63 ∨ 65 < k → aI τ k = aI σ k) ∧ (0 ≤ gI σ 62 ∧ gI σ 62 < 80)
theorem Rj.fm {σ ρ τ τ' : RS} {s k : Int32} (h : Rj 1 σ ρ) (h1 : Fmq σ s k τ) (h2 : Fmq ρ s k τ') (hk : k.toNatClampNeg < (gI σ 49).toNatClampNeg) : Rj 1 τ τ' := by sorry
theorem Rj.fs {md : Nat} {σ ρ : RS} {i : Nat} {v : Int32} (h : Rj md σ ρ) : Rj md (sA σ 63 (upd (aI σ 63) i v)) (sA ρ 63 (upd (aI ρ 63) i v)) := by sorry
/-- what an exp keeps -/
def kxI (k : Nat) : Bool := k == 2 || k == 36 || k == 49 || k == 62
def kxA (k : Nat) : Bool := k == 3 || k == 6 || k == 39 || k == 51 || k == 63 || k == 64
def Kx (σ τ : RS) : Prop := (∀ k, kxI k = true → gI τ k = gI σ k) ∧ ∀ k, kxA k = true → aI τ k = aI σ k
theorem Kx.rf {σ : RS} : Kx σ σ := ⟨fun _ _ => rfl, fun _ _ => rfl⟩
theorem Kx.tr {σ τ υ : RS} (h1 : Kx σ τ) (h2 : Kx τ υ) : Kx σ υ := by sorry
theorem Kx.i {σ τ : RS} (h : Kx σ τ) {k : Nat} {v : Int32} (hk : kxI k = false) : Kx σ (sI τ k v) := by sorry
theorem Kx.a {σ τ : RS} (h : Kx σ τ) {k : Nat} {f : Nat → Int32} (hk : kxA k = false) : Kx σ (sA τ k f) := by sorry
theorem Kx.m {σ τ : RS} (h : Kx σ τ) {k : Nat} {f : Nat → Int64} : Kx σ (sM τ k f) := h
theorem S1.kx {k : Nat} {σ τ : RS} (h : S1 k σ τ) (hk : kxI k = false) : Kx σ τ := by sorry
theorem Em.kx {σ τ : RS} {op a : Int32} (h : Em σ op a τ) : Kx σ τ := by sorry
theorem Pu.kx {σ τ : RS} {s g t : Int32} (h : Pu σ s g t τ) : Kx σ τ := by sorry
theorem Rj.ca {md : Nat} {σ ρ : RS} {c : Nat} {v v' : Int32} (h : Rj md σ ρ) (ho : ¬ (aI σ 19 c = 38 ∨ aI σ 19 c = 39)) : Rj md (sA σ 20 (upd (aI σ 20) c v)) (sA ρ 20 (upd (aI ρ 20) c v')) := by sorry
theorem lt_pred {x : Int32} (h : 0 < x) : (x - 1).toNatClampNeg < x.toNatClampNeg := by sorry
theorem Em.at {σ τ : RS} {op a : Int32} (h : Em σ op a τ) : aI τ 19 (gI σ 18).toNatClampNeg = op := by sorry
theorem vin {j : Int32} {n : Nat} {m : Int32} (h : vp_in j n) (hm : m.toNatClampNeg = n) (h0 : 0 ≤ m) : 0 ≤ j ∧ j < m := by sorry
def Pu_wrong : UP1 := fun A1 σ => match A1 with
  | [.int what, .int token] => True
  | _ => False
def Qu_wrong : UQ1 := fun A1 σ w τ => match A1 with
  | [.int what, .int token] => w = some (.int 0)
  | _ => False
set_option maxRecDepth 100000 in
set_option maxHeartbeats 4000000 in
theorem u_wrong : UMet 12 Pu_wrong Qu_wrong := by sorry
def Pu_cant : UP1 := fun A1 σ => match A1 with
  | [] => True
  | _ => False
def Qu_cant : UQ1 := fun A1 σ w τ => match A1 with
  | [] => w = some (.int 0)
  | _ => False
set_option maxRecDepth 100000 in
set_option maxHeartbeats 4000000 in
theorem u_cant : UMet 13 Pu_cant Qu_cant := by sorry
def Pu_emit : UP1 := fun A1 σ => match A1 with
  | [.int op, .int a, .int token] => True
  | _ => False
def Qu_emit : UQ1 := fun A1 σ w τ => match A1 with
  | [.int op, .int a, .int token] => w = some (.int (gI σ 18)) ∧ Em σ op a τ
  | _ => False
set_option maxRecDepth 100000 in
set_option maxHeartbeats 4000000 in
theorem u_emit : UMet 20 Pu_emit Qu_emit := by sorry
def Pu_emitExp : UP1 := fun A1 σ => match A1 with
  | [.int op, .int a, .int token, .int first, .int last] => True
  | _ => False
def Qu_emitExp : UQ1 := fun A1 σ w τ => match A1 with
  | [.int op, .int a, .int token, .int first, .int last] => w = some (.int (gI σ 18)) ∧ Em σ op a τ
  | _ => False
set_option maxRecDepth 100000 in
set_option maxHeartbeats 4000000 in
theorem u_emitExp : UMet 21 Pu_emitExp Qu_emitExp := by sorry
def Pu_push : UP1 := fun A1 σ => match A1 with
  | [.int sort, .int sign, .int token] => True
  | _ => False
def Qu_push : UQ1 := fun A1 σ w τ => match A1 with
  | [.int sort, .int sign, .int token] => w = some (.int 1) ∧ Pu σ sort sign token τ
  | _ => False
set_option maxRecDepth 100000 in
set_option maxHeartbeats 4000000 in
theorem u_push : UMet 25 Pu_push Qu_push := by sorry
def Pu_whole : UP1 := fun A1 σ => match A1 with
  | [.int first] => True
  | _ => False
def Qu_whole : UQ1 := fun A1 σ w τ => match A1 with
  | [.int first] => w = none ∧ ∃ f v, τ = sI (sA σ 30 f) 31 v
  | _ => False
set_option maxRecDepth 100000 in
set_option maxHeartbeats 4000000 in
theorem u_whole : UMet 26 Pu_whole Qu_whole := by sorry
def Pu_wait : UP1 := fun A1 σ => match A1 with
  | [.int begins] => True
  | _ => False
def Qu_wait : UQ1 := fun A1 σ w τ => match A1 with
  | [.int begins] => w = some (.int 1) ∧ τ = sI (sI σ 34 1) 35 begins
  | _ => False
set_option maxRecDepth 100000 in
set_option maxHeartbeats 4000000 in
theorem u_wait : UMet 28 Pu_wait Qu_wait := by sorry
def Pu_thing : UP1 := fun A1 σ => match A1 with
  | [.int sort, .int token] => True
  | _ => False
def Qu_thing : UQ1 := fun A1 σ w τ => match A1 with
  | [.int sort, .int token] => w = some (.int (gI σ 49)) ∧ Th σ τ
  | _ => False
set_option maxRecDepth 100000 in
set_option maxHeartbeats 4000000 in
theorem u_thing : UMet 35 Pu_thing Qu_thing := by sorry
def Pu_sameName : UP1 := fun A1 σ => match A1 with
  | [.int t, .int u] => True
  | _ => False
def Qu_sameName : UQ1 := fun A1 σ w τ => match A1 with
  | [.int t, .int u] => ∃ r : Int32, w = some (.int r) ∧ σ = τ
  | _ => False
set_option maxRecDepth 100000 in
set_option maxHeartbeats 4000000 in
theorem u_sameName : UMet 63 Pu_sameName Qu_sameName := by sorry
def Pj_isSign : JPr := fun A1 A2 σ ρ => match A1, A2 with
  | [.int s], [.int s'] => Rj 0 σ ρ ∧ s = s'
  | _, _ => False
def Qj_isSign : JQr := fun A1 A2 σ ρ w τ w' τ' => match A1, A2 with
  | [.int s], [.int s'] => ∃ b : Int32, w = some (.int b) ∧ w' = some (.int b) ∧ σ = τ ∧ ρ = τ' ∧ (b = 0 ∨ (b = 1 ∧ aI σ 3 (gI σ 14).toNatClampNeg = 5 ∧ aI σ 6 (gI σ 14).toNatClampNeg = s))
  | _, _ => False
set_option maxRecDepth 100000 in
set_option maxHeartbeats 4000000 in
theorem j_isSign : JMet 14 Pj_isSign Qj_isSign := by sorry
def Pj_isWord : JPr := fun A1 A2 σ ρ => match A1, A2 with
  | [.int s], [.int s'] => Rj 0 σ ρ ∧ s = s'
  | _, _ => False
def Qj_isWord : JQr := fun A1 A2 σ ρ w τ w' τ' => match A1, A2 with
  | [.int s], [.int s'] => ∃ b : Int32, w = some (.int b) ∧ w' = some (.int b) ∧ σ = τ ∧ ρ = τ' ∧ (b = 0 ∨ (b = 1 ∧ aI σ 3 (gI σ 14).toNatClampNeg = 4 ∧ aI σ 6 (gI σ 14).toNatClampNeg = s))
  | _, _ => False
set_option maxRecDepth 100000 in
set_option maxHeartbeats 4000000 in
theorem j_isWord : JMet 15 Pj_isWord Qj_isWord := by sorry
def Pj_isSignAt : JPr := fun A1 A2 σ ρ => match A1, A2 with
  | [.int t, .int s], [.int t', .int s'] => Rj 0 σ ρ ∧ t = t' ∧ s = s'
  | _, _ => False
def Qj_isSignAt : JQr := fun A1 A2 σ ρ w τ w' τ' => match A1, A2 with
  | [.int t, .int s], [.int t', .int s'] => ∃ b : Int32, w = some (.int b) ∧ w' = some (.int b) ∧ σ = τ ∧ ρ = τ' ∧ (b = 0 ∨ (b = 1 ∧ aI σ 3 t.toNatClampNeg = 5))
  | _, _ => False
set_option maxRecDepth 100000 in
set_option maxHeartbeats 4000000 in
theorem j_isSignAt : JMet 16 Pj_isSignAt Qj_isSignAt := by sorry
def Pj_take : JPr := fun A1 A2 σ ρ => match A1, A2 with
  | [], [] => Rj 0 σ ρ ∧ ¬ aI σ 3 (gI σ 14).toNatClampNeg = 0 ∧ ¬ aI σ 3 (gI σ 14).toNatClampNeg = 6
  | _, _ => False
def Qj_take : JQr := fun A1 A2 σ ρ w τ w' τ' => match A1, A2 with
  | [], [] => ∃ b : Int32, w = some (.int b) ∧ w' = some (.int b) ∧ (b = 0 ∨ (b = 1 ∧ (∀ md, Rj md σ ρ → Rj md τ τ') ∧ Kx σ τ ∧ (gI τ 14 = gI σ 14 + 1 ∧ aI τ' 39 = aI ρ 39 ∧ gI τ 34 = gI σ 34 ∧ gI τ' 34 = gI ρ 34)))
  | _, _ => False
set_option maxRecDepth 100000 in
set_option maxHeartbeats 4000000 in
theorem j_take : JMet 17 Pj_take Qj_take := by sorry
def Pj_want : JPr := fun A1 A2 σ ρ => match A1, A2 with
  | [.int s], [.int s'] => Rj 0 σ ρ ∧ s = s'
  | _, _ => False
def Qj_want : JQr := fun A1 A2 σ ρ w τ w' τ' => match A1, A2 with
  | [.int s], [.int s'] => ∃ b : Int32, w = some (.int b) ∧ w' = some (.int b) ∧ (b = 0 ∨ (b = 1 ∧ (∀ md, Rj md σ ρ → Rj md τ τ') ∧ Kx σ τ ∧ aI τ' 39 = aI ρ 39))
  | _, _ => False
set_option maxRecDepth 100000 in
set_option maxHeartbeats 4000000 in
theorem j_want : JMet 18 Pj_want Qj_want := by sorry
def Pj_enter : JPr := fun A1 A2 σ ρ => match A1, A2 with
  | [], [] => Rj 0 σ ρ
  | _, _ => False
def Qj_enter : JQr := fun A1 A2 σ ρ w τ w' τ' => match A1, A2 with
  | [], [] => ∃ b : Int32, w = some (.int b) ∧ w' = some (.int b) ∧ (b = 0 ∨ (b = 1 ∧ (∀ md, Rj md σ ρ → Rj md τ τ') ∧ Kx σ τ ∧ (gI τ 14 = gI σ 14 ∧ gI τ 29 = gI σ 29)))
  | _, _ => False
set_option maxRecDepth 100000 in
set_option maxHeartbeats 4000000 in
theorem j_enter : JMet 19 Pj_enter Qj_enter := by sorry
def Pj_strength : JPr := fun A1 A2 σ ρ => match A1, A2 with
  | [.int s], [.int s'] => s = s'
  | _, _ => False
def Qj_strength : JQr := fun A1 A2 σ ρ w τ w' τ' => match A1, A2 with
  | [.int s], [.int s'] => ∃ r : Int32, w = some (.int r) ∧ w' = some (.int r) ∧ σ = τ ∧ ρ = τ'
  | _, _ => False
set_option maxRecDepth 100000 in
set_option maxHeartbeats 4000000 in
theorem j_strength : JMet 22 Pj_strength Qj_strength := by sorry
def Pj_isType : JPr := fun A1 A2 σ ρ => match A1, A2 with
  | [.int t], [.int t'] => Rj 0 σ ρ ∧ t = t' ∧ t.toNatClampNeg < (gI σ 2).toNatClampNeg
  | _, _ => False
def Qj_isType : JQr := fun A1 A2 σ ρ w τ w' τ' => match A1, A2 with
  | [.int t], [.int t'] => ∃ b : Int32, w = some (.int b) ∧ w' = some (.int b) ∧ σ = τ ∧ ρ = τ' ∧ (b = 0 ∨ (b = 1 ∧ aI σ 3 t.toNatClampNeg = 4))
  | _, _ => False
set_option maxRecDepth 100000 in
set_option maxHeartbeats 4000000 in
theorem j_isType : JMet 23 Pj_isType Qj_isType := by sorry
def Pj_isSetAt : JPr := fun A1 A2 σ ρ => match A1, A2 with
  | [.int t], [.int t'] => Rj 0 σ ρ ∧ t = t' ∧ t.toNatClampNeg < (gI σ 2).toNatClampNeg
  | _, _ => False
def Qj_isSetAt : JQr := fun A1 A2 σ ρ w τ w' τ' => match A1, A2 with
  | [.int t], [.int t'] => ∃ b : Int32, w = some (.int b) ∧ w' = some (.int b) ∧ σ = τ ∧ ρ = τ' ∧ (b = 0 ∨ (b = 1 ∧ aI σ 3 t.toNatClampNeg = 5))
  | _, _ => False
set_option maxRecDepth 100000 in
set_option maxHeartbeats 4000000 in
theorem j_isSetAt : JMet 24 Pj_isSetAt Qj_isSetAt := by sorry
def Pj_isTold : JPr := fun A1 A2 σ ρ => match A1, A2 with
  | [], [] => Rj 0 σ ρ
  | _, _ => False
def Qj_isTold : JQr := fun A1 A2 σ ρ w τ w' τ' => match A1, A2 with
  | [], [] => ∃ b : Int32, w = some (.int b) ∧ w' = some (.int b) ∧ σ = τ ∧ ρ = τ' ∧ (b = 0 ∨ (b = 1 ∧ aI σ 3 (gI σ 14).toNatClampNeg = 4))
  | _, _ => False
set_option maxRecDepth 100000 in
set_option maxHeartbeats 4000000 in
theorem j_isTold : JMet 46 Pj_isTold Qj_isTold := by sorry
def Pj_isRow : JPr := fun A1 A2 σ ρ => match A1, A2 with
  | [.int s], [.int s'] => s = s'
  | _, _ => False
def Qj_isRow : JQr := fun A1 A2 σ ρ w τ w' τ' => match A1, A2 with
  | [.int s], [.int s'] => ∃ b : Int32, w = some (.int b) ∧ w' = some (.int b) ∧ σ = τ ∧ ρ = τ' ∧ (b = 0 ∨ (b = 1 ∧ True))
  | _, _ => False
set_option maxRecDepth 100000 in
set_option maxHeartbeats 4000000 in
theorem j_isRow : JMet 43 Pj_isRow Qj_isRow := by sorry
def Pu_pop : UP1 := fun A1 σ => match A1 with
  | [] => True
  | _ => False
def Qu_pop : UQ1 := fun A1 σ w τ => match A1 with
  | [] => w = none ∧ ∃ a, Em σ 21 a τ
  | _ => False
set_option maxRecDepth 100000 in
set_option maxHeartbeats 4000000 in
theorem u_pop : UMet 51 Pu_pop Qu_pop := by sorry
def Pj_reduce : JPr := fun A1 A2 σ ρ => match A1, A2 with
  | [.int least], [.int least'] => Rj 2 σ ρ ∧ least = least'
  | _, _ => False
def Qj_reduce : JQr := fun A1 A2 σ ρ w τ w' τ' => match A1, A2 with
  | [.int least], [.int least'] => w = none ∧ w' = none ∧ Rj 2 τ τ' ∧ Kx σ τ ∧ gI τ 14 = gI σ 14
  | _, _ => False
set_option maxRecDepth 100000 in
set_option maxHeartbeats 4000000 in
theorem j_reduce : JMet 32 Pj_reduce Qj_reduce := by sorry
def Pj_complete : JPr := fun A1 A2 σ ρ => match A1, A2 with
  | [], [] => Rj 2 σ ρ
  | _, _ => False
def Qj_complete : JQr := fun A1 A2 σ ρ w τ w' τ' => match A1, A2 with
  | [], [] => w = none ∧ w' = none ∧ Rj 2 τ τ' ∧ Kx σ τ ∧ gI τ 14 = gI σ 14
  | _, _ => False
set_option maxRecDepth 100000 in
set_option maxHeartbeats 4000000 in
theorem j_complete : JMet 33 Pj_complete Qj_complete := by sorry
def Pj_closeCall : JPr := fun A1 A2 σ ρ => match A1, A2 with
  | [], [] => Rj 2 σ ρ ∧ 0 < gI σ 29 ∧ aI σ 3 (gI σ 14).toNatClampNeg = 5
  | _, _ => False
def Qj_closeCall : JQr := fun A1 A2 σ ρ w τ w' τ' => match A1, A2 with
  | [], [] => ∃ b : Int32, w = some (.int b) ∧ w' = some (.int b) ∧ (b = 0 ∨ (b = 1 ∧ Rj 2 τ τ' ∧ Kx σ τ ∧ gI τ' 34 = gI τ 34 ∧ (gI τ 34 = 0 ∨ gI τ' 35 = gI τ 35)))
  | _, _ => False
set_option maxRecDepth 100000 in
set_option maxHeartbeats 4000000 in
theorem j_closeCall : JMet 31 Pj_closeCall Qj_closeCall := by sorry
def Pj_named : JPr := fun A1 A2 σ ρ => match A1, A2 with
  | [.int begins], [.int begins'] => Rj 2 σ ρ ∧ begins = begins' ∧ aI σ 3 (gI σ 14).toNatClampNeg = 1 ∧ gI σ 34 = 0 ∧ gI ρ 34 = 0
  | _, _ => False
def Qj_named : JQr := fun A1 A2 σ ρ w τ w' τ' => match A1, A2 with
  | [.int begins], [.int begins'] => ∃ b : Int32, w = some (.int b) ∧ w' = some (.int b) ∧ (b = 0 ∨ (b = 1 ∧ Rj 2 τ τ' ∧ Kx σ τ ∧ gI τ' 34 = gI τ 34 ∧ (gI τ 34 = 0 ∨ gI τ' 35 = gI τ 35)))
  | _, _ => False
set_option maxRecDepth 100000 in
set_option maxHeartbeats 4000000 in
theorem j_named : JMet 30 Pj_named Qj_named := by sorry
def Pj_operand : JPr := fun A1 A2 σ ρ => match A1, A2 with
  | [.int begins], [.int begins'] => Rj 2 σ ρ ∧ begins = begins'
  | _, _ => False
def Qj_operand : JQr := fun A1 A2 σ ρ w τ w' τ' => match A1, A2 with
  | [.int begins], [.int begins'] => ∃ b : Int32, w = some (.int b) ∧ w' = some (.int b) ∧ (b = 0 ∨ (b = 1 ∧ Rj 2 τ τ' ∧ Kx σ τ ∧ gI τ' 34 = gI τ 34 ∧ (gI τ 34 = 0 ∨ gI τ' 35 = gI τ 35)))
  | _, _ => False
set_option maxRecDepth 100000 in
set_option maxHeartbeats 4000000 in
theorem j_operand : JMet 29 Pj_operand Qj_operand := by sorry
def Pj_behind : JPr := fun A1 A2 σ ρ => match A1, A2 with
  | [], [] => Rj 2 σ ρ
  | _, _ => False
def Qj_behind : JQr := fun A1 A2 σ ρ w τ w' τ' => match A1, A2 with
  | [], [] => ∃ b : Int32, w = some (.int b) ∧ w' = some (.int b) ∧ (b = 0 ∨ (b = 1 ∧ Rj 2 τ τ' ∧ Kx σ τ ∧ gI τ' 34 = gI τ 34 ∧ (gI τ 34 = 0 ∨ gI τ' 35 = gI τ 35)))
  | _, _ => False
set_option maxRecDepth 100000 in
set_option maxHeartbeats 4000000 in
theorem j_behind : JMet 34 Pj_behind Qj_behind := by sorry
def Pj_expression : JPr := fun A1 A2 σ ρ => match A1, A2 with
  | [], [] => Rj 1 σ ρ
  | _, _ => False
def Qj_expression : JQr := fun A1 A2 σ ρ w τ w' τ' => match A1, A2 with
  | [], [] => ∃ b : Int32, w = some (.int b) ∧ w' = some (.int b) ∧ (b = 0 ∨ (b = 1 ∧ Rj 1 τ τ' ∧ Kx σ τ))
  | _, _ => False
set_option maxRecDepth 100000 in
set_option maxHeartbeats 4000000 in
theorem j_expression : JMet 27 Pj_expression Qj_expression := by sorry
def Pu_scope : UP1 := fun A1 σ => match A1 with
  | [] => True
  | _ => False
def Qu_scope : UQ1 := fun A1 σ w τ => match A1 with
  | [] => ∃ r : Int32, w = some (.int r) ∧ σ = τ
  | _ => False
set_option maxRecDepth 100000 in
set_option maxHeartbeats 4000000 in
theorem u_scope : UMet 41 Pu_scope Qu_scope := by sorry
def Pu_leave : UP1 := fun A1 σ => match A1 with
  | [.int k, .int token] => True
  | _ => False
def Qu_leave : UQ1 := fun A1 σ w τ => match A1 with
  | [.int k, .int token] => w = none ∧ ∃ f, τ = sA σ 48 f
  | _ => False
set_option maxRecDepth 100000 in
set_option maxHeartbeats 4000000 in
theorem u_leave : UMet 42 Pu_leave Qu_leave := by sorry
def Pu_named_ : UP1 := fun A1 σ => match A1 with
  | [.int t, .int on] => True
  | _ => False
def Qu_named_ : UQ1 := fun A1 σ w τ => match A1 with
  | [.int t, .int on] => ∃ r : Int32, w = some (.int r) ∧ σ = τ
  | _ => False
set_option maxRecDepth 100000 in
set_option maxHeartbeats 4000000 in
theorem u_named_ : UMet 64 Pu_named_ Qu_named_ := by sorry
def Pj_open : JPr := fun A1 A2 σ ρ => match A1, A2 with
  | [.int sort, .int k, .int step], [.int sort', .int k', .int step'] => Rj 1 σ ρ ∧ sort = sort' ∧ k = k' ∧ k.toNatClampNeg < (gI σ 49).toNatClampNeg
  | _, _ => False
def Qj_open : JQr := fun A1 A2 σ ρ w τ w' τ' => match A1, A2 with
  | [.int sort, .int k, .int step], [.int sort', .int k', .int step'] => ∃ b : Int32, w = some (.int b) ∧ w' = some (.int b) ∧ (b = 0 ∨ (b = 1 ∧ Rj 1 τ τ'))
  | _, _ => False
set_option maxRecDepth 100000 in
set_option maxHeartbeats 4000000 in
theorem j_open : JMet 36 Pj_open Qj_open := by sorry
def Pj_variable : JPr := fun A1 A2 σ ρ => match A1, A2 with
  | [.int type, .int fixed, .int k], [.int type', .int fixed', .int k'] => Rj 1 σ ρ ∧ aI σ 3 (gI σ 14).toNatClampNeg = 1
  | _, _ => False
def Qj_variable : JQr := fun A1 A2 σ ρ w τ w' τ' => match A1, A2 with
  | [.int type, .int fixed, .int k], [.int type', .int fixed', .int k'] => ∃ b : Int32, w = some (.int b) ∧ w' = some (.int b) ∧ (b = 0 ∨ (b = 1 ∧ Rj 1 τ τ' ∧ Kx σ τ ∧ aI τ' 39 = aI ρ 39))
  | _, _ => False
set_option maxRecDepth 100000 in
set_option maxHeartbeats 4000000 in
theorem j_variable : JMet 40 Pj_variable Qj_variable := by sorry
def Pj_grouped : JPr := fun A1 A2 σ ρ => match A1, A2 with
  | [], [] => Rj 1 σ ρ ∧ 0 < gI σ 62
  | _, _ => False
def Qj_grouped : JQr := fun A1 A2 σ ρ w τ w' τ' => match A1, A2 with
  | [], [] => ∃ b : Int32, w = some (.int b) ∧ w' = some (.int b) ∧ σ = τ ∧ ρ = τ' ∧ (b = 0 ∨ (b = 1 ∧ True))
  | _, _ => False
set_option maxRecDepth 100000 in
set_option maxHeartbeats 4000000 in
theorem j_grouped : JMet 45 Pj_grouped Qj_grouped := by sorry
def Pj_param : JPr := fun A1 A2 σ ρ => match A1, A2 with
  | [.int m, .int k], [.int m', .int k'] => Rj 1 σ ρ ∧ m = m' ∧ aI ρ 39 m.toNatClampNeg = aI σ 39 m.toNatClampNeg
  | _, _ => False
def Qj_param : JQr := fun A1 A2 σ ρ w τ w' τ' => match A1, A2 with
  | [.int m, .int k], [.int m', .int k'] => ∃ b : Int32, w = some (.int b) ∧ w' = some (.int b) ∧ (b = 0 ∨ (b = 1 ∧ Rj 1 τ τ' ∧ (gI τ 36 = gI σ 36 ∧ gI τ 49 = gI σ 49) ∧ aI τ' 39 m.toNatClampNeg = aI τ 39 m.toNatClampNeg))
  | _, _ => False
set_option maxRecDepth 100000 in
set_option maxHeartbeats 4000000 in
theorem j_param : JMet 39 Pj_param Qj_param := by sorry
def Pj_declaration : JPr := fun A1 A2 σ ρ => match A1, A2 with
  | [.int k], [.int k'] => Rj 1 σ ρ
  | _, _ => False
def Qj_declaration : JQr := fun A1 A2 σ ρ w τ w' τ' => match A1, A2 with
  | [.int k], [.int k'] => ∃ b : Int32, w = some (.int b) ∧ w' = some (.int b) ∧ (b = 0 ∨ (b = 1 ∧ Rj 1 τ τ' ∧ Kx σ τ))
  | _, _ => False
set_option maxRecDepth 100000 in
set_option maxHeartbeats 4000000 in
theorem j_declaration : JMet 48 Pj_declaration Qj_declaration := by sorry
def Pj_told : JPr := fun A1 A2 σ ρ => match A1, A2 with
  | [], [] => Rj 1 σ ρ
  | _, _ => False
def Qj_told : JQr := fun A1 A2 σ ρ w τ w' τ' => match A1, A2 with
  | [], [] => ∃ b : Int32, w = some (.int b) ∧ w' = some (.int b) ∧ (b = 0 ∨ (b = 1 ∧ Rj 1 τ τ' ∧ Kx σ τ))
  | _, _ => False
set_option maxRecDepth 100000 in
set_option maxHeartbeats 4000000 in
theorem j_told : JMet 47 Pj_told Qj_told := by sorry
def Pj_condition : JPr := fun A1 A2 σ ρ => match A1, A2 with
  | [], [] => Rj 1 σ ρ
  | _, _ => False
def Qj_condition : JQr := fun A1 A2 σ ρ w τ w' τ' => match A1, A2 with
  | [], [] => ∃ b : Int32, w = some (.int b) ∧ w' = some (.int b) ∧ (b = 0 ∨ (b = 1 ∧ Rj 1 τ τ' ∧ Kx σ τ))
  | _, _ => False
set_option maxRecDepth 100000 in
set_option maxHeartbeats 4000000 in
theorem j_condition : JMet 52 Pj_condition Qj_condition := by sorry
def Pj_finished : JPr := fun A1 A2 σ ρ => match A1, A2 with
  | [], [] => Rj 1 σ ρ
  | _, _ => False
def Qj_finished : JQr := fun A1 A2 σ ρ w τ w' τ' => match A1, A2 with
  | [], [] => ∃ b : Int32, w = some (.int b) ∧ w' = some (.int b) ∧ (b = 0 ∨ (b = 1 ∧ Rj 1 τ τ'))
  | _, _ => False
set_option maxRecDepth 100000 in
set_option maxHeartbeats 4000000 in
theorem j_finished : JMet 69 Pj_finished Qj_finished := by sorry
def Pj_closed : JPr := fun A1 A2 σ ρ => match A1, A2 with
  | [.int step], [.int step'] => Rj 1 σ ρ ∧ 0 < gI σ 62
  | _, _ => False
def Qj_closed : JQr := fun A1 A2 σ ρ w τ w' τ' => match A1, A2 with
  | [.int step], [.int step'] => ∃ b : Int32, w = some (.int b) ∧ w' = some (.int b) ∧ (b = 0 ∨ (b = 1 ∧ Rj 1 τ τ'))
  | _, _ => False
set_option maxRecDepth 100000 in
set_option maxHeartbeats 4000000 in
theorem j_closed : JMet 61 Pj_closed Qj_closed := by sorry
def Pj_plain : JPr := fun A1 A2 σ ρ => match A1, A2 with
  | [], [] => Rj 1 σ ρ
  | _, _ => False
def Qj_plain : JQr := fun A1 A2 σ ρ w τ w' τ' => match A1, A2 with
  | [], [] => ∃ b : Int32, w = some (.int b) ∧ w' = some (.int b) ∧ (b = 0 ∨ (b = 1 ∧ Rj 1 τ τ'))
  | _, _ => False
set_option maxRecDepth 100000 in
set_option maxHeartbeats 4000000 in
theorem j_plain : JMet 50 Pj_plain Qj_plain := by sorry
def Pj_exps : JPr := fun A1 A2 σ ρ => match A1, A2 with
  | [], [] => Rj 1 σ ρ
  | _, _ => False
def Qj_exps : JQr := fun A1 A2 σ ρ w τ w' τ' => match A1, A2 with
  | [], [] => ∃ b : Int32, w = some (.int b) ∧ w' = some (.int b) ∧ (b = 0 ∨ (b = 1 ∧ Rj 1 τ τ' ∧ Kx σ τ))
  | _, _ => False
set_option maxRecDepth 100000 in
set_option maxHeartbeats 4000000 in
theorem j_exps : JMet 56 Pj_exps Qj_exps := by sorry
def Pj_ifOf : JPr := fun A1 A2 σ ρ => match A1, A2 with
  | [], [] => Rj 1 σ ρ ∧ aI σ 3 (gI σ 14).toNatClampNeg = 4
  | _, _ => False
def Qj_ifOf : JQr := fun A1 A2 σ ρ w τ w' τ' => match A1, A2 with
  | [], [] => ∃ b : Int32, w = some (.int b) ∧ w' = some (.int b) ∧ (b = 0 ∨ (b = 1 ∧ Rj 1 τ τ'))
  | _, _ => False
set_option maxRecDepth 100000 in
set_option maxHeartbeats 4000000 in
theorem j_ifOf : JMet 53 Pj_ifOf Qj_ifOf := by sorry
def Pj_whileOf : JPr := fun A1 A2 σ ρ => match A1, A2 with
  | [], [] => Rj 1 σ ρ ∧ aI σ 3 (gI σ 14).toNatClampNeg = 4
  | _, _ => False
def Qj_whileOf : JQr := fun A1 A2 σ ρ w τ w' τ' => match A1, A2 with
  | [], [] => ∃ b : Int32, w = some (.int b) ∧ w' = some (.int b) ∧ (b = 0 ∨ (b = 1 ∧ Rj 1 τ τ'))
  | _, _ => False
set_option maxRecDepth 100000 in
set_option maxHeartbeats 4000000 in
theorem j_whileOf : JMet 54 Pj_whileOf Qj_whileOf := by sorry
def Pj_doOf : JPr := fun A1 A2 σ ρ => match A1, A2 with
  | [], [] => Rj 1 σ ρ ∧ aI σ 3 (gI σ 14).toNatClampNeg = 4
  | _, _ => False
def Qj_doOf : JQr := fun A1 A2 σ ρ w τ w' τ' => match A1, A2 with
  | [], [] => ∃ b : Int32, w = some (.int b) ∧ w' = some (.int b) ∧ (b = 0 ∨ (b = 1 ∧ Rj 1 τ τ'))
  | _, _ => False
set_option maxRecDepth 100000 in
set_option maxHeartbeats 4000000 in
theorem j_doOf : JMet 55 Pj_doOf Qj_doOf := by sorry
def Pj_switchOf : JPr := fun A1 A2 σ ρ => match A1, A2 with
  | [], [] => Rj 1 σ ρ ∧ aI σ 3 (gI σ 14).toNatClampNeg = 4
  | _, _ => False
def Qj_switchOf : JQr := fun A1 A2 σ ρ w τ w' τ' => match A1, A2 with
  | [], [] => ∃ b : Int32, w = some (.int b) ∧ w' = some (.int b) ∧ (b = 0 ∨ (b = 1 ∧ Rj 1 τ τ'))
  | _, _ => False
set_option maxRecDepth 100000 in
set_option maxHeartbeats 4000000 in
theorem j_switchOf : JMet 58 Pj_switchOf Qj_switchOf := by sorry
def Pj_gives : JPr := fun A1 A2 σ ρ => match A1, A2 with
  | [], [] => Rj 1 σ ρ ∧ aI σ 3 (gI σ 14).toNatClampNeg = 4
  | _, _ => False
def Qj_gives : JQr := fun A1 A2 σ ρ w τ w' τ' => match A1, A2 with
  | [], [] => ∃ b : Int32, w = some (.int b) ∧ w' = some (.int b) ∧ (b = 0 ∨ (b = 1 ∧ Rj 1 τ τ'))
  | _, _ => False
set_option maxRecDepth 100000 in
set_option maxHeartbeats 4000000 in
theorem j_gives : JMet 65 Pj_gives Qj_gives := by sorry
def Pj_tryOf : JPr := fun A1 A2 σ ρ => match A1, A2 with
  | [], [] => Rj 1 σ ρ ∧ aI σ 3 (gI σ 14).toNatClampNeg = 4
  | _, _ => False
def Qj_tryOf : JQr := fun A1 A2 σ ρ w τ w' τ' => match A1, A2 with
  | [], [] => ∃ b : Int32, w = some (.int b) ∧ w' = some (.int b) ∧ (b = 0 ∨ (b = 1 ∧ Rj 1 τ τ'))
  | _, _ => False
set_option maxRecDepth 100000 in
set_option maxHeartbeats 4000000 in
theorem j_tryOf : JMet 66 Pj_tryOf Qj_tryOf := by sorry
def Pj_forOf : JPr := fun A1 A2 σ ρ => match A1, A2 with
  | [], [] => Rj 1 σ ρ ∧ aI σ 3 (gI σ 14).toNatClampNeg = 4
  | _, _ => False
def Qj_forOf : JQr := fun A1 A2 σ ρ w τ w' τ' => match A1, A2 with
  | [], [] => ∃ b : Int32, w = some (.int b) ∧ w' = some (.int b) ∧ (b = 0 ∨ (b = 1 ∧ Rj 1 τ τ'))
  | _, _ => False
set_option maxRecDepth 100000 in
set_option maxHeartbeats 4000000 in
theorem j_forOf : JMet 57 Pj_forOf Qj_forOf := by sorry
def Pj_label : JPr := fun A1 A2 σ ρ => match A1, A2 with
  | [], [] => Rj 1 σ ρ ∧ 0 < gI σ 62 ∧ aI σ 3 (gI σ 14).toNatClampNeg = 4
  | _, _ => False
def Qj_label : JQr := fun A1 A2 σ ρ w τ w' τ' => match A1, A2 with
  | [], [] => ∃ b : Int32, w = some (.int b) ∧ w' = some (.int b) ∧ (b = 0 ∨ (b = 1 ∧ Rj 1 τ τ'))
  | _, _ => False
set_option maxRecDepth 100000 in
set_option maxHeartbeats 4000000 in
theorem j_label : JMet 59 Pj_label Qj_label := by sorry
def Pj_closeSwitch : JPr := fun A1 A2 σ ρ => match A1, A2 with
  | [], [] => Rj 1 σ ρ ∧ 0 < gI σ 62 ∧ aI σ 3 (gI σ 14).toNatClampNeg = 5
  | _, _ => False
def Qj_closeSwitch : JQr := fun A1 A2 σ ρ w τ w' τ' => match A1, A2 with
  | [], [] => ∃ b : Int32, w = some (.int b) ∧ w' = some (.int b) ∧ (b = 0 ∨ (b = 1 ∧ Rj 1 τ τ'))
  | _, _ => False
set_option maxRecDepth 100000 in
set_option maxHeartbeats 4000000 in
theorem j_closeSwitch : JMet 60 Pj_closeSwitch Qj_closeSwitch := by sorry
def Pj_jump : JPr := fun A1 A2 σ ρ => match A1, A2 with
  | [], [] => Rj 1 σ ρ ∧ (aI σ 3 (gI σ 14).toNatClampNeg = 4) ∧ 0 < gI σ 62
  | _, _ => False
def Qj_jump : JQr := fun A1 A2 σ ρ w τ w' τ' => match A1, A2 with
  | [], [] => ∃ b : Int32, w = some (.int b) ∧ w' = some (.int b) ∧ (b = 0 ∨ (b = 1 ∧ Rj 1 τ τ'))
  | _, _ => False
set_option maxRecDepth 100000 in
set_option maxHeartbeats 4000000 in
theorem j_jump : JMet 62 Pj_jump Qj_jump := by sorry
def Pj_closeTry : JPr := fun A1 A2 σ ρ => match A1, A2 with
  | [.int sort, .int k, .int step], [.int sort', .int k', .int step'] => Rj 1 σ ρ ∧ sort = sort' ∧ k = k' ∧ k.toNatClampNeg < (gI σ 49).toNatClampNeg ∧ 0 < gI σ 62
  | _, _ => False
def Qj_closeTry : JQr := fun A1 A2 σ ρ w τ w' τ' => match A1, A2 with
  | [.int sort, .int k, .int step], [.int sort', .int k', .int step'] => ∃ b : Int32, w = some (.int b) ∧ w' = some (.int b) ∧ (b = 0 ∨ (b = 1 ∧ Rj 1 τ τ'))
  | _, _ => False
set_option maxRecDepth 100000 in
set_option maxHeartbeats 4000000 in
theorem j_closeTry : JMet 68 Pj_closeTry Qj_closeTry := by sorry
def Pj_closeRow : JPr := fun A1 A2 σ ρ => match A1, A2 with
  | [.int sort], [.int sort'] => Rj 1 σ ρ ∧ sort = sort' ∧ 0 < gI σ 62 ∧ aI σ 3 (gI σ 14).toNatClampNeg = 5
  | _, _ => False
def Qj_closeRow : JQr := fun A1 A2 σ ρ w τ w' τ' => match A1, A2 with
  | [.int sort], [.int sort'] => ∃ b : Int32, w = some (.int b) ∧ w' = some (.int b) ∧ (b = 0 ∨ (b = 1 ∧ Rj 1 τ τ'))
  | _, _ => False
set_option maxRecDepth 100000 in
set_option maxHeartbeats 4000000 in
theorem j_closeRow : JMet 67 Pj_closeRow Qj_closeRow := by sorry
def Pj_statement : JPr := fun A1 A2 σ ρ => match A1, A2 with
  | [], [] => Rj 1 σ ρ ∧ 0 < gI σ 62
  | _, _ => False
def Qj_statement : JQr := fun A1 A2 σ ρ w τ w' τ' => match A1, A2 with
  | [], [] => ∃ b : Int32, w = some (.int b) ∧ w' = some (.int b) ∧ (b = 0 ∨ (b = 1 ∧ Rj 1 τ τ'))
  | _, _ => False
set_option maxRecDepth 100000 in
set_option maxHeartbeats 4000000 in
theorem j_statement : JMet 49 Pj_statement Qj_statement := by sorry
def Pj_piece : JPr := fun A1 A2 σ ρ => match A1, A2 with
  | [], [] => Rj 1 σ ρ ∧ 0 < gI σ 62
  | _, _ => False
def Qj_piece : JQr := fun A1 A2 σ ρ w τ w' τ' => match A1, A2 with
  | [], [] => ∃ b : Int32, w = some (.int b) ∧ w' = some (.int b) ∧ (b = 0 ∨ (b = 1 ∧ Rj 1 τ τ'))
  | _, _ => False
set_option maxRecDepth 100000 in
set_option maxHeartbeats 4000000 in
theorem j_piece : JMet 44 Pj_piece Qj_piece := by sorry
def Pj_method : JPr := fun A1 A2 σ ρ => match A1, A2 with
  | [], [] => Rj 0 σ ρ
  | _, _ => False
def Qj_method : JQr := fun A1 A2 σ ρ w τ w' τ' => match A1, A2 with
  | [], [] => ∃ b : Int32, w = some (.int b) ∧ w' = some (.int b) ∧ (b = 0 ∨ (b = 1 ∧ Rj 0 τ τ'))
  | _, _ => False
set_option maxRecDepth 100000 in
set_option maxHeartbeats 4000000 in
theorem j_method : JMet 38 Pj_method Qj_method := by sorry
/-- what two cuttings of one text agree in -/
def Tj (σ ρ : RS) : Prop := gI ρ 2 = gI σ 2 ∧ 0 < gI σ 2 ∧ (∀ i, i < nT (gI σ 2) → aI ρ 3 i = aI σ 3 i ∧ aI ρ 6 i = aI σ 6 i ∧ (aI σ 3 i = 2 → aI ρ 10 i = aI σ 10 i)) ∧ ∀ i, i < nT (gI σ 2) → ¬ aI σ 3 i = 0 → ¬ aI σ 3 i = 6 → i + 1 < nT (gI σ 2) ∨ 2500 ≤ i
theorem Rj.z {σ ρ : RS} (h : Tj σ ρ) : Rj 0 (zz σ) (zz ρ) := by sorry
def Pj_parse : JPr := fun A1 A2 σ ρ => match A1, A2 with
  | [], [] => Tj σ ρ
  | _, _ => False
def Qj_parse : JQr := fun A1 A2 σ ρ w τ w' τ' => match A1, A2 with
  | [], [] => ∃ b : Int32, w = some (.int b) ∧ w' = some (.int b)
  | _, _ => False
set_option maxRecDepth 100000 in
set_option maxHeartbeats 4000000 in
theorem j_parse : JMet 37 Pj_parse Qj_parse := by sorry
/-! two cuttings of one text -/
def Lq (c : Nat) (σ ρ : RS) : Prop := (gI ρ 12 = gI σ 12 ∧ gI ρ 13 = gI σ 13 ∧ gI ρ 2 = gI σ 2 ∧ LX σ) ∧ (∀ i, i < nT (gI σ 12) → aI ρ 0 i = aI σ 0 i) ∧ (∀ i, i < c → aI ρ 3 i = aI σ 3 i ∧ aI ρ 6 i = aI σ 6 i ∧ (aI σ 3 i = 2 → aI ρ 10 i = aI σ 10 i)) ∧ (∀ i, 0 ≤ aI σ 0 i ∧ aI σ 0 i < 256) ∧ ∀ i, 0 ≤ aI σ 6 i
def Lt0 (σ ρ : RS) : Prop := gI ρ 12 = gI σ 12 ∧ ∀ i, i < nT (gI σ 12) → aI ρ 0 i = aI σ 0 i
theorem Lt0.e12 {σ ρ : RS} (h : Lt0 σ ρ) : gI ρ 12 = gI σ 12 := h.1
theorem Lt0.a0 {σ ρ : RS} (h : Lt0 σ ρ) {x : Int32} (hx : x.toNatClampNeg < (gI σ 12).toNatClampNeg) : aI ρ 0 x.toNatClampNeg = aI σ 0 x.toNatClampNeg := h.2 _ hx
theorem Lq.e12 {c : Nat} {σ ρ : RS} (h : Lq c σ ρ) : gI ρ 12 = gI σ 12 := h.1.1
theorem Lq.e13 {c : Nat} {σ ρ : RS} (h : Lq c σ ρ) : gI ρ 13 = gI σ 13 := h.1.2.1
theorem Lq.e2 {c : Nat} {σ ρ : RS} (h : Lq c σ ρ) : gI ρ 2 = gI σ 2 := h.1.2.2.1
theorem Lq.lx {c : Nat} {σ ρ : RS} (h : Lq c σ ρ) : (0 ≤ gI σ 13 ∧ gI σ 13 ≤ gI σ 12) ∧ gI σ 12 ≤ 2500 := h.1.2.2.2
theorem Lq.a0 {c : Nat} {σ ρ : RS} (h : Lq c σ ρ) {x : Int32} (hx : x.toNatClampNeg < (gI σ 12).toNatClampNeg) : aI ρ 0 x.toNatClampNeg = aI σ 0 x.toNatClampNeg := h.2.1 _ hx
theorem Lq.t {c : Nat} {σ ρ : RS} (h : Lq c σ ρ) : Lt0 σ ρ := ⟨h.1.1, h.2.1⟩
theorem Lq.s {c : Nat} {σ ρ : RS} {v : Int32} (h : Lq c σ ρ) (h0 : 0 ≤ v ∧ v ≤ gI σ 12) : Lq c (sI σ 13 v) (sI ρ 13 v) := by sorry
theorem Lq.c {c : Nat} {σ ρ : RS} {v : Int32} (h : Lq c σ ρ) : Lq c (sI σ 2 v) (sI ρ 2 v) := by sorry
theorem Lq.m {c : Nat} {σ ρ : RS} {k : Nat} {f f' : Nat → Int64} (h : Lq c σ ρ) : Lq c (sM σ k f) (sM ρ k f') := h
def lqA (k : Nat) : Bool := k == 0 || k == 3 || k == 6 || k == 10
theorem Lq.a {c : Nat} {σ ρ : RS} {k : Nat} {f f' : Nat → Int32} (h : Lq c σ ρ) (hk : lqA k = false) : Lq c (sA σ k f) (sA ρ k f') := by sorry
theorem Lq.u3 {c i : Nat} {σ ρ : RS} {v v' : Int32} (h : Lq c σ ρ) (hi : c ≤ i) : Lq c (sA σ 3 (upd (aI σ 3) i v)) (sA ρ 3 (upd (aI ρ 3) i v')) := by sorry
theorem Lq.u10 {c i : Nat} {σ ρ : RS} {v v' : Int32} (h : Lq c σ ρ) (hi : c ≤ i) : Lq c (sA σ 10 (upd (aI σ 10) i v)) (sA ρ 10 (upd (aI ρ 10) i v')) := by sorry
theorem Lq.u6 {c i : Nat} {σ ρ : RS} {v v' : Int32} (h : Lq c σ ρ) (hi : c ≤ i) (h0 : 0 ≤ v) : Lq c (sA σ 6 (upd (aI σ 6) i v)) (sA ρ 6 (upd (aI ρ 6) i v')) := by sorry
theorem Lq.up {c : Nat} {σ ρ : RS} (h : Lq c σ ρ) (h3 : aI ρ 3 c = aI σ 3 c) (h6 : aI ρ 6 c = aI σ 6 c) (h10 : aI σ 3 c = 2 → aI ρ 10 c = aI σ 10 c) : Lq (c + 1) σ ρ := by sorry
def Pj_at : JPr := fun A1 A2 σ ρ => match A1, A2 with
  | [.int k], [.int k'] => Lt0 σ ρ ∧ k = k'
  | _, _ => False
def Qj_at : JQr := fun A1 A2 σ ρ w τ w' τ' => match A1, A2 with
  | [.int k], [.int k'] => ∃ r : Int32, w = some (.int r) ∧ w' = some (.int r) ∧ σ = τ ∧ ρ = τ' ∧ (¬ r = 0 → k < gI σ 12)
  | _, _ => False
set_option maxRecDepth 100000 in
set_option maxHeartbeats 4000000 in
theorem j_at : JMet 3 Pj_at Qj_at := by sorry
def Pj_isLetter : JPr := fun A1 A2 σ ρ => match A1, A2 with
  | [.int x], [.int x'] => x = x'
  | _, _ => False
def Qj_isLetter : JQr := fun A1 A2 σ ρ w τ w' τ' => match A1, A2 with
  | [.int x], [.int x'] => ∃ b : Int32, w = some (.int b) ∧ w' = some (.int b) ∧ σ = τ ∧ ρ = τ' ∧ (b = 0 ∨ (b = 1 ∧ 65 ≤ x))
  | _, _ => False
set_option maxRecDepth 100000 in
set_option maxHeartbeats 4000000 in
theorem j_isLetter : JMet 4 Pj_isLetter Qj_isLetter := by sorry
def Pj_isDigit : JPr := fun A1 A2 σ ρ => match A1, A2 with
  | [.int x], [.int x'] => x = x'
  | _, _ => False
def Qj_isDigit : JQr := fun A1 A2 σ ρ w τ w' τ' => match A1, A2 with
  | [.int x], [.int x'] => ∃ b : Int32, w = some (.int b) ∧ w' = some (.int b) ∧ σ = τ ∧ ρ = τ' ∧ (b = 0 ∨ (b = 1 ∧ 48 ≤ x))
  | _, _ => False
set_option maxRecDepth 100000 in
set_option maxHeartbeats 4000000 in
theorem j_isDigit : JMet 5 Pj_isDigit Qj_isDigit := by sorry
def Pj_wordOf : JPr := fun A1 A2 σ ρ => match A1, A2 with
  | [.long v], [.long v'] => v = v'
  | _, _ => False
def Qj_wordOf : JQr := fun A1 A2 σ ρ w τ w' τ' => match A1, A2 with
  | [.long v], [.long v'] => ∃ r : Int32, w = some (.int r) ∧ w' = some (.int r) ∧ σ = τ ∧ ρ = τ'
  | _, _ => False
set_option maxRecDepth 100000 in
set_option maxHeartbeats 4000000 in
theorem j_wordOf : JMet 8 Pj_wordOf Qj_wordOf := by sorry
def Pj_character : JPr := fun A1 A2 σ ρ => match A1, A2 with
  | [.int t], [.int t'] => Lq t.toNatClampNeg σ ρ ∧ t = t' ∧ aI ρ 6 t.toNatClampNeg = aI σ 6 t.toNatClampNeg ∧ gI σ 13 < gI σ 12
  | _, _ => False
def Qj_character : JQr := fun A1 A2 σ ρ w τ w' τ' => match A1, A2 with
  | [.int t], [.int t'] => w = none ∧ w' = none ∧ Lq (t.toNatClampNeg + 1) τ τ' ∧ gI τ 2 = gI σ 2
  | _, _ => False
set_option maxRecDepth 100000 in
set_option maxHeartbeats 4000000 in
theorem j_character : JMet 10 Pj_character Qj_character := by sorry
def Pj_word : JPr := fun A1 A2 σ ρ => match A1, A2 with
  | [.int t], [.int t'] => Lq t.toNatClampNeg σ ρ ∧ t = t' ∧ aI ρ 6 t.toNatClampNeg = aI σ 6 t.toNatClampNeg
  | _, _ => False
def Qj_word : JQr := fun A1 A2 σ ρ w τ w' τ' => match A1, A2 with
  | [.int t], [.int t'] => w = none ∧ w' = none ∧ Lq (t.toNatClampNeg + 1) τ τ' ∧ gI τ 2 = gI σ 2
  | _, _ => False
set_option maxRecDepth 100000 in
set_option maxHeartbeats 4000000 in
theorem j_word : JMet 7 Pj_word Qj_word := by sorry
def Pj_number : JPr := fun A1 A2 σ ρ => match A1, A2 with
  | [.int t], [.int t'] => Lq t.toNatClampNeg σ ρ ∧ t = t' ∧ aI ρ 6 t.toNatClampNeg = aI σ 6 t.toNatClampNeg
  | _, _ => False
def Qj_number : JQr := fun A1 A2 σ ρ w τ w' τ' => match A1, A2 with
  | [.int t], [.int t'] => w = none ∧ w' = none ∧ Lq (t.toNatClampNeg + 1) τ τ' ∧ gI τ 2 = gI σ 2
  | _, _ => False
set_option maxRecDepth 100000 in
set_option maxHeartbeats 4000000 in
theorem j_number : JMet 9 Pj_number Qj_number := by sorry
def Pj_sign : JPr := fun A1 A2 σ ρ => match A1, A2 with
  | [.int t], [.int t'] => Lq t.toNatClampNeg σ ρ ∧ t = t' ∧ aI ρ 6 t.toNatClampNeg = aI σ 6 t.toNatClampNeg ∧ gI σ 13 < gI σ 12
  | _, _ => False
def Qj_sign : JQr := fun A1 A2 σ ρ w τ w' τ' => match A1, A2 with
  | [.int t], [.int t'] => w = none ∧ w' = none ∧ Lq (t.toNatClampNeg + 1) τ τ' ∧ gI τ 2 = gI σ 2
  | _, _ => False
set_option maxRecDepth 100000 in
set_option maxHeartbeats 4000000 in
theorem j_sign : JMet 11 Pj_sign Qj_sign := by sorry
theorem Lq.cc {c d : Nat} {X Y : RS} (h : Lq c X Y) (e : c = d) : Lq d X Y := by sorry
def LeJ (X : RS) : Prop := 0 < gI X 2 ∧ (aI X 3 (gI X 2 - 1).toNatClampNeg = 0 ∨ aI X 3 (gI X 2 - 1).toNatClampNeg = 6 ∨ 2590 ≤ gI X 2)
theorem LeJ.tj {X Y : RS} (h : LeJ X) (hR : Lq (gI X 2).toNatClampNeg X Y) : Tj X Y ∧ ∀ i, 0 ≤ aI X 6 i := by sorry
def Pj_lexer : JPr := fun A1 A2 σ ρ => match A1, A2 with
  | [], [] => gI ρ 1 = gI σ 1 ∧ (∀ i, i < nT (gI σ 1) → aI ρ 0 i = aI σ 0 i) ∧ (0 ≤ gI σ 1 ∧ gI σ 1 ≤ 2500) ∧ (∀ i, 0 ≤ aI σ 0 i ∧ aI σ 0 i < 256) ∧ ∀ i, 0 ≤ aI σ 6 i
  | _, _ => False
def Qj_lexer : JQr := fun A1 A2 σ ρ w τ w' τ' => match A1, A2 with
  | [], [] => w = none ∧ w' = none ∧ Tj τ τ' ∧ ∀ i, 0 ≤ aI τ 6 i
  | _, _ => False
set_option maxRecDepth 100000 in
set_option maxHeartbeats 4000000 in
theorem j_lexer : JMet 6 Pj_lexer Qj_lexer := by sorry
/-! the reference shows what is read -/
def sgT : List (Int × Int) := [(40, 0), (41, 1), (123, 2), (125, 3), (59, 4), (44, 5), (58, 6), (63, 7), (61, 8), (443, 9), (445, 10), (442, 11), (447, 12), (437, 13), (438, 14), (524, 15), (494, 16), (704, 17), (705, 18), (706, 19), (308, 20), (307, 21), (124, 22), (94, 23), (38, 24), (300, 25), (301, 26), (60, 27), (302, 28), (62, 29), (303, 30), (304, 31), (305, 32), (306, 33), (43, 34), (45, 35), (42, 36), (47, 37), (37, 38), (33, 39), (126, 40), (309, 41), (310, 42)]
def wdR (w : Int) : Int := if w = 9 then 10 else if w = 10 then 9 else w
/-- kind and what of a token, its code -/
def tkR (k w c : Int) : Prop := (k = 0 ∧ c = 84) ∨ (k = 6 ∧ c = 85) ∨ (k = 1 ∧ c = 80) ∨ (k = 2 ∧ (c = 81 ∨ c = 82)) ∨ (k = 3 ∧ c = 83) ∨ (k = 4 ∧ 0 ≤ w ∧ w ≤ 23 ∧ c = 50 + wdR w) ∨ (k = 5 ∧ (w, c) ∈ sgT)
theorem sgT_in : ∀ p ∈ sgT, ∀ q ∈ sgT, (p.1 = q.1 ↔ p.2 = q.2) := by sorry
theorem sgT_rg : ∀ p ∈ sgT, 0 ≤ p.2 ∧ p.2 ≤ 42 := by sorry
theorem sgT_set : ∀ p ∈ sgT, ((p.1 = 61 ∨ 400 < p.1) ↔ (8 ≤ p.2 ∧ p.2 ≤ 19)) := by sorry
theorem wdR_b {w : Int} : (0 ≤ w ∧ w ≤ 23) ↔ (0 ≤ wdR w ∧ wdR w ≤ 23) := by sorry
theorem wdR_i {w v : Int} : wdR w = wdR v ↔ w = v := by sorry
theorem tk_sg {k w c a d : Int} (h : tkR k w c) (m : (a, d) ∈ sgT) : (k = 5 ∧ w = a) ↔ c = d := by sorry
theorem tk_wd {k w c a : Int} (h : tkR k w c) (h0 : 0 ≤ a ∧ a ≤ 23) : (k = 4 ∧ w = a) ↔ c = 50 + wdR a := by sorry
theorem tk_ty {k w c : Int} (h : tkR k w c) : (k = 4 ∧ w ≤ 4) ↔ (50 ≤ c ∧ c ≤ 54) := by sorry
theorem tk_set {k w c : Int} (h : tkR k w c) : (k = 5 ∧ (w = 61 ∨ 400 < w)) ↔ (8 ≤ c ∧ c ≤ 19) := by sorry
theorem tk_k {k w c : Int} (h : tkR k w c) : (k = 0 ↔ c = 84) ∧ (k = 6 ↔ c = 85) ∧ (k = 1 ↔ c = 80) ∧ (k = 2 ↔ (c = 81 ∨ c = 82)) ∧ (k = 3 ↔ c = 83) ∧ (k = 4 ↔ (50 ≤ c ∧ c ≤ 73)) ∧ (k = 5 ↔ (0 ≤ c ∧ c ≤ 42)) ∧ (0 ≤ c ∧ c ≤ 85) := by sorry
/-- an operator's strength -/
def stR (s : Int32) : Int32 := if s.toInt = 308 then 1 else if s.toInt = 307 then 2 else if s.toInt = 124 then 3 else if s.toInt = 94 then 4 else if s.toInt = 38 then 5 else if s.toInt = 300 ∨ s.toInt = 301 then 6 else if s.toInt = 60 ∨ s.toInt = 302 ∨ s.toInt = 62 ∨ s.toInt = 303 then 7 else if s.toInt = 304 ∨ s.toInt = 305 ∨ s.toInt = 306 then 8 else if s.toInt = 43 ∨ s.toInt = 45 then 9 else if s.toInt = 42 ∨ s.toInt = 47 ∨ s.toInt = 37 then 10 else 0
theorem sgT_str : ∀ p ∈ sgT, (0 < stR (Int32.ofInt p.1) ↔ (20 ≤ p.2 ∧ p.2 ≤ 38)) := by sorry
def ShR (σ : RS) (s : SpC) : Prop := (zFt s = 0 ∧ gI σ 15 = 0) ∧ (zAt s = (gI σ 14).toInt ∧ 0 ≤ gI σ 14 ∧ gI σ 14 < gI σ 2 ∧ gI σ 14 ≤ 500) ∧
  (∀ i, i < nT (gI σ 2) → i ≤ 500 → tkR (aI σ 3 i).toInt (aI σ 6 i).toInt (zK s i) ∧ (aI σ 4 i).toInt = zL s i) ∧
  (∀ i, i < nT (gI σ 2) → ¬ aI σ 3 i = 0 → ¬ aI σ 3 i = 6 → i + 1 < nT (gI σ 2) ∨ 2500 ≤ i)
/-- a fault -/
def FlR (τ : RS) (S : SpC) : Prop := ¬ zFt S = 0 ∧ (gI τ 15).toInt = zFt S ∧ (gI τ 16).toInt = zPl S
theorem FlR.g {τ : RS} {S T : SpC} (h : FlR τ S) (g : GpY S T) : FlR τ T := by sorry
theorem FlR.q {τ : RS} {S T : SpC} (h : FlR τ S) (g : zFt T = zFt S ∧ zPl T = zPl S) : FlR τ T := by sorry
theorem ShR.n5 {σ : RS} {s : SpC} (h : ShR σ s) : (gI σ 14).toNatClampNeg ≤ 500 ∧ (gI σ 14).toNatClampNeg < (gI σ 2).toNatClampNeg := by sorry
theorem ShR.a5 {σ : RS} {s : SpC} (h : ShR σ s) : 0 ≤ zAt s ∧ zAt s ≤ 500 := by sorry
theorem ShR.cod {σ : RS} {s : SpC} (h : ShR σ s) : codY s = zK s (gI σ 14).toNatClampNeg := by sorry
theorem ShR.tk {σ : RS} {s : SpC} (h : ShR σ s) : tkR (aI σ 3 (gI σ 14).toNatClampNeg).toInt (aI σ 6 (gI σ 14).toNatClampNeg).toInt (codY s) := by sorry
theorem ShR.pl {σ : RS} {s : SpC} (h : ShR σ s) : (aI σ 4 (gI σ 14).toNatClampNeg).toInt = zL s (zAt s).toNat := by sorry
theorem i32_eq {x : Int32} {n : Int} (h : (Int32.ofInt n).toInt = n) : x = Int32.ofInt n ↔ x.toInt = n := by sorry
theorem ShR.sg {σ : RS} {s : SpC} (h : ShR σ s) {x : Int32} {d : Int} (m : (x.toInt, d) ∈ sgT) : (aI σ 3 (gI σ 14).toNatClampNeg = 5 ∧ aI σ 6 (gI σ 14).toNatClampNeg = x) ↔ codY s = d := by sorry
theorem ShR.wd {σ : RS} {s : SpC} (h : ShR σ s) {x : Int32} (m : 0 ≤ x.toInt ∧ x.toInt ≤ 23) : (aI σ 3 (gI σ 14).toNatClampNeg = 4 ∧ aI σ 6 (gI σ 14).toNatClampNeg = x) ↔ codY s = 50 + wdR x.toInt := by sorry
theorem ShR.ki {σ : RS} {s : SpC} (h : ShR σ s) : (aI σ 3 (gI σ 14).toNatClampNeg = 0 ↔ codY s = 84) ∧ (aI σ 3 (gI σ 14).toNatClampNeg = 6 ↔ codY s = 85) ∧ (aI σ 3 (gI σ 14).toNatClampNeg = 1 ↔ codY s = 80) ∧ (aI σ 3 (gI σ 14).toNatClampNeg = 2 ↔ (codY s = 81 ∨ codY s = 82)) ∧ (aI σ 3 (gI σ 14).toNatClampNeg = 3 ↔ codY s = 83) ∧ (aI σ 3 (gI σ 14).toNatClampNeg = 4 ↔ (50 ≤ codY s ∧ codY s ≤ 73)) ∧ (aI σ 3 (gI σ 14).toNatClampNeg = 5 ↔ (0 ≤ codY s ∧ codY s ≤ 42)) ∧ (0 ≤ codY s ∧ codY s ≤ 85) := by sorry
theorem ShR.ty {σ : RS} {s : SpC} (h : ShR σ s) : (aI σ 3 (gI σ 14).toNatClampNeg = 4 ∧ aI σ 6 (gI σ 14).toNatClampNeg ≤ 4) ↔ (50 ≤ codY s ∧ codY s ≤ 54) := by sorry
theorem ShR.set {σ : RS} {s : SpC} (h : ShR σ s) : (aI σ 3 (gI σ 14).toNatClampNeg = 5 ∧ (aI σ 6 (gI σ 14).toNatClampNeg = 61 ∨ 400 < aI σ 6 (gI σ 14).toNatClampNeg)) ↔ (8 ≤ codY s ∧ codY s ≤ 19) := by sorry
theorem ShR.str {σ : RS} {s : SpC} (h : ShR σ s) (h5 : aI σ 3 (gI σ 14).toNatClampNeg = 5) : 0 < stR (aI σ 6 (gI σ 14).toNatClampNeg) ↔ (20 ≤ codY s ∧ codY s ≤ 38) := by sorry
/-- a word's TYPE -/
theorem ShR.ty2 {σ : RS} {s : SpC} (h : ShR σ s) (hc : 50 ≤ codY s ∧ codY s ≤ 55) : (aI σ 6 (gI σ 14).toNatClampNeg).toInt = codY s - 50 := by sorry
theorem ShR.kp {σ τ : RS} {s : SpC} (h : ShR σ s) (e2 : gI τ 2 = gI σ 2) (e14 : gI τ 14 = gI σ 14) (e15 : gI τ 15 = gI σ 15) (a3 : aI τ 3 = aI σ 3) (a4 : aI τ 4 = aI σ 4) (a6 : aI τ 6 = aI σ 6) : ShR τ s := by sorry
/-- only what is shown counts -/
theorem ShR.s2 {σ : RS} {s t : SpC} (h : ShR σ s) (e1 : t.1 = s.1) (e2 : t.2.2 = s.2.2) : ShR σ t := by sorry
/-- a token is taken -/
theorem ShR.p {σ τ : RS} {s : SpC} (h : ShR σ s) (e2 : gI τ 2 = gI σ 2) (e14 : gI τ 14 = gI σ 14 + 1) (e15 : gI τ 15 = gI σ 15) (a3 : aI τ 3 = aI σ 3) (a4 : aI τ 4 = aI σ 4) (a6 : aI τ 6 = aI σ 6) (hl : gI σ 14 < 500) (ht : ¬ codY s = 84 ∧ ¬ codY s = 85) : ShR τ (accY s) ∧ zAt s < 500 := by sorry
theorem FlR.rai {σ τ : RS} {s : SpC} {n : Int} (h : ShR σ s) (hn : ¬ n = 0) (e15 : (gI τ 15).toInt = if codY s = 85 then 1 else n) (e16 : gI τ 16 = aI σ 4 (gI σ 14).toNatClampNeg) : FlR τ (raiY n s) := by sorry
/-- lists by rows -/
def olY (f : Nat → Int32) : Nat → List Int
  | 0 => []
  | n + 1 => (f n).toInt :: olY f n
theorem olY_upd {f : Nat → Int32} {i : Nat} {v : Int32} : ∀ n, n ≤ i → olY (upd f i v) n = olY f n := by sorry
def oR (σ : RS) : List Int := olY (aI σ 25) (nT (gI σ 29))
def wO (σ : RS) : Prop := wfY (oR σ) ∧ (∀ i, i < nT (gI σ 29) → aI σ 25 i = 2 → 0 < stR (aI σ 26 i)) ∧ 0 ≤ gI σ 29
theorem oR_pop {σ : RS} (h : 0 < gI σ 29) : oR σ = (aI σ 25 (gI σ 29 - 1).toNatClampNeg).toInt :: oR (sI σ 29 (gI σ 29 - 1)) := by sorry
theorem oR_nil {σ : RS} (h : gI σ 29 ≤ 0) : oR σ = [] := by sorry
theorem oR_i {σ : RS} {k : Nat} {v : Int32} (h : k ≠ 29) : oR (sI σ k v) = oR σ := by sorry
theorem oR_a {σ : RS} {k : Nat} {f : Nat → Int32} (h : k ≠ 25) : oR (sA σ k f) = oR σ := by sorry
theorem oR_em {σ τ : RS} {op a : Int32} (h : Em σ op a τ) : oR τ = oR σ := by sorry
theorem oR_pu {σ τ : RS} {s g t : Int32} (h : Pu σ s g t τ) : oR τ = s.toInt :: oR σ := by sorry
theorem wO.pop {σ : RS} (h : wO σ) (h0 : 0 < gI σ 29) : wO (sI σ 29 (gI σ 29 - 1)) := by sorry
theorem wO.i {σ : RS} {k : Nat} {v : Int32} (h : wO σ) (hk : k ≠ 29) : wO (sI σ k v) := by sorry
theorem wO.a {σ : RS} {k : Nat} {f : Nat → Int32} (h : wO σ) (h5 : k ≠ 25) (h6 : k ≠ 26) : wO (sA σ k f) := by sorry
theorem wO.em {σ τ : RS} {op a : Int32} (h : wO σ) (e : Em σ op a τ) : wO τ := by sorry
theorem wO.pu {σ τ : RS} {s g t : Int32} (h : wO σ) (e : Pu σ s g t τ) (hw : wfY (s.toInt :: oR σ)) (hs : s = 2 → 0 < stR g) : wO τ := by sorry
/-- levels that stand open -/
def nbY : List Int → Nat
  | [] => 0
  | k :: O => (if k = 2 then 0 else 1) + nbY O
/-- what an exp's reading keeps -/
def xiR (k : Nat) : Bool := (Nat.ble 14 k && Nat.ble k 18) || k == 29 || (Nat.ble 31 k && Nat.ble k 35)
def xaR (k : Nat) : Bool := (Nat.ble 19 k && Nat.ble k 28) || k == 30
def KR (σ τ : RS) : Prop := ((∀ k, xiR k = false → gI τ k = gI σ k) ∧ ∀ k, xaR k = false → aI τ k = aI σ k) ∧
  nT (gI σ 18) ≤ nT (gI τ 18) ∧ (∀ c, c < nT (gI σ 18) → aI τ 19 c = aI σ 19 c ∧ aI τ 20 c = aI σ 20 c) ∧ (∀ c, nT (gI σ 18) ≤ c → c < nT (gI τ 18) → aI τ 19 c ≤ 18)
theorem KR.rf {σ : RS} : KR σ σ := by sorry
theorem KR.tr {σ τ υ : RS} (h : KR σ τ) (g : KR τ υ) : KR σ υ := by sorry
theorem KR.i {σ τ : RS} (h : KR σ τ) {k : Nat} {v : Int32} (hk : xiR k = true) (h8 : k ≠ 18) : KR σ (sI τ k v) := by sorry
theorem KR.a {σ τ : RS} (h : KR σ τ) {k : Nat} {f : Nat → Int32} (hk : xaR k = true) (h9 : k ≠ 19) (h0 : k ≠ 20) : KR σ (sA τ k f) := by sorry
theorem KR.ca {σ τ : RS} (h : KR σ τ) {i : Nat} {v : Int32} (hi : nT (gI σ 18) ≤ i) : KR σ (sA τ 20 (upd (aI τ 20) i v)) := by sorry
theorem KR.em {σ τ υ : RS} {op a : Int32} (h : KR σ τ) (e : Em τ op a υ) (ho : op ≤ 18) : KR σ υ := by sorry
theorem KR.pu {σ τ υ : RS} {s g t : Int32} (h : KR σ τ) (e : Pu τ s g t υ) : KR σ υ := by sorry
/-- an exp is read: the tokens, the depth, what stays -/
def XrR (σ0 τ : RS) (s : SpC) (n : Nat) : Prop := ShR τ s ∧ ((gI τ 17).toInt + n = 21 ∧ 1 ≤ n) ∧ KR σ0 τ
theorem XrR.i {σ0 τ : RS} {s : SpC} {n : Nat} (h : XrR σ0 τ s n) {k : Nat} {v : Int32} (hk : k = 29 ∨ k = 31 ∨ k = 32 ∨ k = 33 ∨ k = 34 ∨ k = 35) : XrR σ0 (sI τ k v) s n := by sorry
theorem XrR.a {σ0 τ : RS} {s : SpC} {n : Nat} (h : XrR σ0 τ s n) {k : Nat} {f : Nat → Int32} (hk : k = 21 ∨ k = 28 ∨ k = 30) : XrR σ0 (sA τ k f) s n := by sorry
theorem XrR.ca {σ0 τ : RS} {s : SpC} {n : Nat} (h : XrR σ0 τ s n) {i : Nat} {v : Int32} (hi : nT (gI σ0 18) ≤ i) : XrR σ0 (sA τ 20 (upd (aI τ 20) i v)) s n := by sorry
theorem XrR.em {σ0 τ υ : RS} {s : SpC} {n : Nat} {op a : Int32} (h : XrR σ0 τ s n) (e : Em τ op a υ) (ho : op ≤ 18) : XrR σ0 υ s n := by sorry
theorem XrR.pu {σ0 τ υ : RS} {s : SpC} {n : Nat} {q g t : Int32} (h : XrR σ0 τ s n) (e : Pu τ q g t υ) : XrR σ0 υ s n := by sorry
theorem i32_sub {x : Int32} (h0 : -1 ≤ x.toInt) (h1 : x.toInt ≤ 100) : (x - 1).toInt = x.toInt - 1 := by sorry
theorem i32_add {x : Int32} (h0 : -1 ≤ x.toInt) (h1 : x.toInt ≤ 10000) : (x + 1).toInt = x.toInt + 1 := by sorry
/-- one level up -/
theorem XrR.up {σ0 τ : RS} {s : SpC} {n : Nat} (h : XrR σ0 τ s n) (hn : n ≤ 21) : XrR σ0 (sI τ 17 (gI τ 17 - 1)) s (n + 1) := by sorry
theorem XrR.s {σ0 τ : RS} {s : SpC} {n : Nat} (h : XrR σ0 τ s n) : ShR τ s := h.1
theorem S1.o {k : Nat} {σ τ : RS} (h : S1 k σ τ) (hk : k ≠ 29) : oR τ = oR σ := by sorry
theorem S1.w {k : Nat} {σ τ : RS} (h : S1 k σ τ) (hk : k ≠ 29) (hw : wO σ) : wO τ := by sorry
def Pv_wrong : UP1 := fun A1 σ => match A1 with
  | [.int what, .int token] => True
  | _ => False
def Qv_wrong : UQ1 := fun A1 σ w τ => match A1 with
  | [.int what, .int token] => w = some (.int 0) ∧ (gI σ 15 = 0 → τ = sI (sI σ 15 what) 16 (aI σ 4 token.toNatClampNeg))
  | _ => False
def Qw_wrong : UQ1 := fun A1 σ w τ => Pv_wrong A1 σ → Qv_wrong A1 σ w τ
set_option maxRecDepth 100000 in
set_option maxHeartbeats 4000000 in
theorem v_wrong : UMet 12 (Pv_wrong) (Qv_wrong) := by sorry
theorem w_wrong : UMet 12 (fun _ _ => True) Qw_wrong := fun A1 σ _ w τ h hP => v_wrong A1 σ hP w τ h
def Pv_cant (s : SpC) : UP1 := fun A1 σ => match A1 with
  | [] => ShR σ s
  | _ => False
def Qv_cant (s : SpC) : UQ1 := fun A1 σ w τ => match A1 with
  | [] => w = some (.int 0) ∧ FlR τ (raiY 2 s)
  | _ => False
def Qw_cant : UQ1 := fun A1 σ w τ => ∀ (s : SpC), Pv_cant s A1 σ → Qv_cant s A1 σ w τ
set_option maxRecDepth 100000 in
set_option maxHeartbeats 4000000 in
theorem v_cant (s : SpC) : UMet 13 (Pv_cant s) (Qv_cant s) := by sorry
theorem w_cant : UMet 13 (fun _ _ => True) Qw_cant := fun A1 σ _ w τ h s hP => v_cant s A1 σ hP w τ h
def Pv_isSign : UP1 := fun A1 σ => match A1 with
  | [.int x] => True
  | _ => False
def Qv_isSign : UQ1 := fun A1 σ w τ => match A1 with
  | [.int x] => σ = τ ∧ ∃ b : Int32, w = some (.int b) ∧ ((b = 1 ∧ aI σ 3 (gI σ 14).toNatClampNeg = 5 ∧ aI σ 6 (gI σ 14).toNatClampNeg = x) ∨ (b = 0 ∧ ¬ (aI σ 3 (gI σ 14).toNatClampNeg = 5 ∧ aI σ 6 (gI σ 14).toNatClampNeg = x)))
  | _ => False
def Qw_isSign : UQ1 := fun A1 σ w τ => Pv_isSign A1 σ → Qv_isSign A1 σ w τ
set_option maxRecDepth 100000 in
set_option maxHeartbeats 4000000 in
theorem v_isSign : UMet 14 (Pv_isSign) (Qv_isSign) := by sorry
theorem w_isSign : UMet 14 (fun _ _ => True) Qw_isSign := fun A1 σ _ w τ h hP => v_isSign A1 σ hP w τ h
def Pv_isWord : UP1 := fun A1 σ => match A1 with
  | [.int x] => True
  | _ => False
def Qv_isWord : UQ1 := fun A1 σ w τ => match A1 with
  | [.int x] => σ = τ ∧ ∃ b : Int32, w = some (.int b) ∧ ((b = 1 ∧ aI σ 3 (gI σ 14).toNatClampNeg = 4 ∧ aI σ 6 (gI σ 14).toNatClampNeg = x) ∨ (b = 0 ∧ ¬ (aI σ 3 (gI σ 14).toNatClampNeg = 4 ∧ aI σ 6 (gI σ 14).toNatClampNeg = x)))
  | _ => False
def Qw_isWord : UQ1 := fun A1 σ w τ => Pv_isWord A1 σ → Qv_isWord A1 σ w τ
set_option maxRecDepth 100000 in
set_option maxHeartbeats 4000000 in
theorem v_isWord : UMet 15 (Pv_isWord) (Qv_isWord) := by sorry
theorem w_isWord : UMet 15 (fun _ _ => True) Qw_isWord := fun A1 σ _ w τ h hP => v_isWord A1 σ hP w τ h
def Pv_take (σ0 : RS) (s : SpC) (n : Nat) : UP1 := fun A1 σ => match A1 with
  | [] => XrR σ0 σ s n ∧ ¬ codY s = 84 ∧ ¬ codY s = 85
  | _ => False
def Qv_take (σ0 : RS) (s : SpC) (n : Nat) : UQ1 := fun A1 σ w τ => match A1 with
  | [] => (w = some (.int 0) ∧ FlR τ (accY s)) ∨ (w = some (.int 1) ∧ XrR σ0 τ (accY s) n ∧ zAt s < 500 ∧ S1 14 σ τ)
  | _ => False
def Qw_take : UQ1 := fun A1 σ w τ => ∀ (σ0 : RS) (s : SpC) (n : Nat), Pv_take σ0 s n A1 σ → Qv_take σ0 s n A1 σ w τ
set_option maxRecDepth 100000 in
set_option maxHeartbeats 4000000 in
theorem v_take (σ0 : RS) (s : SpC) (n : Nat) : UMet 17 (Pv_take σ0 s n) (Qv_take σ0 s n) := by sorry
theorem w_take : UMet 17 (fun _ _ => True) Qw_take := fun A1 σ _ w τ h σ0 s n hP => v_take σ0 s n A1 σ hP w τ h
def Pv_want (σ0 : RS) (s : SpC) (n : Nat) (d : Int) : UP1 := fun A1 σ => match A1 with
  | [.int x] => XrR σ0 σ s n ∧ (x.toInt, d) ∈ sgT
  | _ => False
def Qv_want (σ0 : RS) (s : SpC) (n : Nat) (d : Int) : UQ1 := fun A1 σ w τ => match A1 with
  | [.int x] => (w = some (.int 0) ∧ FlR τ (xpY d s)) ∨ (w = some (.int 1) ∧ codY s = d ∧ XrR σ0 τ (accY s) n ∧ zAt s < 500 ∧ S1 14 σ τ)
  | _ => False
def Qw_want : UQ1 := fun A1 σ w τ => ∀ (σ0 : RS) (s : SpC) (n : Nat) (d : Int), Pv_want σ0 s n d A1 σ → Qv_want σ0 s n d A1 σ w τ
set_option maxRecDepth 100000 in
set_option maxHeartbeats 4000000 in
theorem v_want (σ0 : RS) (s : SpC) (n : Nat) (d : Int) : UMet 18 (Pv_want σ0 s n d) (Qv_want σ0 s n d) := by sorry
theorem w_want : UMet 18 (fun _ _ => True) Qw_want := by sorry
def Pv_enter (σ0 : RS) (s : SpC) (n : Nat) : UP1 := fun A1 σ => match A1 with
  | [] => XrR σ0 σ s n ∧ n ≤ 22
  | _ => False
def Qv_enter (σ0 : RS) (s : SpC) (n : Nat) : UQ1 := fun A1 σ w τ => match A1 with
  | [] => (w = some (.int 0) ∧ n = 1 ∧ FlR τ (raiY 3 s)) ∨ (w = some (.int 1) ∧ 2 ≤ n ∧ XrR σ0 τ s (n - 1) ∧ S1 17 σ τ)
  | _ => False
def Qw_enter : UQ1 := fun A1 σ w τ => ∀ (σ0 : RS) (s : SpC) (n : Nat), Pv_enter σ0 s n A1 σ → Qv_enter σ0 s n A1 σ w τ
set_option maxRecDepth 100000 in
set_option maxHeartbeats 4000000 in
theorem v_enter (σ0 : RS) (s : SpC) (n : Nat) : UMet 19 (Pv_enter σ0 s n) (Qv_enter σ0 s n) := by sorry
theorem w_enter : UMet 19 (fun _ _ => True) Qw_enter := fun A1 σ _ w τ h σ0 s n hP => v_enter σ0 s n A1 σ hP w τ h
def Pv_strength : UP1 := fun A1 σ => match A1 with
  | [.int x] => True
  | _ => False
def Qv_strength : UQ1 := fun A1 σ w τ => match A1 with
  | [.int x] => w = some (.int (stR x)) ∧ σ = τ
  | _ => False
def Qw_strength : UQ1 := fun A1 σ w τ => Pv_strength A1 σ → Qv_strength A1 σ w τ
set_option maxRecDepth 100000 in
set_option maxHeartbeats 4000000 in
theorem v_strength : UMet 22 (Pv_strength) (Qv_strength) := by sorry
theorem w_strength : UMet 22 (fun _ _ => True) Qw_strength := fun A1 σ _ w τ h hP => v_strength A1 σ hP w τ h
def Pv_isType : UP1 := fun A1 σ => match A1 with
  | [.int t] => True
  | _ => False
def Qv_isType : UQ1 := fun A1 σ w τ => match A1 with
  | [.int t] => σ = τ ∧ ∃ b : Int32, w = some (.int b) ∧ ((b = 1 ∧ aI σ 3 t.toNatClampNeg = 4 ∧ aI σ 6 t.toNatClampNeg ≤ 4) ∨ (b = 0 ∧ ¬ (aI σ 3 t.toNatClampNeg = 4 ∧ aI σ 6 t.toNatClampNeg ≤ 4)))
  | _ => False
def Qw_isType : UQ1 := fun A1 σ w τ => Pv_isType A1 σ → Qv_isType A1 σ w τ
set_option maxRecDepth 100000 in
set_option maxHeartbeats 4000000 in
theorem v_isType : UMet 23 (Pv_isType) (Qv_isType) := by sorry
theorem w_isType : UMet 23 (fun _ _ => True) Qw_isType := fun A1 σ _ w τ h hP => v_isType A1 σ hP w τ h
def Pv_isSetAt : UP1 := fun A1 σ => match A1 with
  | [.int t] => True
  | _ => False
def Qv_isSetAt : UQ1 := fun A1 σ w τ => match A1 with
  | [.int t] => σ = τ ∧ ∃ b : Int32, w = some (.int b) ∧ ((b = 1 ∧ aI σ 3 t.toNatClampNeg = 5 ∧ (aI σ 6 t.toNatClampNeg = 61 ∨ 400 < aI σ 6 t.toNatClampNeg)) ∨ (b = 0 ∧ ¬ (aI σ 3 t.toNatClampNeg = 5 ∧ (aI σ 6 t.toNatClampNeg = 61 ∨ 400 < aI σ 6 t.toNatClampNeg))))
  | _ => False
def Qw_isSetAt : UQ1 := fun A1 σ w τ => Pv_isSetAt A1 σ → Qv_isSetAt A1 σ w τ
set_option maxRecDepth 100000 in
set_option maxHeartbeats 4000000 in
theorem v_isSetAt : UMet 24 (Pv_isSetAt) (Qv_isSetAt) := by sorry
theorem w_isSetAt : UMet 24 (fun _ _ => True) Qw_isSetAt := fun A1 σ _ w τ h hP => v_isSetAt A1 σ hP w τ h
theorem cob_acc {s : SpC} (z : zFt s = 0) (h : zAt s < 500) : cobY s = codY (accY s) := by sorry
theorem cob_l {s : SpC} (h : ¬ zAt s < 500) : cobY s = -1 := by sorry
/-- an exp may begin -/
def bgT (O : List Int) : Prop := ¬ tpY O = 0 ∧ ¬ tpY O = 1 ∧ ¬ tpY O = 2 ∧ ¬ tpY O = 7
abbrev bgR (b : Int32) (O : List Int) : Prop := b = 0 ∨ (b = 1 ∧ bgT O)
theorem wt_fo {b : Int32} {O : List Int} {n : Nat} {s : SpC} (hb : bgR b O) (hn : 1 ≤ n) (h : b = 0 ∨ nasY s) : wtY b.toInt O n s = foY O n (opY n s) := by sorry
theorem wt_nam {b : Int32} {O : List Int} {n : Nat} {s : SpC} (hb : bgR b O) (hn : 1 ≤ n) (hc : codY s = 80) (h : b = 0 ∨ ¬ (8 ≤ cobY s ∧ cobY s ≤ 19)) : wtY b.toInt O n s = foY O n (nmeY (n - 1) (eY (n - 1)) s) := by sorry
theorem wt_nf {b : Int32} {O : List Int} {n : Nat} {s : SpC} (hb : bgR b O) (hn : 1 ≤ n) (hc : codY s = 80) (z : zFt s = 0) (hf : ¬ zFt (accY s) = 0) : wtY b.toInt O n s = foY O n (accY s) := by sorry
theorem wt_as {b : Int32} {O : List Int} {n : Nat} {s : SpC} (hb : bgR b O) (h0 : ¬ b = 0) (hn : 1 ≤ n) (hc : codY s = 80) (h : 8 ≤ cobY s ∧ cobY s ≤ 19) : wtY b.toInt O n s = wtY 1 (5 :: O) (n - 1) (accY (accY s)) ∧ bgT O := by sorry
theorem op_pre' {O : List Int} {n : Nat} {s : SpC} (hn : 1 ≤ n) (h : codY s = 34 ∨ codY s = 35 ∨ codY s = 39 ∨ codY s = 40) : foY O n (opY n s) = foY (0 :: O) (n - 1) (oY (n - 1) (accY s)) := by sorry
theorem op_cast' {O : List Int} {n : Nat} {s : SpC} (hn : 1 ≤ n) (h : codY s = 0) (ht : 50 ≤ codY (accY s) ∧ codY (accY s) ≤ 54) : foY O n (opY n s) = foY (1 :: O) (n - 1) (oY (n - 1) (xpY 1 (accY (accY s)))) := by sorry
theorem op_grp' {O : List Int} {n : Nat} {s : SpC} (hn : 1 ≤ n) (h : codY s = 0) (ht : ¬ (50 ≤ codY (accY s) ∧ codY (accY s) ≤ 54)) : foY O n (opY n s) = wtY 1 (3 :: O) (n - 1) (accY s) := by sorry
theorem op_grf {O : List Int} {n : Nat} {s : SpC} (hn : 1 ≤ n) (h : codY s = 0) (hf : ¬ zFt (accY s) = 0) : foY O n (opY n s) = wtY 1 (3 :: O) (n - 1) (accY s) := op_grp' hn h (by rw [codY_f hf]; omega)
theorem nm_cal' {O : List Int} {n : Nat} {s : SpC} (h : cobY s = 0) (hn : 2 ≤ n) (hc : ¬ codY (accY (accY s)) = 1) : foY O n (nmeY (n - 1) (eY (n - 1)) s) = wtY 1 (4 :: O) (n - 1) (accY (accY s)) := by sorry
theorem nm_gd {n : Nat} {s : SpC} (h : cobY s = 0) : GpY (accY (accY s)) (nmeY n (eY n) s) := by sorry
theorem rd_bin {O O' : List Int} {T : Int32} (h : O = T.toInt :: O') (hT : T = 2) : nbY O = nbY O' ∧ ∀ n t, foY O n t = foY O' n t := by sorry
theorem rd_pre {O O' : List Int} {T : Int32} (h : O = T.toInt :: O') (hT : T = 0 ∨ T = 1) : nbY O = nbY O' + 1 ∧ ∀ n t, foY O n t = foY O' (n + 1) t := by sorry
theorem tp_eq {O O' : List Int} {T : Int32} (h : O = T.toInt :: O') : tpY O = T.toInt := by sorry
theorem i32_ne {x y : Int32} (h : ¬ x = y) : ¬ x.toInt = y.toInt := fun q => h (Int32.toInt_inj.mp q)
theorem cp_pop {O O' : List Int} {T : Int32} {n : Nat} {s : SpC} (h : O = T.toInt :: O') (hw : wfY O) (hT : T = 7 ∨ T = 5) : nbY O = nbY O' + 1 ∧ cfY O n s = cfY O' (n + 1) s ∧ (¬ tpY O' = 0 ∧ ¬ tpY O' = 1 ∧ ¬ tpY O' = 2) := by sorry
/-- what a call of operand, behind tells -/
def OpQ (σ0 τ : RS) (Φ : SpC) (n0 : Nat) (s2 : (List (Int × Int × List Int) × List (Int × Int × Int × Int)) × (Nat → Int) × ((Nat → Int) × (Nat → Option (List (Int × Int × Int × Int))) × (Nat → Option (List (Int × Int × List Int))) × Nat × List (Nat × Nat))) (w : Option Value) : Prop :=
  (w = some (.int 0) ∧ FlR τ Φ) ∨ (w = some (.int 1) ∧ wO τ ∧ ∃ s n, XrR σ0 τ s n ∧ n + nbY (oR τ) = n0 ∧ s.2 = s2 ∧
    ((gI τ 34 = 1 ∧ ((gI τ 35 = 0 ∧ wtY 0 (oR τ) n s = Φ) ∨ (gI τ 35 = 1 ∧ bgT (oR τ) ∧ wtY 1 (oR τ) n s = Φ))) ∨ (gI τ 34 = 0 ∧ foY (oR τ) n s = Φ)))
theorem acc2 {s : SpC} : (accY s).2 = s.2 := by sorry
def Pv_closeCall (σ0 : RS) (s : SpC) (n : Nat) : UP1 := fun A1 σ => match A1 with
  | [] => XrR σ0 σ s n ∧ wO σ ∧ n ≤ 21 ∧ 0 < gI σ 29 ∧ codY s = 1
  | _ => False
def Qv_closeCall (σ0 : RS) (s : SpC) (n : Nat) : UQ1 := fun A1 σ w τ => match A1 with
  | [] => (w = some (.int 0) ∧ FlR τ (accY s)) ∨ (w = some (.int 1) ∧ XrR σ0 τ (accY s) (n + 1) ∧ wO τ ∧ oR τ = (oR σ).tail ∧ gI τ 34 = 0)
  | _ => False
def Qw_closeCall : UQ1 := fun A1 σ w τ => ∀ (σ0 : RS) (s : SpC) (n : Nat), Pv_closeCall σ0 s n A1 σ → Qv_closeCall σ0 s n A1 σ w τ
set_option maxRecDepth 100000 in
set_option maxHeartbeats 4000000 in
theorem v_closeCall (σ0 : RS) (s : SpC) (n : Nat) : UMet 31 (Pv_closeCall σ0 s n) (Qv_closeCall σ0 s n) := by sorry
theorem w_closeCall : UMet 31 (fun _ _ => True) Qw_closeCall := by sorry
def Pv_reduce (σ0 : RS) (s : SpC) (n : Nat) : UP1 := fun A1 σ => match A1 with
  | [.int least] => XrR σ0 σ s n ∧ wO σ ∧ n + nbY (oR σ) ≤ 21
  | _ => False
def Qv_reduce (σ0 : RS) (s : SpC) (n : Nat) : UQ1 := fun A1 σ w τ => match A1 with
  | [.int least] => w = none ∧ ∃ m, XrR σ0 τ s m ∧ wO τ ∧ m + nbY (oR τ) = n + nbY (oR σ) ∧ (∀ t, foY (oR τ) m t = foY (oR σ) n t) ∧ ¬ tpY (oR τ) = 0 ∧ ¬ tpY (oR τ) = 1 ∧ (least = 1 → ¬ tpY (oR τ) = 2)
  | _ => False
def Qw_reduce : UQ1 := fun A1 σ w τ => ∀ (σ0 : RS) (s : SpC) (n : Nat), Pv_reduce σ0 s n A1 σ → Qv_reduce σ0 s n A1 σ w τ
set_option maxRecDepth 100000 in
set_option maxHeartbeats 4000000 in
theorem v_reduce (σ0 : RS) (s : SpC) (n : Nat) : UMet 32 (Pv_reduce σ0 s n) (Qv_reduce σ0 s n) := by sorry
theorem w_reduce : UMet 32 (fun _ _ => True) Qw_reduce := fun A1 σ _ w τ h σ0 s n hP => v_reduce σ0 s n A1 σ hP w τ h
def Pv_complete (σ0 : RS) (s : SpC) (n : Nat) : UP1 := fun A1 σ => match A1 with
  | [] => XrR σ0 σ s n ∧ wO σ ∧ n + nbY (oR σ) ≤ 21 ∧ ¬ (20 ≤ codY s ∧ codY s ≤ 38) ∧ ¬ codY s = 7
  | _ => False
def Qv_complete (σ0 : RS) (s : SpC) (n : Nat) : UQ1 := fun A1 σ w τ => match A1 with
  | [] => w = none ∧ ∃ m, XrR σ0 τ s m ∧ wO τ ∧ m + nbY (oR τ) = n + nbY (oR σ) ∧ cfY (oR τ) m s = foY (oR σ) n s ∧ ¬ tpY (oR τ) = 0 ∧ ¬ tpY (oR τ) = 1 ∧ ¬ tpY (oR τ) = 2 ∧ ¬ tpY (oR τ) = 5 ∧ ¬ tpY (oR τ) = 7
  | _ => False
def Qw_complete : UQ1 := fun A1 σ w τ => ∀ (σ0 : RS) (s : SpC) (n : Nat), Pv_complete σ0 s n A1 σ → Qv_complete σ0 s n A1 σ w τ
set_option maxRecDepth 100000 in
set_option maxHeartbeats 4000000 in
theorem v_complete (σ0 : RS) (s : SpC) (n : Nat) : UMet 33 (Pv_complete σ0 s n) (Qv_complete σ0 s n) := by sorry
theorem w_complete : UMet 33 (fun _ _ => True) Qw_complete := by sorry
theorem nb_0 {O : List Int} : nbY (0 :: O) = 1 + nbY O := rfl
theorem nb_1 {O : List Int} : nbY (1 :: O) = 1 + nbY O := rfl
theorem nb_2 {O : List Int} : nbY (2 :: O) = nbY O := by sorry
theorem nb_3 {O : List Int} : nbY (3 :: O) = 1 + nbY O := rfl
theorem nb_4 {O : List Int} : nbY (4 :: O) = 1 + nbY O := rfl
theorem nb_5 {O : List Int} : nbY (5 :: O) = 1 + nbY O := rfl
theorem nb_6 {O : List Int} : nbY (6 :: O) = 1 + nbY O := rfl
theorem nb_7 {O : List Int} : nbY (7 :: O) = 1 + nbY O := rfl
theorem wf_a {O : List Int} {k : Int32} (h : k = 0 ∨ k = 1 ∨ k = 3 ∨ k = 4) (hw : wfY O) : wfY (k.toInt :: O) := by sorry
theorem wf_5 {O : List Int} (h : bgT O) (hw : wfY O) : wfY ((5 : Int32).toInt :: O) := by sorry
theorem wf_2 {O : List Int} (h : ¬ tpY O = 0 ∧ ¬ tpY O = 1) (hw : wfY O) : wfY ((2 : Int32).toInt :: O) := by sorry
theorem wf_6 {O : List Int} {k : Int32} (hk : k = 6 ∨ k = 7) (h : ¬ tpY O = 0 ∧ ¬ tpY O = 1 ∧ ¬ tpY O = 2) (hw : wfY O) : wfY (k.toInt :: O) := by sorry
theorem bg_c {k : Int} {O : List Int} (h : k = 3 ∨ k = 4 ∨ k = 5 ∨ k = 6) : bgT (k :: O) := by sorry
theorem oY_w {O : List Int} {n : Nat} {s : SpC} (hn : 1 ≤ n) : wtY 0 O n s = foY O n (oY n s) := by sorry
def Pv_named (σ0 : RS) (s : SpC) (n n0 : Nat) : UP1 := fun A1 σ => match A1 with
  | [.int begins] => XrR σ0 σ s n ∧ wO σ ∧ n + nbY (oR σ) = n0 ∧ n0 ≤ 21 ∧ bgR begins (oR σ) ∧ codY s = 80 ∧ gI σ 34 = 0
  | _ => False
def Qv_named (σ0 : RS) (s : SpC) (n n0 : Nat) : UQ1 := fun A1 σ w τ => match A1 with
  | [.int begins] => OpQ σ0 τ (wtY begins.toInt (oR σ) n s) n0 s.2 w
  | _ => False
def Qw_named : UQ1 := fun A1 σ w τ => ∀ (σ0 : RS) (s : SpC) (n n0 : Nat), Pv_named σ0 s n n0 A1 σ → Qv_named σ0 s n n0 A1 σ w τ
set_option maxRecDepth 100000 in
set_option maxHeartbeats 4000000 in
theorem v_named (σ0 : RS) (s : SpC) (n n0 : Nat) : UMet 30 (Pv_named σ0 s n n0) (Qv_named σ0 s n n0) := by sorry
theorem w_named : UMet 30 (fun _ _ => True) Qw_named := by sorry
def Pv_operand (σ0 : RS) (s : SpC) (n n0 : Nat) : UP1 := fun A1 σ => match A1 with
  | [.int begins] => XrR σ0 σ s n ∧ wO σ ∧ n + nbY (oR σ) = n0 ∧ n0 ≤ 21 ∧ bgR begins (oR σ)
  | _ => False
def Qv_operand (σ0 : RS) (s : SpC) (n n0 : Nat) : UQ1 := fun A1 σ w τ => match A1 with
  | [.int begins] => OpQ σ0 τ (wtY begins.toInt (oR σ) n s) n0 s.2 w
  | _ => False
def Qw_operand : UQ1 := fun A1 σ w τ => ∀ (σ0 : RS) (s : SpC) (n n0 : Nat), Pv_operand σ0 s n n0 A1 σ → Qv_operand σ0 s n n0 A1 σ w τ
set_option maxRecDepth 100000 in
set_option maxHeartbeats 4000000 in
theorem v_operand (σ0 : RS) (s : SpC) (n n0 : Nat) : UMet 29 (Pv_operand σ0 s n n0) (Qv_operand σ0 s n n0) := by sorry
theorem w_operand : UMet 29 (fun _ _ => True) Qw_operand := by sorry
theorem fo_que' {O : List Int} {n : Nat} {s : SpC} (hn : 1 ≤ n) (ht : ¬ tpY O = 0 ∧ ¬ tpY O = 1 ∧ ¬ tpY O = 2) (h : codY s = 7) : foY O n s = wtY 1 (6 :: O) (n - 1) (accY s) := by sorry
def BhQ (σ0 τ : RS) (Φ : SpC) (n0 : Nat) (s2 : (List (Int × Int × List Int) × List (Int × Int × Int × Int)) × (Nat → Int) × ((Nat → Int) × (Nat → Option (List (Int × Int × Int × Int))) × (Nat → Option (List (Int × Int × List Int))) × Nat × List (Nat × Nat))) (w : Option Value) : Prop :=
  (w = some (.int 0) ∧ FlR τ Φ) ∨ (w = some (.int 1) ∧ wO τ ∧ ∃ s n, XrR σ0 τ s n ∧ n + nbY (oR τ) = n0 ∧ s.2 = s2 ∧
    ((gI τ 34 = 1 ∧ ((gI τ 35 = 0 ∧ wtY 0 (oR τ) n s = Φ) ∨ (gI τ 35 = 1 ∧ bgT (oR τ) ∧ wtY 1 (oR τ) n s = Φ))) ∨ (gI τ 34 = 0 ∧ oR τ = [] ∧ s = Φ)))
theorem tp_in {O O' : List Int} {T : Int32} (h : O = T.toInt :: O') (hw : wfY O) : 0 ≤ T := by sorry
theorem oR_lit {O O' : List Int} {T k : Int32} (h : O = T.toInt :: O') (hT : T = k) : O = k.toInt :: O' := by sorry
theorem cf_nil {O : List Int} {n : Nat} {s : SpC} (h : O = []) : cfY O n s = s := by sorry
theorem cf_bad' {O O' : List Int} {T : Int32} {n : Nat} {s : SpC} (h : O = T.toInt :: O') (hw : wfY O) (ht : ¬ tpY O = 0 ∧ ¬ tpY O = 1 ∧ ¬ tpY O = 2 ∧ ¬ tpY O = 5 ∧ ¬ tpY O = 7) (h3 : T = 3 → ¬ codY s = 1) (h4 : T = 4 → ¬ codY s = 1 ∧ ¬ codY s = 5) (h6 : T = 6 → ¬ codY s = 6) : zFt (cfY O n s) = zFt (raiY 2 s) ∧ zPl (cfY O n s) = zPl (raiY 2 s) := by sorry
def Pv_behind (σ0 : RS) (s : SpC) (n n0 : Nat) : UP1 := fun A1 σ => match A1 with
  | [] => XrR σ0 σ s n ∧ wO σ ∧ n + nbY (oR σ) = n0 ∧ n0 ≤ 21
  | _ => False
def Qv_behind (σ0 : RS) (s : SpC) (n n0 : Nat) : UQ1 := fun A1 σ w τ => match A1 with
  | [] => BhQ σ0 τ (foY (oR σ) n s) n0 s.2 w
  | _ => False
def Qw_behind : UQ1 := fun A1 σ w τ => ∀ (σ0 : RS) (s : SpC) (n n0 : Nat), Pv_behind σ0 s n n0 A1 σ → Qv_behind σ0 s n n0 A1 σ w τ
set_option maxRecDepth 100000 in
set_option maxHeartbeats 4000000 in
theorem v_behind (σ0 : RS) (s : SpC) (n n0 : Nat) : UMet 34 (Pv_behind σ0 s n n0) (Qv_behind σ0 s n n0) := by sorry
theorem w_behind : UMet 34 (fun _ _ => True) Qw_behind := by sorry
def Pv_expression (σ0 : RS) (s : SpC) (n : Nat) : UP1 := fun A1 σ => match A1 with
  | [] => XrR σ0 σ s n ∧ n ≤ 21
  | _ => False
def Qv_expression (σ0 : RS) (s : SpC) (n : Nat) : UQ1 := fun A1 σ w τ => match A1 with
  | [] => (w = some (.int 0) ∧ FlR τ (eY n s)) ∨ (w = some (.int 1) ∧ XrR σ0 τ (eY n s) n ∧ (eY n s).2 = s.2)
  | _ => False
def Qw_expression : UQ1 := fun A1 σ w τ => ∀ (σ0 : RS) (s : SpC) (n : Nat), Pv_expression σ0 s n A1 σ → Qv_expression σ0 s n A1 σ w τ
set_option maxRecDepth 100000 in
set_option maxHeartbeats 4000000 in
theorem v_expression (σ0 : RS) (s : SpC) (n : Nat) : UMet 27 (Pv_expression σ0 s n) (Qv_expression σ0 s n) := by sorry
theorem w_expression : UMet 27 (fun _ _ => True) Qw_expression := by sorry
/-! S's of the reference: frames, methods, variables -/
def frR (σ : RS) : List Int := olY (aI σ 63) (nT (gI σ 62))
def wfF : List Int → Prop
  | [] => True
  | k :: F => (0 ≤ k ∧ k ≤ 11) ∧ (k = 0 ↔ F = []) ∧ wfF F
/-- a case or default is told of k -/
def gR (σ : RS) (k : Int32) : Prop := ∃ c, nT (aI σ 51 (nT k)) ≤ c ∧ c < nT (gI σ 18) ∧ (aI σ 19 c = 38 ∨ aI σ 19 c = 39) ∧ aI σ 20 c = k
def GrR (σ : RS) : Prop := ∀ i, i < nT (gI σ 62) → nT (aI σ 64 i) < nT (gI σ 49) ∧ (aI σ 63 i = 8 → nT (aI σ 51 (nT (aI σ 64 i))) ≤ nT (gI σ 18) ∧ (i + 1 < nT (gI σ 62) → gR σ (aI σ 64 i)))
/-- whether nothing is told yet in the switch on top -/
def FgR (σ : RS) (b : Int) : Prop := (b = 0 ∨ b = 1) ∧ ∀ i, i + 1 = nT (gI σ 62) → aI σ 63 i = 8 → (b = 0 ↔ gR σ (aI σ 64 i))
/-- variables, newest first; params of a method; methods -/
def vlR (σ : RS) : Nat → List (Int × Int × Int × Int)
  | 0 => []
  | n + 1 => ((aI σ 43 n).toInt, (aI σ 44 n).toInt, (aI σ 45 n).toInt, (aI σ 46 n).toInt) :: vlR σ n
def plR (f : Nat → Int32) (a : Nat) : Nat → List Int
  | 0 => []
  | n + 1 => (f (a + n)).toInt :: plR f a n
def mlR (σ : RS) : Nat → List (Int × Int × List Int)
  | 0 => []
  | n + 1 => ((aI σ 37 n).toInt, (aI σ 38 n).toInt, plR (aI σ 44) (nT (aI σ 40 n)) (nT (aI σ 39 n))) :: mlR σ n
def VvR (σ : RS) (s : SpC) : Prop := zVs s = vlR σ (nT (gI σ 42)) ∧ (0 ≤ gI σ 42 ∧ gI σ 42 ≤ 60)
def MvR (σ : RS) (s : SpC) : Prop := VvR σ s ∧ zMs s = mlR σ (nT (gI σ 36)) ∧ (0 ≤ gI σ 36 ∧ gI σ 36 ≤ 10) ∧ (∀ m, m < nT (gI σ 36) → nT (aI σ 40 m) + nT (aI σ 39 m) ≤ nT (gI σ 42))
def SRx (e : Nat) (σ : RS) (s : SpC) (n : Nat) : Prop := ShR σ s ∧ ((gI σ 17).toInt + n = 21 ∧ 1 ≤ n ∧ n + (frR σ).length = 21 + e) ∧ (wfF (frR σ) ∧ 0 ≤ gI σ 62 ∧ (frR σ = [] ∨ 0 < gI σ 36)) ∧ GrR σ ∧ MvR σ s
abbrev SR (σ : RS) (s : SpC) (n : Nat) : Prop := SRx 0 σ s n
theorem SR.x {e_ : Nat} {σ : RS} {s : SpC} {n : Nat} (h : SRx e_ σ s n) : XrR σ σ s n := ⟨h.1, ⟨h.2.1.1, h.2.1.2.1⟩, KR.rf⟩
theorem frR_c {σ τ : RS} (e1 : aI τ 63 = aI σ 63) (e2 : gI τ 62 = gI σ 62) : frR τ = frR σ := by sorry
/-- codes grow -/
def CgR (σ τ : RS) : Prop := nT (gI σ 18) ≤ nT (gI τ 18) ∧ ∀ c, c < nT (gI σ 18) → aI τ 19 c = aI σ 19 c ∧ aI τ 20 c = aI σ 20 c
theorem gR.g {σ τ : RS} {k : Int32} (h : gR σ k) (e : aI τ 51 (nT k) = aI σ 51 (nT k)) (c : CgR σ τ) : gR τ k := by sorry
theorem CgR.rf {σ τ : RS} (e : gI τ 18 = gI σ 18) (a : aI τ 19 = aI σ 19) (b : aI τ 20 = aI σ 20) : CgR σ τ := by sorry
theorem CgR.em {σ τ : RS} {op a : Int32} (e : Em σ op a τ) : CgR σ τ := by sorry
theorem KR.cg {σ τ : RS} (h : KR σ τ) : CgR σ τ := ⟨h.2.1, h.2.2.1⟩
/-- what changes nothing of the frames -/
theorem GrR.g {σ τ : RS} (h : GrR σ) (c : CgR σ τ) (e62 : gI τ 62 = gI σ 62) (e49 : nT (gI σ 49) ≤ nT (gI τ 49)) (a63 : aI τ 63 = aI σ 63) (a64 : aI τ 64 = aI σ 64) (a51 : ∀ i, i < nT (gI σ 49) → aI τ 51 i = aI σ 51 i) : GrR τ := by sorry
theorem FgR.g {σ τ : RS} (h : FgR σ 0) (hG : GrR σ) (c : CgR σ τ) (e62 : gI τ 62 = gI σ 62) (a63 : aI τ 63 = aI σ 63) (a64 : aI τ 64 = aI σ 64) (a51 : ∀ i, i < nT (gI σ 49) → aI τ 51 i = aI σ 51 i) : FgR τ 0 := by sorry
theorem vlR_c {σ τ : RS} (a : aI τ 43 = aI σ 43) (b : aI τ 44 = aI σ 44) (c : aI τ 45 = aI σ 45) (d : aI τ 46 = aI σ 46) : ∀ n, vlR τ n = vlR σ n := by sorry
theorem mlR_c {σ τ : RS} (a : aI τ 37 = aI σ 37) (b : aI τ 38 = aI σ 38) (c : aI τ 39 = aI σ 39) (d : aI τ 40 = aI σ 40) (e : aI τ 44 = aI σ 44) : ∀ n, mlR τ n = mlR σ n := by sorry
theorem MvR.c {σ τ : RS} {s t : SpC} (h : MvR σ s) (e2 : t.2 = s.2) (e36 : gI τ 36 = gI σ 36) (e42 : gI τ 42 = gI σ 42) (r : ∀ k, 37 ≤ k ∧ k ≤ 46 → aI τ k = aI σ k) : MvR τ t := by sorry
theorem xA_f {k : Nat} (h : 31 ≤ k) : xaR k = false := by sorry
/-- behind a call that reads on -/
theorem SR.kr {e_ : Nat} {σ τ : RS} {s t : SpC} {n : Nat} (h : SRx e_ σ s n) (x : XrR σ τ t n) (e2 : t.2 = s.2) : SRx e_ τ t n := by sorry
theorem FgR.kr {e_ : Nat} {σ τ : RS} {s t : SpC} {n m : Nat} (h : FgR σ 0) (hS : SRx e_ σ s n) (x : XrR σ τ t m) : FgR τ 0 := by sorry
theorem frR_kr {σ τ : RS} {t : SpC} {m : Nat} (x : XrR σ τ t m) : frR τ = frR σ := frR_c (x.2.2.1.2 63 rfl) (x.2.2.1.1 62 rfl)
def sI_ (k : Nat) : Bool := k == 2 || k == 14 || k == 15 || k == 17 || k == 18 || k == 36 || k == 42 || k == 49 || k == 62
def sA_ (k : Nat) : Bool := k == 3 || k == 4 || k == 6 || k == 19 || k == 20 || (Nat.ble 37 k && Nat.ble k 46) || k == 51 || k == 63 || k == 64
/-- what counts for S's -/
def SqR (σ τ : RS) : Prop := (∀ k, sI_ k = true → gI τ k = gI σ k) ∧ ∀ k, sA_ k = true → aI τ k = aI σ k
theorem sA_m {k : Nat} (h : 37 ≤ k ∧ k ≤ 46) : sA_ k = true := by sorry
theorem SR.sq {e_ : Nat} {σ τ : RS} {s : SpC} {n : Nat} (h : SRx e_ σ s n) (q : SqR σ τ) : SRx e_ τ s n := by sorry
theorem gR_sq {σ τ : RS} {k : Int32} (q : SqR σ τ) : gR τ k ↔ gR σ k := by sorry
theorem FgR.sq {σ τ : RS} {b : Int} (h : FgR σ b) (q : SqR σ τ) : FgR τ b := by sorry
theorem SqR.i {σ : RS} {k : Nat} {v : Int32} (hk : sI_ k = false) : SqR σ (sI σ k v) := by sorry
theorem SqR.a {σ : RS} {k : Nat} {f : Nat → Int32} (hk : sA_ k = false) : SqR σ (sA σ k f) := by sorry
theorem SR.i {e_ : Nat} {σ : RS} {s : SpC} {n k : Nat} {v : Int32} (h : SRx e_ σ s n) (hk : sI_ k = false) : SRx e_ (sI σ k v) s n := SR.sq h (SqR.i hk)
theorem SR.a {e_ : Nat} {σ : RS} {s : SpC} {n k : Nat} {f : Nat → Int32} (h : SRx e_ σ s n) (hk : sA_ k = false) : SRx e_ (sA σ k f) s n := SR.sq h (SqR.a hk)
theorem FgR.i {σ : RS} {b : Int} {k : Nat} {v : Int32} (h : FgR σ b) (hk : sI_ k = false) : FgR (sI σ k v) b := h.sq (SqR.i hk)
theorem FgR.a {σ : RS} {b : Int} {k : Nat} {f : Nat → Int32} (h : FgR σ b) (hk : sA_ k = false) : FgR (sA σ k f) b := h.sq (SqR.a hk)
theorem frR_i {σ : RS} {k : Nat} {v : Int32} (h : k ≠ 62) : frR (sI σ k v) = frR σ := by sorry
theorem frR_a {σ : RS} {k : Nat} {f : Nat → Int32} (h : k ≠ 63) : frR (sA σ k f) = frR σ := by sorry
theorem frR_em {σ τ : RS} {op a : Int32} (e : Em σ op a τ) : frR τ = frR σ := frR_c (e.2.2.2.2.1 63 (by omega)) (e.1 62 (by decide))
theorem SR.em {e_ : Nat} {σ τ : RS} {s : SpC} {n : Nat} {op a : Int32} (h : SRx e_ σ s n) (e : Em σ op a τ) : SRx e_ τ s n := by sorry
theorem FgR.em {e_ : Nat} {σ τ : RS} {s : SpC} {n : Nat} {op a : Int32} (h : FgR σ 0) (hS : SRx e_ σ s n) (e : Em σ op a τ) : FgR τ 0 := by sorry
theorem frR_th {σ τ : RS} (e : Th σ τ) : frR τ = frR σ := frR_c (e.2.2.2.1 63 (by omega)) (e.1 62 (by decide))
theorem thk51 {σ τ : RS} (e : Th σ τ) : ∀ i, i < nT (gI σ 49) → aI τ 51 i = aI σ 51 i := by sorry
theorem th49 {σ τ : RS} (e : Th σ τ) : nT (gI τ 49) = nT (gI σ 49) + 1 := by sorry
theorem SR.th {e_ : Nat} {σ τ : RS} {s : SpC} {n : Nat} (h : SRx e_ σ s n) (e : Th σ τ) : SRx e_ τ s n := by sorry
theorem FgR.th {e_ : Nat} {σ τ : RS} {s : SpC} {n : Nat} (h : FgR σ 0) (hS : SRx e_ σ s n) (e : Th σ τ) : FgR τ 0 := by sorry
/-- a frame is popped -/
theorem frR_pop {σ : RS} (h : 0 < gI σ 62) : frR σ = (aI σ 63 (gI σ 62 - 1).toNatClampNeg).toInt :: frR (sI σ 62 (gI σ 62 - 1)) := by sorry
theorem frR_nil {σ : RS} (h : gI σ 62 ≤ 0) : frR σ = [] := by sorry
theorem SR.pop {σ : RS} {s : SpC} {n : Nat} (h : SR σ s n) (h0 : 0 < gI σ 62) : SR (sI (sI σ 62 (gI σ 62 - 1)) 17 (gI σ 17 - 1)) s (n + 1) ∧ FgR (sI (sI σ 62 (gI σ 62 - 1)) 17 (gI σ 17 - 1)) 0 := by sorry
/-- what a call of piece, statement tells -/
def StQ (τ : RS) (Φ : SpC) (w : Option Value) : Prop := (w = some (.int 0) ∧ FlR τ Φ) ∨ (w = some (.int 1) ∧ ∃ s n b, SR τ s n ∧ FgR τ b ∧ pcY b (frR τ) n s = Φ)
theorem StQ.f {τ : RS} {Φ T : SpC} (h : FlR τ T) (g : GpY T Φ) : StQ τ Φ (some (.int 0)) := Or.inl ⟨rfl, h.g g⟩
/-- a frame more -/
theorem SR.op {σ τ : RS} {s : SpC} {n : Nat} {sort k : Int32} (h : SR σ s n) (hg : FgR σ 0) (hn : 2 ≤ n) (x : ShR τ s) (e17 : (gI τ 17).toInt + (n - 1 : Nat) = 21) (e62 : gI τ 62 = gI σ 62 + 1) (hb : gI σ 62 < 80) (ei : ∀ j, j ≠ 17 → j ≠ 62 → gI τ j = gI σ j) (a63 : aI τ 63 = upd (aI σ 63) (nT (gI σ 62)) sort) (a64 : aI τ 64 = upd (aI σ 64) (nT (gI σ 62)) k) (ea : ∀ j, j < 63 → aI τ j = aI σ j) (hk : nT k < nT (gI σ 49)) (hs : 0 ≤ sort.toInt ∧ sort.toInt ≤ 11) (h0 : sort.toInt = 0 ↔ frR σ = []) (h6 : 0 < gI σ 36) (h8 : sort = 8 → nT (aI σ 51 (nT k)) ≤ nT (gI σ 18) ∧ ¬ gR σ k) : SR τ s (n - 1) ∧ FgR τ 1 ∧ frR τ = sort.toInt :: frR σ := by sorry
/-- a variable more -/
def VaR (σ τ : RS) (ty f : Int32) : Prop := (∀ j, j ≠ 14 → j ≠ 42 → gI τ j = gI σ j) ∧ gI τ 42 = gI σ 42 + 1 ∧ (0 ≤ gI σ 42 ∧ gI σ 42 < 60) ∧
  (aI τ 43 = upd (aI σ 43) (nT (gI σ 42)) (gI σ 14) ∧ aI τ 44 = upd (aI σ 44) (nT (gI σ 42)) ty ∧ aI τ 45 = upd (aI σ 45) (nT (gI σ 42)) f ∧ aI τ 46 = upd (aI σ 46) (nT (gI σ 42)) (if gI σ 36 = 0 ∨ gI σ 62 = 0 then gI σ 36 else gI σ 36 - 1)) ∧ (∀ j, j < 43 ∨ 48 < j → aI τ j = aI σ j)
theorem vlR_up {σ τ : RS} {k : Nat} {x y z w : Int32} (a : aI τ 43 = upd (aI σ 43) k x) (b : aI τ 44 = upd (aI σ 44) k y) (c : aI τ 45 = upd (aI σ 45) k z) (d : aI τ 46 = upd (aI σ 46) k w) : ∀ n, n ≤ k → vlR τ n = vlR σ n := by sorry
theorem plR_up {f : Nat → Int32} {a k : Nat} {x : Int32} : ∀ n, a + n ≤ k → plR (upd f k x) a n = plR f a n := by sorry
theorem mlR_up {σ τ : RS} {k : Nat} {x : Int32} (a : aI τ 37 = aI σ 37) (b : aI τ 38 = aI σ 38) (c : aI τ 39 = aI σ 39) (d : aI τ 40 = aI σ 40) (e : aI τ 44 = upd (aI σ 44) k x) : ∀ n, (∀ m, m < n → nT (aI σ 40 m) + nT (aI σ 39 m) ≤ k) → mlR τ n = mlR σ n := by sorry
/-- variables and methods behind a variable more -/
theorem VaR.vv {σ τ : RS} {ty f : Int32} {s : SpC} (h : VaR σ τ ty f) (v : VvR σ s) (e : (zMs s).length = nT (gI σ 36) + (if gI σ 62 = 0 then 1 else 0)) (h36 : 0 ≤ gI σ 36 ∧ gI σ 36 ≤ 10) (h0 : gI σ 36 = 0 → gI σ 62 = 0) (ha : zAt s = (gI σ 14).toInt) : VvR τ (vadY ty.toInt f.toInt s) := by sorry
theorem nT_lt2 {x y : Int32} {j : Nat} (h : y ≤ x) (hj : j < nT y) : j < nT x := by sorry
def Pv_isTold (σ0 : RS) (s : SpC) (n : Nat) : UP1 := fun A1 σ => match A1 with
  | [] => XrR σ0 σ s n
  | _ => False
def Qv_isTold (σ0 : RS) (s : SpC) (n : Nat) : UQ1 := fun A1 σ w τ => match A1 with
  | [] => σ = τ ∧ ((w = some (.int 1) ∧ (codY s = 71 ∨ (50 ≤ codY s ∧ codY s ≤ 54))) ∨ (w = some (.int 0) ∧ ¬ (codY s = 71 ∨ (50 ≤ codY s ∧ codY s ≤ 54))))
  | _ => False
def Qw_isTold : UQ1 := fun A1 σ w τ => ∀ (σ0 : RS) (s : SpC) (n : Nat), Pv_isTold σ0 s n A1 σ → Qv_isTold σ0 s n A1 σ w τ
set_option maxRecDepth 100000 in
set_option maxHeartbeats 4000000 in
theorem v_isTold (σ0 : RS) (s : SpC) (n : Nat) : UMet 46 (Pv_isTold σ0 s n) (Qv_isTold σ0 s n) := by sorry
theorem w_isTold : UMet 46 (fun _ _ => True) Qw_isTold := fun A1 σ _ w τ h σ0 s n hP => v_isTold σ0 s n A1 σ hP w τ h
def Pv_isRow : UP1 := fun A1 σ => match A1 with
  | [.int x] => True
  | _ => False
def Qv_isRow : UQ1 := fun A1 σ w τ => match A1 with
  | [.int x] => σ = τ ∧ ((w = some (.int 1) ∧ (x = 0 ∨ x = 1 ∨ 9 ≤ x)) ∨ (w = some (.int 0) ∧ ¬ (x = 0 ∨ x = 1 ∨ 9 ≤ x)))
  | _ => False
def Qw_isRow : UQ1 := fun A1 σ w τ => Pv_isRow A1 σ → Qv_isRow A1 σ w τ
set_option maxRecDepth 100000 in
set_option maxHeartbeats 4000000 in
theorem v_isRow : UMet 43 (Pv_isRow) (Qv_isRow) := by sorry
theorem w_isRow : UMet 43 (fun _ _ => True) Qw_isRow := fun A1 σ _ w τ h hP => v_isRow A1 σ hP w τ h
def Pv_isSignAt : UP1 := fun A1 σ => match A1 with
  | [.int t, .int x] => True
  | _ => False
def Qv_isSignAt : UQ1 := fun A1 σ w τ => match A1 with
  | [.int t, .int x] => σ = τ ∧ ((w = some (.int 1) ∧ t < gI σ 2 ∧ 0 ≤ t ∧ aI σ 3 t.toNatClampNeg = 5 ∧ aI σ 6 t.toNatClampNeg = x) ∨ (w = some (.int 0) ∧ ¬ (t < gI σ 2 ∧ aI σ 3 t.toNatClampNeg = 5 ∧ aI σ 6 t.toNatClampNeg = x)))
  | _ => False
def Qw_isSignAt : UQ1 := fun A1 σ w τ => Pv_isSignAt A1 σ → Qv_isSignAt A1 σ w τ
set_option maxRecDepth 100000 in
set_option maxHeartbeats 4000000 in
theorem v_isSignAt : UMet 16 (Pv_isSignAt) (Qv_isSignAt) := by sorry
theorem w_isSignAt : UMet 16 (fun _ _ => True) Qw_isSignAt := fun A1 σ _ w τ h hP => v_isSignAt A1 σ hP w τ h
def Pv_grouped : UP1 := fun A1 σ => match A1 with
  | [] => True
  | _ => False
def Qv_grouped : UQ1 := fun A1 σ w τ => match A1 with
  | [] => σ = τ ∧ ((w = some (.int 1) ∧ gR σ (aI σ 64 (gI σ 62 - 1).toNatClampNeg)) ∨ (w = some (.int 0) ∧ ¬ gR σ (aI σ 64 (gI σ 62 - 1).toNatClampNeg)))
  | _ => False
def Qw_grouped : UQ1 := fun A1 σ w τ => Pv_grouped A1 σ → Qv_grouped A1 σ w τ
set_option maxRecDepth 100000 in
set_option maxHeartbeats 4000000 in
theorem v_grouped : UMet 45 (Pv_grouped) (Qv_grouped) := by sorry
theorem w_grouped : UMet 45 (fun _ _ => True) Qw_grouped := fun A1 σ _ w τ h hP => v_grouped A1 σ hP w τ h
def Pv_open (s : SpC) (n : Nat) : UP1 := fun A1 σ => match A1 with
  | [.int sort, .int k, .int step] => SR σ s n ∧ FgR σ 0 ∧ nT k < nT (gI σ 49) ∧ (0 ≤ sort.toInt ∧ sort.toInt ≤ 11) ∧ (sort.toInt = 0 ↔ frR σ = []) ∧ 0 < gI σ 36 ∧ (sort = 8 → nT (aI σ 51 (nT k)) ≤ nT (gI σ 18) ∧ ¬ gR σ k)
  | _ => False
def Qv_open (s : SpC) (n : Nat) : UQ1 := fun A1 σ w τ => match A1 with
  | [.int sort, .int k, .int step] => (w = some (.int 0) ∧ n = 1 ∧ FlR τ (raiY 3 s)) ∨ (w = some (.int 1) ∧ 2 ≤ n ∧ SR τ s (n - 1) ∧ FgR τ 1 ∧ frR τ = sort.toInt :: frR σ)
  | _ => False
def Qw_open : UQ1 := fun A1 σ w τ => ∀ (s : SpC) (n : Nat), Pv_open s n A1 σ → Qv_open s n A1 σ w τ
set_option maxRecDepth 100000 in
set_option maxHeartbeats 4000000 in
theorem v_open (s : SpC) (n : Nat) : UMet 36 (Pv_open s n) (Qv_open s n) := by sorry
theorem w_open : UMet 36 (fun _ _ => True) Qw_open := fun A1 σ _ w τ h s n hP => v_open s n A1 σ hP w τ h
def Pv_condition (σ0 : RS) (s : SpC) (n : Nat) : UP1 := fun A1 σ => match A1 with
  | [] => XrR σ0 σ s n ∧ n ≤ 21
  | _ => False
def Qv_condition (σ0 : RS) (s : SpC) (n : Nat) : UQ1 := fun A1 σ w τ => match A1 with
  | [] => (w = some (.int 0) ∧ FlR τ (cndY n s)) ∨ (w = some (.int 1) ∧ XrR σ0 τ (cndY n s) n ∧ (cndY n s).2 = s.2)
  | _ => False
def Qw_condition : UQ1 := fun A1 σ w τ => ∀ (σ0 : RS) (s : SpC) (n : Nat), Pv_condition σ0 s n A1 σ → Qv_condition σ0 s n A1 σ w τ
set_option maxRecDepth 100000 in
set_option maxHeartbeats 4000000 in
theorem v_condition (σ0 : RS) (s : SpC) (n : Nat) : UMet 52 (Pv_condition σ0 s n) (Qv_condition σ0 s n) := by sorry
theorem w_condition : UMet 52 (fun _ _ => True) Qw_condition := by sorry
theorem acc_v {ty f : Int} {s : SpC} : (accY (vadY ty f s)).1 = (accY s).1 ∧ (accY (vadY ty f s)).2 = (vadY ty f s).2 := by sorry
theorem vlR_l {σ : RS} : ∀ n, (vlR σ n).length = n := by sorry
theorem mlR_l {σ : RS} : ∀ n, (mlR σ n).length = n := by sorry
theorem nT_eqN {x : Int32} {k : Nat} (h : x.toInt = k) : nT x = k := by sorry
theorem SR.va {e : Nat} {σ τ : RS} {s : SpC} {n : Nat} {ty f : Int32} (h : SRx e σ s n) (hF : frR σ ≠ []) (v : VaR σ τ ty f) (x : ShR τ (accY s)) (hz : zAt s < 500) : SRx e τ (accY (vadY ty.toInt f.toInt s)) n ∧ (FgR σ 0 → FgR τ 0) ∧ frR τ = frR σ := by sorry
theorem va2_y {n : Nat} {f : Int} {t : SpC} (h : codY t = 8) : va2Y n f t = eY n (accY t) := by sorry
theorem va2_c {n : Nat} {t : SpC} (h : ¬ codY t = 8) : va2Y n 1 t = eY n (raiY 2 t) := by sorry
theorem va2_n {n : Nat} {t : SpC} (h : ¬ codY t = 8) : va2Y n 0 t = t := by sorry
theorem var_1 {n : Nat} {s : SpC} (h : codY s = 71) : varY n s = va2Y n 1 (dclY (tyvY (accY s)) 1 1 (typY (accY s))) := by sorry
theorem var_0 {n : Nat} {s : SpC} (h : ¬ codY s = 71) : varY n s = va2Y n 0 (dclY (tyvY s) 0 1 (typY s)) := by sorry
theorem tyv_y {s : SpC} (h : 50 ≤ codY s ∧ codY s ≤ 54) : tyvY s = codY s - 50 := by sorry
theorem SR.a5 {e : Nat} {σ : RS} {s : SpC} {n : Nat} (h : SRx e σ s n) : 0 ≤ zAt s ∧ zAt s ≤ 500 := h.1.a5
/-- one level up, the frame still there; then the frame is popped -/
theorem SR.up1 {e : Nat} {σ : RS} {s : SpC} {n : Nat} (h : SRx e σ s n) (hn : n ≤ 21) : SRx (e + 1) (sI σ 17 (gI σ 17 - 1)) s (n + 1) := by sorry
theorem SR.pop1 {σ : RS} {s : SpC} {n : Nat} (h : SRx 1 σ s n) (h0 : 0 < gI σ 62) : SR (sI σ 62 (gI σ 62 - 1)) s n ∧ FgR (sI σ 62 (gI σ 62 - 1)) 0 := by sorry
/-- the frame on top becomes an else -/
theorem SR.fs {σ τ : RS} {s : SpC} {n : Nat} (h : SRx 1 σ s (n + 1)) (h0 : 0 < gI σ 62) (h2 : aI σ 63 (gI σ 62 - 1).toNatClampNeg = 2) (x : XrR (sA σ 63 (upd (aI σ 63) (gI σ 62 - 1).toNatClampNeg 3)) τ s n) (s1 : S1 17 (sA σ 63 (upd (aI σ 63) (gI σ 62 - 1).toNatClampNeg 3)) τ) : SR τ s n ∧ FgR τ 0 ∧ frR τ = 3 :: frR (sI σ 62 (gI σ 62 - 1)) := by sorry
theorem rwk_in {σ : RS} {s : SpC} {n e : Nat} {F : List Int} {T : Int32} (h : SRx e σ s n) (p : frR σ = T.toInt :: F) (q : (T = 0 ∨ T = 1 ∨ 9 ≤ T) ∨ T = 8) : rwkY T.toInt := by sorry
theorem SR.sh {e : Nat} {σ : RS} {s : SpC} {n : Nat} (h : SRx e σ s n) : ShR σ s := h.1
theorem SR.vv {e : Nat} {σ : RS} {s : SpC} {n : Nat} (h : SRx e σ s n) : VvR σ s := h.2.2.2.2.1
theorem SR.z {e : Nat} {σ : RS} {s : SpC} {n : Nat} (h : SRx e σ s n) : zFt s = 0 := h.1.1.1
theorem SR.dp {e : Nat} {σ : RS} {s : SpC} {n : Nat} (h : SRx e σ s n) : (gI σ 17).toInt + n = 21 ∧ 1 ≤ n := ⟨h.2.1.1, h.2.1.2.1⟩
def Pv_variable (s : SpC) (n : Nat) : UP1 := fun A1 σ => match A1 with
  | [.int type, .int fixed, .int k] => ShR σ s ∧ ((gI σ 17).toInt + n = 21 ∧ 1 ≤ n) ∧ codY s = 80 ∧ VvR σ s
  | _ => False
def Qv_variable (s : SpC) (n : Nat) : UQ1 := fun A1 σ w τ => match A1 with
  | [.int type, .int fixed, .int k] => (w = some (.int 0) ∧ FlR τ (dclY type.toInt fixed.toInt 1 s)) ∨ (w = some (.int 1) ∧ ShR τ (accY s) ∧ zAt s < 500 ∧ ¬ 60 ≤ (zVs s).length ∧ VaR σ τ type fixed)
  | _ => False
def Qw_variable : UQ1 := fun A1 σ w τ => ∀ (s : SpC) (n : Nat), Pv_variable s n A1 σ → Qv_variable s n A1 σ w τ
set_option maxRecDepth 100000 in
set_option maxHeartbeats 4000000 in
theorem v_variable (s : SpC) (n : Nat) : UMet 40 (Pv_variable s n) (Qv_variable s n) := by sorry
theorem w_variable : UMet 40 (fun _ _ => True) Qw_variable := fun A1 σ _ w τ h s n hP => v_variable s n A1 σ hP w τ h
def Pv_declaration (s : SpC) (n : Nat) : UP1 := fun A1 σ => match A1 with
  | [.int k] => SR σ s n ∧ FgR σ 0 ∧ frR σ ≠ []
  | _ => False
def Qv_declaration (s : SpC) (n : Nat) : UQ1 := fun A1 σ w τ => match A1 with
  | [.int k] => (w = some (.int 0) ∧ FlR τ (varY n s)) ∨ (w = some (.int 1) ∧ SR τ (varY n s) n ∧ FgR τ 0 ∧ frR τ = frR σ ∧ gI τ 49 = gI σ 49)
  | _ => False
def Qw_declaration : UQ1 := fun A1 σ w τ => ∀ (s : SpC) (n : Nat), Pv_declaration s n A1 σ → Qv_declaration s n A1 σ w τ
set_option maxRecDepth 100000 in
set_option maxHeartbeats 4000000 in
theorem v_declaration (s : SpC) (n : Nat) : UMet 48 (Pv_declaration s n) (Qv_declaration s n) := by sorry
theorem w_declaration : UMet 48 (fun _ _ => True) Qw_declaration := fun A1 σ _ w τ h s n hP => v_declaration s n A1 σ hP w τ h
def Pv_told (s : SpC) (n : Nat) : UP1 := fun A1 σ => match A1 with
  | [] => SR σ s n ∧ FgR σ 0 ∧ frR σ ≠ []
  | _ => False
def Qv_told (s : SpC) (n : Nat) : UQ1 := fun A1 σ w τ => match A1 with
  | [] => (w = some (.int 0) ∧ FlR τ (xpY 4 (varY n s))) ∨ (w = some (.int 1) ∧ SR τ (xpY 4 (varY n s)) n ∧ FgR τ 0 ∧ frR τ = frR σ ∧ gI τ 49 = gI σ 49)
  | _ => False
def Qw_told : UQ1 := fun A1 σ w τ => ∀ (s : SpC) (n : Nat), Pv_told s n A1 σ → Qv_told s n A1 σ w τ
set_option maxRecDepth 100000 in
set_option maxHeartbeats 4000000 in
theorem v_told (s : SpC) (n : Nat) : UMet 47 (Pv_told s n) (Qv_told s n) := by sorry
theorem w_told : UMet 47 (fun _ _ => True) Qw_told := fun A1 σ _ w τ h s n hP => v_told s n A1 σ hP w τ h
def Pv_exps (s : SpC) (n : Nat) : UP1 := fun A1 σ => match A1 with
  | [] => SR σ s n ∧ FgR σ 0
  | _ => False
def Qv_exps (s : SpC) (n : Nat) : UQ1 := fun A1 σ w τ => match A1 with
  | [] => (w = some (.int 0) ∧ FlR τ (fexY n s)) ∨ (w = some (.int 1) ∧ SR τ (fexY n s) n ∧ FgR τ 0 ∧ frR τ = frR σ ∧ gI τ 49 = gI σ 49)
  | _ => False
def Qw_exps : UQ1 := fun A1 σ w τ => ∀ (s : SpC) (n : Nat), Pv_exps s n A1 σ → Qv_exps s n A1 σ w τ
set_option maxRecDepth 100000 in
set_option maxHeartbeats 4000000 in
theorem v_exps (s : SpC) (n : Nat) : UMet 56 (Pv_exps s n) (Qv_exps s n) := by sorry
theorem w_exps : UMet 56 (fun _ _ => True) Qw_exps := fun A1 σ _ w τ h s n hP => v_exps s n A1 σ hP w τ h
theorem sf_e2 {F : List Int} {n : Nat} {s : SpC} (hc : codY s = 57) : sfY ((2 : Int32).toInt :: F) n s = sfY (3 :: F) n (stY n (accY s)) := sf_else hc
theorem sf_do2 {F : List Int} {n : Nat} {s : SpC} : sfY ((5 : Int32).toInt :: F) n s = sfY F (n + 1) (xpY 4 (cndY (n + 1) (xpY 58 s))) := rfl
theorem sf_p2 {F : List Int} {n : Nat} {s : SpC} {T : Int32} (h : T = 3 ∨ T = 4 ∨ T = 6 ∨ T = 7) : sfY (T.toInt :: F) n s = sfY F (n + 1) s := by sorry
theorem sf_i2 {F : List Int} {n : Nat} {s : SpC} {T : Int32} (h : T = 2) (hc : ¬ codY s = 57) : sfY (T.toInt :: F) n s = sfY F (n + 1) s := by sorry
theorem tt_in {σ : RS} {s : SpC} {n e : Nat} {F : List Int} {T : Int32} (h : SRx e σ s n) (p : frR σ = T.toInt :: F) : 0 ≤ T ∧ T ≤ 11 := by sorry
def Pv_finished (s : SpC) (n : Nat) : UP1 := fun A1 σ => match A1 with
  | [] => SR σ s n ∧ FgR σ 0
  | _ => False
def Qv_finished (s : SpC) (n : Nat) : UQ1 := fun A1 σ w τ => match A1 with
  | [] => StQ τ (sfY (frR σ) n s) w
  | _ => False
def Qw_finished : UQ1 := fun A1 σ w τ => ∀ (s : SpC) (n : Nat), Pv_finished s n A1 σ → Qv_finished s n A1 σ w τ
set_option maxRecDepth 100000 in
set_option maxHeartbeats 4000000 in
theorem v_finished (s : SpC) (n : Nat) : UMet 69 (Pv_finished s n) (Qv_finished s n) := by sorry
theorem w_finished : UMet 69 (fun _ _ => True) Qw_finished := fun A1 σ _ w τ h s n hP => v_finished s n A1 σ hP w τ h
theorem cg_st {F : List Int} {n : Nat} {s t : SpC} (h : stY n s = t) : sfY F n (stY n s) = sfY F n t := by sorry
theorem n1 {n : Nat} (h : 1 ≤ n) : n - 1 + 1 = n := by sorry
theorem st_blk' {F : List Int} {n : Nat} {s : SpC} (hn : 1 ≤ n) (hc : codY s = 2) : sfY F n (stY n s) = sfY F n (xpY 3 (rwY (n - 1) 0 (accY s))) := by sorry
theorem st_if' {F : List Int} {n : Nat} {s : SpC} (hn : 1 ≤ n) (hc : codY s = 56) : sfY F n (stY n s) = sfY (2 :: F) (n - 1) (stY (n - 1) (cndY n (accY s))) := by sorry
theorem st_whi' {F : List Int} {n : Nat} {s : SpC} (hn : 1 ≤ n) (hc : codY s = 58) : sfY F n (stY n s) = sfY (4 :: F) (n - 1) (stY (n - 1) (cndY n (accY s))) := by sorry
theorem st_do' {F : List Int} {n : Nat} {s : SpC} (hn : 1 ≤ n) (hc : codY s = 59) : sfY F n (stY n s) = sfY (5 :: F) (n - 1) (stY (n - 1) (accY s)) := by sorry
theorem st_for' {F : List Int} {n : Nat} {s : SpC} (hn : 1 ≤ n) (hc : codY s = 60) : sfY F n (stY n s) = sfY (6 :: F) (n - 1) (stY (n - 1) (xpY 1 (fo3Y n (xpY 4 (fo2Y n (xpY 4 (fo1Y n (xpY 0 (accY s))))))))) := by sorry
theorem st_swi' {F : List Int} {n : Nat} {s : SpC} (hn : 1 ≤ n) (hc : codY s = 61) : sfY F n (stY n s) = sfY F n (xpY 3 (rwY (n - 1) 1 (xpY 2 (cndY n (accY s))))) := by sorry
theorem st_try' {F : List Int} {n : Nat} {s : SpC} (hn : 1 ≤ n) (hc : codY s = 68) : sfY F n (stY n s) = sfY F n (tr3Y (rwY (n - 1)) (tr2Y (rwY (n - 1)) (tr1Y (xpY 3 (rwY (n - 1) 0 (xpY 2 (accY s))))))) := by sorry
theorem st_lab' {F : List Int} {n : Nat} {s : SpC} (hn : 1 ≤ n) (hc : codY s = 80) (hb : cobY s = 6) : sfY F n (stY n s) = sfY (7 :: F) (n - 1) (stY (n - 1) (xpY 6 (accY s))) := by sorry
theorem st_sim' {n : Nat} {s : SpC} (hn : 1 ≤ n) (hc : codY s = 64 ∨ codY s = 65 ∨ codY s = 66 ∨ codY s = 67) : stY n s = xpY 4 (si3Y (codY s) (si2Y n (codY s) (accY s))) := by sorry
theorem st_emp' {n : Nat} {s : SpC} (hn : 1 ≤ n) (hc : codY s = 4) : stY n s = accY s := by sorry
theorem st_exp' {n : Nat} {s : SpC} (hn : 1 ≤ n) (h : ¬ codY s = 56 ∧ ¬ codY s = 58 ∧ ¬ codY s = 59 ∧ ¬ codY s = 60 ∧ ¬ codY s = 61 ∧ ¬ codY s = 68 ∧ ¬ codY s = 2 ∧ ¬ codY s = 4 ∧ ¬ codY s = 64 ∧ ¬ codY s = 65 ∧ ¬ codY s = 66 ∧ ¬ codY s = 67) (hb : ¬ (codY s = 80 ∧ cobY s = 6)) : stY n s = xpY 4 (eY n s) := by sorry
theorem cl_rw' {k : Int} {F : List Int} {n : Nat} {s : SpC} (hn : 2 ≤ n) (hk : k = 0 ∨ k = 1 ∨ k = 8 ∨ k = 11) : sfY F n (xpY 3 (rwY (n - 1) (swY k) s)) = pcY 1 (k :: F) (n - 1) s := by sorry
theorem cl_rw9' {F : List Int} {n : Nat} {s : SpC} (hn : 2 ≤ n) : sfY F n (tr3Y (rwY (n - 1)) (tr2Y (rwY (n - 1)) (tr1Y (xpY 3 (rwY (n - 1) 0 s))))) = pcY 1 (9 :: F) (n - 1) s := by sorry
theorem rw_0 {n : Nat} {sw : Int} {s : SpC} (h : n = 1) : rwY (n - 1) sw s = raiY 3 s := by sorry
theorem st_0 {n : Nat} {s : SpC} (h : n = 1) : stY (n - 1) s = raiY 3 s := by sorry
theorem kthx {a b : Nat} (h : b = a + 1) : a < b := by sorry
def Pv_closed (s : SpC) (n : Nat) : UP1 := fun A1 σ => match A1 with
  | [.int step] => SR σ s n ∧ 0 < gI σ 62
  | _ => False
def Qv_closed (s : SpC) (n : Nat) : UQ1 := fun A1 σ w τ => match A1 with
  | [.int step] => StQ τ (sfY (frR σ).tail (n + 1) s) w
  | _ => False
def Qw_closed : UQ1 := fun A1 σ w τ => ∀ (s : SpC) (n : Nat), Pv_closed s n A1 σ → Qv_closed s n A1 σ w τ
set_option maxRecDepth 100000 in
set_option maxHeartbeats 4000000 in
theorem v_closed (s : SpC) (n : Nat) : UMet 61 (Pv_closed s n) (Qv_closed s n) := by sorry
theorem w_closed : UMet 61 (fun _ _ => True) Qw_closed := fun A1 σ _ w τ h s n hP => v_closed s n A1 σ hP w τ h
def Pv_plain (s : SpC) (n : Nat) : UP1 := fun A1 σ => match A1 with
  | [] => SR σ s n ∧ FgR σ 0 ∧ frR σ ≠ [] ∧ (¬ codY s = 56 ∧ ¬ codY s = 58 ∧ ¬ codY s = 59 ∧ ¬ codY s = 60 ∧ ¬ codY s = 61 ∧ ¬ codY s = 68 ∧ ¬ codY s = 2 ∧ ¬ codY s = 64 ∧ ¬ codY s = 65 ∧ ¬ codY s = 66 ∧ ¬ codY s = 67 ∧ ¬ (codY s = 80 ∧ cobY s = 6))
  | _ => False
def Qv_plain (s : SpC) (n : Nat) : UQ1 := fun A1 σ w τ => match A1 with
  | [] => StQ τ (sfY (frR σ) n (stY n s)) w
  | _ => False
def Qw_plain : UQ1 := fun A1 σ w τ => ∀ (s : SpC) (n : Nat), Pv_plain s n A1 σ → Qv_plain s n A1 σ w τ
set_option maxRecDepth 100000 in
set_option maxHeartbeats 4000000 in
theorem v_plain (s : SpC) (n : Nat) : UMet 50 (Pv_plain s n) (Qv_plain s n) := by sorry
theorem w_plain : UMet 50 (fun _ _ => True) Qw_plain := fun A1 σ _ w τ h s n hP => v_plain s n A1 σ hP w τ h
def Pv_ifOf (s : SpC) (n : Nat) : UP1 := fun A1 σ => match A1 with
  | [] => SR σ s n ∧ FgR σ 0 ∧ frR σ ≠ [] ∧ codY s = 56
  | _ => False
def Qv_ifOf (s : SpC) (n : Nat) : UQ1 := fun A1 σ w τ => match A1 with
  | [] => StQ τ (sfY (frR σ) n (stY n s)) w
  | _ => False
def Qw_ifOf : UQ1 := fun A1 σ w τ => ∀ (s : SpC) (n : Nat), Pv_ifOf s n A1 σ → Qv_ifOf s n A1 σ w τ
set_option maxRecDepth 100000 in
set_option maxHeartbeats 4000000 in
theorem v_ifOf (s : SpC) (n : Nat) : UMet 53 (Pv_ifOf s n) (Qv_ifOf s n) := by sorry
theorem w_ifOf : UMet 53 (fun _ _ => True) Qw_ifOf := fun A1 σ _ w τ h s n hP => v_ifOf s n A1 σ hP w τ h
def Pv_whileOf (s : SpC) (n : Nat) : UP1 := fun A1 σ => match A1 with
  | [] => SR σ s n ∧ FgR σ 0 ∧ frR σ ≠ [] ∧ codY s = 58
  | _ => False
def Qv_whileOf (s : SpC) (n : Nat) : UQ1 := fun A1 σ w τ => match A1 with
  | [] => StQ τ (sfY (frR σ) n (stY n s)) w
  | _ => False
def Qw_whileOf : UQ1 := fun A1 σ w τ => ∀ (s : SpC) (n : Nat), Pv_whileOf s n A1 σ → Qv_whileOf s n A1 σ w τ
set_option maxRecDepth 100000 in
set_option maxHeartbeats 4000000 in
theorem v_whileOf (s : SpC) (n : Nat) : UMet 54 (Pv_whileOf s n) (Qv_whileOf s n) := by sorry
theorem w_whileOf : UMet 54 (fun _ _ => True) Qw_whileOf := fun A1 σ _ w τ h s n hP => v_whileOf s n A1 σ hP w τ h
def Pv_doOf (s : SpC) (n : Nat) : UP1 := fun A1 σ => match A1 with
  | [] => SR σ s n ∧ FgR σ 0 ∧ frR σ ≠ [] ∧ codY s = 59
  | _ => False
def Qv_doOf (s : SpC) (n : Nat) : UQ1 := fun A1 σ w τ => match A1 with
  | [] => StQ τ (sfY (frR σ) n (stY n s)) w
  | _ => False
def Qw_doOf : UQ1 := fun A1 σ w τ => ∀ (s : SpC) (n : Nat), Pv_doOf s n A1 σ → Qv_doOf s n A1 σ w τ
set_option maxRecDepth 100000 in
set_option maxHeartbeats 4000000 in
theorem v_doOf (s : SpC) (n : Nat) : UMet 55 (Pv_doOf s n) (Qv_doOf s n) := by sorry
theorem w_doOf : UMet 55 (fun _ _ => True) Qw_doOf := fun A1 σ _ w τ h s n hP => v_doOf s n A1 σ hP w τ h
def Pv_tryOf (s : SpC) (n : Nat) : UP1 := fun A1 σ => match A1 with
  | [] => SR σ s n ∧ FgR σ 0 ∧ frR σ ≠ [] ∧ codY s = 68
  | _ => False
def Qv_tryOf (s : SpC) (n : Nat) : UQ1 := fun A1 σ w τ => match A1 with
  | [] => StQ τ (sfY (frR σ) n (stY n s)) w
  | _ => False
def Qw_tryOf : UQ1 := fun A1 σ w τ => ∀ (s : SpC) (n : Nat), Pv_tryOf s n A1 σ → Qv_tryOf s n A1 σ w τ
set_option maxRecDepth 100000 in
set_option maxHeartbeats 4000000 in
theorem v_tryOf (s : SpC) (n : Nat) : UMet 66 (Pv_tryOf s n) (Qv_tryOf s n) := by sorry
theorem w_tryOf : UMet 66 (fun _ _ => True) Qw_tryOf := fun A1 σ _ w τ h s n hP => v_tryOf s n A1 σ hP w τ h
theorem fo1_t {n : Nat} {t : SpC} (h : codY t = 71 ∨ (50 ≤ codY t ∧ codY t ≤ 54)) : fo1Y n t = varY n t := by sorry
theorem fo1_e {n : Nat} {t : SpC} (h : codY t = 4) : fo1Y n t = t := by sorry
theorem fo1_x {n : Nat} {t : SpC} (h : ¬ (codY t = 71 ∨ (50 ≤ codY t ∧ codY t ≤ 54))) (h4 : ¬ codY t = 4) : fo1Y n t = fexY n t := by sorry
theorem fo2_e {n : Nat} {t : SpC} (h : codY t = 4) : fo2Y n t = t := by sorry
theorem fo2_x {n : Nat} {t : SpC} (h : ¬ codY t = 4) : fo2Y n t = eY n t := by sorry
theorem fo3_e {n : Nat} {t : SpC} (h : codY t = 1) : fo3Y n t = t := by sorry
theorem fo3_x {n : Nat} {t : SpC} (h : ¬ codY t = 1) : fo3Y n t = fexY n t := by sorry
theorem sw_ng {τE τT τ1 τ2 τ3 τ4 : RS} {a : Int32} {f : Nat → Int32} (hT : Th τE τT) (s1 : S1 14 τT τ1) (k : KR τ1 τ2) (e : Em τ2 37 a τ3) (s2 : S1 14 (sA τ3 52 f) τ4) : nT (aI τ4 51 (nT (gI τE 49))) ≤ nT (gI τ4 18) ∧ ¬ gR τ4 (gI τE 49) := by sorry
/-- a case or default is told -/
theorem Fg_cas {σ τ υ : RS} {s : SpC} {n : Nat} {op : Int32} (h : SR σ s n) (e62 : gI τ 62 = gI σ 62) (a63 : aI τ 63 = aI σ 63) (a64 : aI τ 64 = aI σ 64) (a51 : aI τ 51 = aI σ 51) (le : nT (gI σ 18) ≤ nT (gI τ 18)) (e : Em τ op (aI σ 64 (gI σ 62 - 1).toNatClampNeg) υ) (ho : op = 38 ∨ op = 39) (h0 : 0 < gI σ 62) (h8 : aI σ 63 (gI σ 62 - 1).toNatClampNeg = 8) : FgR υ 0 := by sorry
/-- try, catch, finally behind their rows -/
def ctY (k : Int) (F : List Int) (n : Nat) (s : SpC) : SpC := if k = 9 then sfY F (n + 1) (tr3Y (rwY n) (tr2Y (rwY n) (tr1Y s))) else if k = 10 then sfY F (n + 1) (tr3Y (rwY n) s) else sfY F (n + 1) s
theorem cl_ct {k : Int} {F : List Int} {n : Nat} {s : SpC} (hc : codY s = 3) : clY k F n s = ctY k F n (accY s) := by sorry
theorem ct_9 {F : List Int} {n : Nat} {s : SpC} {k : Int32} (h : k = 9) : ctY k.toInt F n s = sfY F (n + 1) (tr3Y (rwY n) (tr2Y (rwY n) (tr1Y s))) := by sorry
theorem ct_10 {F : List Int} {n : Nat} {s : SpC} {k : Int32} (h : k = 10) : ctY k.toInt F n s = sfY F (n + 1) (tr3Y (rwY n) s) := by sorry
theorem ct_11 {F : List Int} {n : Nat} {s : SpC} {k : Int32} (h : k = 11) : ctY k.toInt F n s = sfY F (n + 1) s := by sorry
theorem cs_j {n : Nat} {s : SpC} (hn : 1 ≤ n) (hc : codY s = 64 ∨ codY s = 65) : stY n s = xpY 4 (if codY (accY s) = 80 then accY (accY s) else accY s) := by sorry
theorem cs_r {n : Nat} {s : SpC} (hn : 1 ≤ n) (hc : codY s = 66) : stY n s = xpY 4 (if codY (accY s) = 4 then accY s else eY n (accY s)) := by sorry
theorem cs_t {n : Nat} {s : SpC} (hn : 1 ≤ n) (hc : codY s = 67) : stY n s = xpY 4 (eY n (accY s)) := by sorry
theorem cas_y {n : Nat} {s : SpC} (h : codY s = 62) : casY n s = xpY 6 (eY n (accY s)) := by sorry
theorem cas_n {n : Nat} {s : SpC} (h : ¬ codY s = 62) : casY n s = xpY 6 (accY s) := by sorry
def Pv_forOf (s : SpC) (n : Nat) : UP1 := fun A1 σ => match A1 with
  | [] => SR σ s n ∧ FgR σ 0 ∧ frR σ ≠ [] ∧ codY s = 60
  | _ => False
def Qv_forOf (s : SpC) (n : Nat) : UQ1 := fun A1 σ w τ => match A1 with
  | [] => StQ τ (sfY (frR σ) n (stY n s)) w
  | _ => False
def Qw_forOf : UQ1 := fun A1 σ w τ => ∀ (s : SpC) (n : Nat), Pv_forOf s n A1 σ → Qv_forOf s n A1 σ w τ
set_option maxRecDepth 100000 in
set_option maxHeartbeats 4000000 in
theorem v_forOf (s : SpC) (n : Nat) : UMet 57 (Pv_forOf s n) (Qv_forOf s n) := by sorry
theorem w_forOf : UMet 57 (fun _ _ => True) Qw_forOf := fun A1 σ _ w τ h s n hP => v_forOf s n A1 σ hP w τ h
def Pv_switchOf (s : SpC) (n : Nat) : UP1 := fun A1 σ => match A1 with
  | [] => SR σ s n ∧ FgR σ 0 ∧ frR σ ≠ [] ∧ codY s = 61
  | _ => False
def Qv_switchOf (s : SpC) (n : Nat) : UQ1 := fun A1 σ w τ => match A1 with
  | [] => StQ τ (sfY (frR σ) n (stY n s)) w
  | _ => False
def Qw_switchOf : UQ1 := fun A1 σ w τ => ∀ (s : SpC) (n : Nat), Pv_switchOf s n A1 σ → Qv_switchOf s n A1 σ w τ
set_option maxRecDepth 100000 in
set_option maxHeartbeats 4000000 in
theorem v_switchOf (s : SpC) (n : Nat) : UMet 58 (Pv_switchOf s n) (Qv_switchOf s n) := by sorry
theorem w_switchOf : UMet 58 (fun _ _ => True) Qw_switchOf := fun A1 σ _ w τ h s n hP => v_switchOf s n A1 σ hP w τ h
def Pv_label (s : SpC) (n : Nat) : UP1 := fun A1 σ => match A1 with
  | [] => SR σ s n ∧ 0 < gI σ 62 ∧ aI σ 63 (gI σ 62 - 1).toNatClampNeg = 8 ∧ (codY s = 62 ∨ codY s = 63)
  | _ => False
def Qv_label (s : SpC) (n : Nat) : UQ1 := fun A1 σ w τ => match A1 with
  | [] => (w = some (.int 0) ∧ FlR τ (casY n s)) ∨ (w = some (.int 1) ∧ SR τ (casY n s) n ∧ FgR τ 0 ∧ frR τ = frR σ)
  | _ => False
def Qw_label : UQ1 := fun A1 σ w τ => ∀ (s : SpC) (n : Nat), Pv_label s n A1 σ → Qv_label s n A1 σ w τ
set_option maxRecDepth 100000 in
set_option maxHeartbeats 4000000 in
theorem v_label (s : SpC) (n : Nat) : UMet 59 (Pv_label s n) (Qv_label s n) := by sorry
theorem w_label : UMet 59 (fun _ _ => True) Qw_label := fun A1 σ _ w τ h s n hP => v_label s n A1 σ hP w τ h
def Pv_closeSwitch (s : SpC) (n : Nat) : UP1 := fun A1 σ => match A1 with
  | [] => SR σ s n ∧ 0 < gI σ 62 ∧ codY s = 3
  | _ => False
def Qv_closeSwitch (s : SpC) (n : Nat) : UQ1 := fun A1 σ w τ => match A1 with
  | [] => StQ τ (sfY (frR σ).tail (n + 1) (accY s)) w
  | _ => False
def Qw_closeSwitch : UQ1 := fun A1 σ w τ => ∀ (s : SpC) (n : Nat), Pv_closeSwitch s n A1 σ → Qv_closeSwitch s n A1 σ w τ
set_option maxRecDepth 100000 in
set_option maxHeartbeats 4000000 in
theorem v_closeSwitch (s : SpC) (n : Nat) : UMet 60 (Pv_closeSwitch s n) (Qv_closeSwitch s n) := by sorry
theorem w_closeSwitch : UMet 60 (fun _ _ => True) Qw_closeSwitch := fun A1 σ _ w τ h s n hP => v_closeSwitch s n A1 σ hP w τ h
theorem ShR.nx {σ : RS} {s : SpC} (h : ShR σ s) (hc : codY s = 80) (hz : zAt s < 500) : gI σ 14 + 1 < gI σ 2 ∧ tkR (aI σ 3 (gI σ 14 + 1).toNatClampNeg).toInt (aI σ 6 (gI σ 14 + 1).toNatClampNeg).toInt (cobY s) := by sorry
theorem st_nf {n : Nat} {s : SpC} (hn : 1 ≤ n) (hc : codY s = 80) (z : zFt s = 0) (hf : ¬ zFt (accY s) = 0) : GpY (accY s) (stY n s) := by sorry
def Pv_jump (s : SpC) (n : Nat) : UP1 := fun A1 σ => match A1 with
  | [] => SR σ s n ∧ FgR σ 0 ∧ frR σ ≠ [] ∧ (codY s = 64 ∨ codY s = 65)
  | _ => False
def Qv_jump (s : SpC) (n : Nat) : UQ1 := fun A1 σ w τ => match A1 with
  | [] => StQ τ (sfY (frR σ) n (stY n s)) w
  | _ => False
def Qw_jump : UQ1 := fun A1 σ w τ => ∀ (s : SpC) (n : Nat), Pv_jump s n A1 σ → Qv_jump s n A1 σ w τ
set_option maxRecDepth 100000 in
set_option maxHeartbeats 4000000 in
theorem v_jump (s : SpC) (n : Nat) : UMet 62 (Pv_jump s n) (Qv_jump s n) := by sorry
theorem w_jump : UMet 62 (fun _ _ => True) Qw_jump := fun A1 σ _ w τ h s n hP => v_jump s n A1 σ hP w τ h
def Pv_gives (s : SpC) (n : Nat) : UP1 := fun A1 σ => match A1 with
  | [] => SR σ s n ∧ FgR σ 0 ∧ frR σ ≠ [] ∧ (codY s = 66 ∨ codY s = 67)
  | _ => False
def Qv_gives (s : SpC) (n : Nat) : UQ1 := fun A1 σ w τ => match A1 with
  | [] => StQ τ (sfY (frR σ) n (stY n s)) w
  | _ => False
def Qw_gives : UQ1 := fun A1 σ w τ => ∀ (s : SpC) (n : Nat), Pv_gives s n A1 σ → Qv_gives s n A1 σ w τ
set_option maxRecDepth 100000 in
set_option maxHeartbeats 4000000 in
theorem v_gives (s : SpC) (n : Nat) : UMet 65 (Pv_gives s n) (Qv_gives s n) := by sorry
theorem w_gives : UMet 65 (fun _ _ => True) Qw_gives := fun A1 σ _ w τ h s n hP => v_gives s n A1 σ hP w τ h
theorem gd_ct {k : Int} {F : List Int} {n : Nat} : GdY (ctY k F n) := by sorry
theorem ne_tail {σ : RS} {s : SpC} {n e : Nat} {F : List Int} {T : Int32} (h : SRx e σ s n) (p : frR σ = T.toInt :: F) (q : ¬ T = 0) : F ≠ [] := by sorry
theorem nil_tail {σ : RS} {s : SpC} {n e : Nat} {F : List Int} {T : Int32} (h : SRx e σ s n) (p : frR σ = T.toInt :: F) (q : T = 0) : F = [] := by sorry
theorem th_top {σ : RS} {s : SpC} {n e : Nat} (h : SRx e σ s n) (h0 : 0 < gI σ 62) : nT (aI σ 64 (gI σ 62 - 1).toNatClampNeg) < nT (gI σ 49) := by sorry
theorem Fg_not {σ : RS} {T : Int32} (h0 : 0 < gI σ 62) (hT : aI σ 63 (gI σ 62 - 1).toNatClampNeg = T) (q : ¬ T = 8) : FgR σ 0 := by sorry
theorem Fg_yes {σ : RS} {b : Int} (h : FgR σ b) (h0 : 0 < gI σ 62) (h8 : aI σ 63 (gI σ 62 - 1).toNatClampNeg = 8) (g : gR σ (aI σ 64 (gI σ 62 - 1).toNatClampNeg)) : b = 0 ∧ FgR σ 0 := by sorry
theorem Fg_no {σ : RS} {b : Int} (h : FgR σ b) (h0 : 0 < gI σ 62) (h8 : aI σ 63 (gI σ 62 - 1).toNatClampNeg = 8) (g : ¬ gR σ (aI σ 64 (gI σ 62 - 1).toNatClampNeg)) : b = 1 := by sorry
def Pv_closeTry (s : SpC) (n : Nat) : UP1 := fun A1 σ => match A1 with
  | [.int sort, .int k, .int step] => SR σ s n ∧ 0 < gI σ 62 ∧ aI σ 63 (gI σ 62 - 1).toNatClampNeg = sort ∧ (sort = 9 ∨ sort = 10 ∨ sort = 11) ∧ nT k < nT (gI σ 49)
  | _ => False
def Qv_closeTry (s : SpC) (n : Nat) : UQ1 := fun A1 σ w τ => match A1 with
  | [.int sort, .int k, .int step] => StQ τ (ctY sort.toInt (frR σ).tail n s) w
  | _ => False
def Qw_closeTry : UQ1 := fun A1 σ w τ => ∀ (s : SpC) (n : Nat), Pv_closeTry s n A1 σ → Qv_closeTry s n A1 σ w τ
set_option maxRecDepth 100000 in
set_option maxHeartbeats 4000000 in
theorem v_closeTry (s : SpC) (n : Nat) : UMet 68 (Pv_closeTry s n) (Qv_closeTry s n) := by sorry
theorem w_closeTry : UMet 68 (fun _ _ => True) Qw_closeTry := fun A1 σ _ w τ h s n hP => v_closeTry s n A1 σ hP w τ h
def Pv_closeRow (s : SpC) (n : Nat) : UP1 := fun A1 σ => match A1 with
  | [.int sort] => SR σ s n ∧ 0 < gI σ 62 ∧ aI σ 63 (gI σ 62 - 1).toNatClampNeg = sort ∧ (sort = 0 ∨ sort = 1 ∨ sort = 9 ∨ sort = 10 ∨ sort = 11) ∧ codY s = 3
  | _ => False
def Qv_closeRow (s : SpC) (n : Nat) : UQ1 := fun A1 σ w τ => match A1 with
  | [.int sort] => StQ τ (clY sort.toInt (frR σ).tail n s) w
  | _ => False
def Qw_closeRow : UQ1 := fun A1 σ w τ => ∀ (s : SpC) (n : Nat), Pv_closeRow s n A1 σ → Qv_closeRow s n A1 σ w τ
set_option maxRecDepth 100000 in
set_option maxHeartbeats 4000000 in
theorem v_closeRow (s : SpC) (n : Nat) : UMet 67 (Pv_closeRow s n) (Qv_closeRow s n) := by sorry
theorem w_closeRow : UMet 67 (fun _ _ => True) Qw_closeRow := fun A1 σ _ w τ h s n hP => v_closeRow s n A1 σ hP w τ h
def Pv_statement (s : SpC) (n : Nat) : UP1 := fun A1 σ => match A1 with
  | [] => SR σ s n ∧ FgR σ 0 ∧ frR σ ≠ []
  | _ => False
def Qv_statement (s : SpC) (n : Nat) : UQ1 := fun A1 σ w τ => match A1 with
  | [] => StQ τ (sfY (frR σ) n (stY n s)) w
  | _ => False
def Qw_statement : UQ1 := fun A1 σ w τ => ∀ (s : SpC) (n : Nat), Pv_statement s n A1 σ → Qv_statement s n A1 σ w τ
set_option maxRecDepth 100000 in
set_option maxHeartbeats 4000000 in
theorem v_statement (s : SpC) (n : Nat) : UMet 49 (Pv_statement s n) (Qv_statement s n) := by sorry
theorem w_statement : UMet 49 (fun _ _ => True) Qw_statement := fun A1 σ _ w τ h s n hP => v_statement s n A1 σ hP w τ h
theorem tt_st {σ : RS} {s : SpC} {n e : Nat} {F : List Int} {T : Int32} (h : SRx e σ s n) (p : frR σ = T.toInt :: F) (q : ¬ (T = 0 ∨ T = 1 ∨ 9 ≤ T)) (q8 : ¬ T = 8) : T.toInt = 2 ∨ T.toInt = 3 ∨ T.toInt = 4 ∨ T.toInt = 5 ∨ T.toInt = 6 ∨ T.toInt = 7 := by sorry
def Pv_piece (s : SpC) (n : Nat) (b : Int) : UP1 := fun A1 σ => match A1 with
  | [] => SR σ s n ∧ FgR σ b ∧ 0 < gI σ 62
  | _ => False
def Qv_piece (s : SpC) (n : Nat) (b : Int) : UQ1 := fun A1 σ w τ => match A1 with
  | [] => StQ τ (pcY b (frR σ) n s) w
  | _ => False
def Qw_piece : UQ1 := fun A1 σ w τ => ∀ (s : SpC) (n : Nat) (b : Int), Pv_piece s n b A1 σ → Qv_piece s n b A1 σ w τ
set_option maxRecDepth 100000 in
set_option maxHeartbeats 4000000 in
theorem v_piece (s : SpC) (n : Nat) (b : Int) : UMet 44 (Pv_piece s n b) (Qv_piece s n b) := by sorry
theorem w_piece : UMet 44 (fun _ _ => True) Qw_piece := fun A1 σ _ w τ h s n b hP => v_piece s n b A1 σ hP w τ h
/-! params, methods -/
theorem gd_pa2 {i : Nat} {ty f : Int} : GdY (pa2Y i ty f) := by sorry
theorem gd_pa1 {i : Nat} : GdY (pa1Y i) := by sorry
theorem gd_pal : ∀ f i, GdY (palY f i) := by sorry
theorem gd_par : GdY parY := by sorry
theorem gd_me2 : GdY me2Y := by sorry
theorem gd_me3 {ty : Int} : GdY (me3Y ty) := by sorry
theorem pa1_1 {i : Nat} {s : SpC} (h : codY s = 71) : pa1Y i s = pa2Y i (tyvY (accY s)) 1 (typY (accY s)) := by sorry
theorem pa1_0 {i : Nat} {s : SpC} (h : ¬ codY s = 71) : pa1Y i s = pa2Y i (tyvY s) 0 (typY s) := by sorry
theorem pa2_y {i : Nat} {ty f : Int} {s : SpC} (h : i < 6) : pa2Y i ty f s = padY ty (dclY ty f 1 s) := by sorry
theorem pa2_n {i : Nat} {ty f : Int} {s : SpC} (h : ¬ i < 6) : pa2Y i ty f s = dclY ty f 0 s := by sorry
theorem pa2_8 {i : Nat} {ty f : Int} {s : SpC} (h : ¬ codY s = 80) : GpY (raiY 2 s) (pa2Y i ty f s) := by sorry
/-- a method's params are read: its row stands, it does not count yet -/
def PaR (σ : RS) (s : SpC) (i : Nat) : Prop := ShR σ s ∧ ((gI σ 17).toInt = 0 ∧ gI σ 62 = 0) ∧ VvR σ s ∧ (0 ≤ gI σ 36 ∧ gI σ 36 < 10) ∧ zMs s = mlR σ (nT (gI σ 36) + 1) ∧ (nT (aI σ 40 (nT (gI σ 36))) + i = nT (gI σ 42) ∧ aI σ 39 (nT (gI σ 36)) = Int32.ofInt i ∧ i ≤ 6) ∧ (∀ m, m < nT (gI σ 36) → nT (aI σ 40 m) + nT (aI σ 39 m) ≤ nT (gI σ 42))
theorem PaR.x {σ : RS} {s : SpC} {i : Nat} (h : PaR σ s i) : XrR σ σ s 21 := ⟨h.1, ⟨by rw [h.2.1.1]; rfl, by decide⟩, KR.rf⟩
theorem PaR.c {σ τ : RS} {s t : SpC} {i : Nat} (h : PaR σ s i) (x : ShR τ t) (e2 : t.2.1 = s.2.1) (e : ∀ k, k = 17 ∨ k = 62 ∨ k = 36 ∨ k = 42 → gI τ k = gI σ k) (r : ∀ k, 37 ≤ k ∧ k ≤ 46 → aI τ k = aI σ k) : PaR τ t i := by sorry
theorem PaR.s1 {σ τ : RS} {s : SpC} {i : Nat} (h : PaR σ s i) (x : XrR σ τ (accY s) 21) (s1 : S1 14 σ τ) : PaR τ (accY s) i := by sorry
theorem nT_of' {i : Nat} (h : i ≤ 7) : nT (Int32.ofInt i) = i := by sorry
theorem mlR_g {σ τ : RS} : ∀ n, (∀ m, m < n → aI τ 37 m = aI σ 37 m ∧ aI τ 38 m = aI σ 38 m ∧ plR (aI τ 44) (nT (aI τ 40 m)) (nT (aI τ 39 m)) = plR (aI σ 44) (nT (aI σ 40 m)) (nT (aI σ 39 m))) → mlR τ n = mlR σ n := by sorry
/-- a param more -/
theorem PaR.va {σ τ : RS} {s : SpC} {i : Nat} {ty f : Int32} (h : PaR σ s i) (hi : i < 6) (v : VaR (sA σ 39 (upd (aI σ 39) (nT (gI σ 36)) (Int32.ofInt i + 1))) τ ty f) (x : ShR τ (accY s)) : PaR τ (padY ty.toInt (accY (vadY ty.toInt f.toInt s))) (i + 1) := by sorry
theorem i6 {i : Nat} (h : i ≤ 6) : Int32.ofInt i = 6 ↔ i = 6 := by sorry
def Pv_param (s : SpC) (i : Nat) : UP1 := fun A1 σ => match A1 with
  | [.int m, .int k] => PaR σ s i ∧ m = gI σ 36
  | _ => False
def Qv_param (s : SpC) (i : Nat) : UQ1 := fun A1 σ w τ => match A1 with
  | [.int m, .int k] => (w = some (.int 0) ∧ FlR τ (pa1Y i s)) ∨ (w = some (.int 1) ∧ i < 6 ∧ PaR τ (pa1Y i s) (i + 1) ∧ gI τ 36 = gI σ 36 ∧ gI τ 49 = gI σ 49)
  | _ => False
def Qw_param : UQ1 := fun A1 σ w τ => ∀ (s : SpC) (i : Nat), Pv_param s i A1 σ → Qv_param s i A1 σ w τ
set_option maxRecDepth 100000 in
set_option maxHeartbeats 4000000 in
theorem v_param (s : SpC) (i : Nat) : UMet 39 (Pv_param s i) (Qv_param s i) := by sorry
theorem w_param : UMet 39 (fun _ _ => True) Qw_param := fun A1 σ _ w τ h s i hP => v_param s i A1 σ hP w τ h
def MhR (σ : RS) (s : SpC) : Prop := ShR σ s ∧ (gI σ 17).toInt = 0 ∧ MvR σ s
theorem MhR.x {σ : RS} {s : SpC} (h : MhR σ s) : XrR σ σ s 21 := ⟨h.1, ⟨by rw [h.2.1]; rfl, by decide⟩, KR.rf⟩
theorem MhR.s1 {σ τ : RS} {s : SpC} (h : MhR σ s) (x : XrR σ τ (accY s) 21) (s1 : S1 14 σ τ) : MhR τ (accY s) := by sorry
/-- a method's row -/
def mzR (σ : RS) (ty : Int32) : RS := sI (sA (sA (sA (sA σ 37 (upd (aI σ 37) (gI σ 36).toNatClampNeg (gI σ 14))) 38 (upd (aI σ 38) (gI σ 36).toNatClampNeg ty)) 39 (upd (aI σ 39) (gI σ 36).toNatClampNeg 0)) 40 (upd (aI σ 40) (gI σ 36).toNatClampNeg (gI σ 42))) 62 0
theorem PaR.new {σ τ : RS} {s : SpC} {ty : Int32} (h : MhR σ s) (h10 : ¬ gI σ 36 = 10) (e : Th (mzR σ ty) τ) : PaR τ (metY ty.toInt s) 0 := by sorry
/-- its body begins -/
theorem SR.new {σ : RS} {s : SpC} {i : Nat} {f : Nat → Int32} (h : PaR σ s i) : SR (sI (sA σ 41 f) 36 (gI σ 36 + 1)) s 21 ∧ FgR (sI (sA σ 41 f) 36 (gI σ 36 + 1)) 0 ∧ frR (sI (sA σ 41 f) 36 (gI σ 36 + 1)) = [] ∧ 0 < gI σ 36 + 1 := by sorry
theorem me1_y {s : SpC} (h : (50 ≤ codY s ∧ codY s ≤ 54) ∨ codY s = 55) : me1Y s = s := by sorry
theorem me1_n {s : SpC} (h : ¬ ((50 ≤ codY s ∧ codY s ≤ 54) ∨ codY s = 55)) : me1Y s = raiY 2 s := by sorry
theorem me2_n {s : SpC} (h : ¬ codY s = 80) : me2Y s = raiY 2 s := by sorry
theorem me2_3 {s : SpC} (h : codY s = 80) (h1 : 10 ≤ (zMs s).length) : me2Y s = raiY 3 s := by sorry
theorem me2_y {s : SpC} (h : codY s = 80) (h1 : ¬ 10 ≤ (zMs s).length) : me2Y s = s := by sorry
theorem me3_y {ty : Int} {s : SpC} (z : zFt s = 0) : me3Y ty s = xpY 3 (rwY 20 0 (xpY 2 (xpY 1 (pa3Y (xpY 0 (accY (metY ty s))))))) := by sorry
theorem pa3_y {s : SpC} (h : codY s = 1) : pa3Y s = s := by sorry
theorem pa3_n {s : SpC} (h : ¬ codY s = 1) : pa3Y s = palY 7 0 s := by sorry
theorem gd_pa3 : GdY pa3Y := by sorry
theorem pal_y {i : Nat} {s : SpC} (hi : i < 7) (h : codY (pa1Y i s) = 5) : palY (7 - i) i s = palY (7 - (i + 1)) (i + 1) (accY (pa1Y i s)) := by sorry
theorem pal_n {i : Nat} {s : SpC} (hi : i < 7) (h : ¬ codY (pa1Y i s) = 5) : palY (7 - i) i s = pa1Y i s := by sorry
theorem pal_g {i : Nat} {s : SpC} (hi : i < 7) : GpY (pa1Y i s) (palY (7 - i) i s) := by sorry
def bdY (s : SpC) : SpC := xpY 3 (rwY 20 0 (xpY 2 s))
theorem gd_bd : GdY bdY := fun s => ((gd_xp s).tr (gd_rw _)).tr (gd_xp _)
theorem bd_y {s : SpC} (h : codY s = 2) : bdY s = pcY 1 [0] 20 (accY s) := by sorry
theorem gd_prl : ∀ f, GdY (prlY f) := by sorry
theorem mh_len {σ : RS} {s : SpC} (h : MhR σ s) : (zMs s).length ≤ 10 := by sorry
def Pv_method (s : SpC) : UP1 := fun A1 σ => match A1 with
  | [] => MhR σ s
  | _ => False
def Qv_method (s : SpC) : UQ1 := fun A1 σ w τ => match A1 with
  | [] => (w = some (.int 0) ∧ FlR τ (mthY s)) ∨ (w = some (.int 1) ∧ MhR τ (mthY s))
  | _ => False
def Qw_method : UQ1 := fun A1 σ w τ => ∀ (s : SpC), Pv_method s A1 σ → Qv_method s A1 σ w τ
set_option maxRecDepth 100000 in
set_option maxHeartbeats 4000000 in
theorem v_method (s : SpC) : UMet 38 (Pv_method s) (Qv_method s) := by sorry
theorem w_method : UMet 38 (fun _ _ => True) Qw_method := fun A1 σ _ w τ h s hP => v_method s A1 σ hP w τ h
def Pv_parse (s : SpC) : UP1 := fun A1 σ => match A1 with
  | [] => ShR (sI (sI σ 14 0) 15 0) s ∧ Z0Y s
  | _ => False
def Qv_parse (s : SpC) : UQ1 := fun A1 σ w τ => match A1 with
  | [] => (w = some (.int 0) ∧ FlR τ (prlY 11 s)) ∨ (w = some (.int 1) ∧ MhR τ (prlY 11 s) ∧ codY (prlY 11 s) = 84)
  | _ => False
def Qw_parse : UQ1 := fun A1 σ w τ => ∀ (s : SpC), Pv_parse s A1 σ → Qv_parse s A1 σ w τ
set_option maxRecDepth 100000 in
set_option maxHeartbeats 4000000 in
theorem v_parse (s : SpC) : UMet 37 (Pv_parse s) (Qv_parse s) := by sorry
theorem w_parse : UMet 37 (fun _ _ => True) Qw_parse := fun A1 σ _ w τ h s hP => v_parse s A1 σ hP w τ h
/-! the reference cuts -/
def TxR (σ : RS) (x : TxY) : Prop := (gI σ 12).toInt = x.2 ∧ okY x ∧ ∀ j, (aI σ 0 j).toInt = x.1 j
def atR (v b : Int) : Prop := v = b ∨ (v = 0 ∧ b = -1)
theorem TxR.kp {σ τ : RS} {x : TxY} (h : TxR σ x) (e : gI τ 12 = gI σ 12) (a : aI τ 0 = aI σ 0) : TxR τ x := by sorry
theorem TxR.at0 {σ : RS} {x : TxY} (h : TxR σ x) {k : Int32} (h0 : 0 ≤ k) (hk : k < gI σ 12) : (aI σ 0 k.toNatClampNeg).toInt = btY x k.toInt := by sorry
theorem TxR.out {σ : RS} {x : TxY} (h : TxR σ x) {k : Int32} (hk : ¬ k < gI σ 12) : btY x k.toInt = -1 := by sorry
/-- what a token's cutting changes -/
def LkR (t : Nat) (σ τ : RS) : Prop := (∀ k, k ≠ 13 → gI τ k = gI σ k) ∧ (∀ k, k ≠ 3 → k ≠ 6 → k ≠ 8 → k ≠ 10 → k ≠ 11 → aI τ k = aI σ k) ∧ ∀ j, j ≠ t → aI τ 3 j = aI σ 3 j ∧ aI τ 6 j = aI σ 6 j
theorem LkR.rf {t : Nat} {σ : RS} : LkR t σ σ := by sorry
theorem LkR.i {t : Nat} {σ τ : RS} {v : Int32} (h : LkR t σ τ) : LkR t σ (sI τ 13 v) := by sorry
theorem LkR.m {t k : Nat} {σ τ : RS} {f : Nat → Int64} (h : LkR t σ τ) : LkR t σ (sM τ k f) := h
theorem LkR.a {t k : Nat} {σ τ : RS} {f : Nat → Int32} (h : LkR t σ τ) (hk : k = 8 ∨ k = 10 ∨ k = 11) : LkR t σ (sA τ k f) := by sorry
theorem LkR.u3 {t : Nat} {σ τ : RS} {v : Int32} (h : LkR t σ τ) : LkR t σ (sA τ 3 (upd (aI τ 3) t v)) := by sorry
theorem LkR.u6 {t : Nat} {σ τ : RS} {v : Int32} (h : LkR t σ τ) : LkR t σ (sA τ 6 (upd (aI τ 6) t v)) := by sorry
theorem i64_eq {x y : Int64} (h : lg_cmp x y = 0) : x = y := by sorry
def woR (v : Int64) : Int32 := if v = Int64.ofInt 27707072068280686 then 0 else if v = Int64.ofInt 1652126821 then 1 else if v = Int64.ofInt 1667785074 then 2 else if v = Int64.ofInt 6909556 then 3 else if v = Int64.ofInt 1819242087 then 4 else if v = Int64.ofInt 1987012964 then 5 else if v = Int64.ofInt 26982 then 6 else if v = Int64.ofInt 1701606245 then 7 else if v = Int64.ofInt 512852847717 then 8 else if v = Int64.ofInt 6713202 then 9 else if v = Int64.ofInt 25711 then 10 else if v = Int64.ofInt 126956707537768 then 11 else if v = Int64.ofInt 1667330917 then 12 else if v = Int64.ofInt 28258988067220596 then 13 else if v = Int64.ofInt 422826041707 then 14 else if v = Int64.ofInt 7165066978433856869 then 15 else if v = Int64.ofInt 125780071117422 then 16 else if v = Int64.ofInt 499968536439 then 17 else if v = Int64.ofInt 7631481 then 18 else if v = Int64.ofInt 426836779880 then 19 else if v = Int64.ofInt 28826370426301561 then 20 else if v = Int64.ofInt 439855505772 then 21 else if v = Int64.ofInt 1953658213 then 22 else if v = Int64.ofInt 439721161573 then 23 else -2
theorem wox {x y : Int64} : lg_cmp x y = 0 ↔ x = y := by sorry
/-- bytes of a NAME -/
abbrev alY (l : List Int) : Prop := ∀ d ∈ l, isLY d ∨ isDY d
theorem al_b {l : List Int} (h : alY l) : ∀ d ∈ l, 1 ≤ d ∧ d < 256 := fun d hd => by have := h d hd; omega
theorem atR.l {v b : Int} (h : atR v b) : (isLY v ↔ isLY b) ∧ (isDY v ↔ isDY b) ∧ (isLY v ∨ isDY v → v = b) := by sorry
theorem wo_c : ∀ (l : List Int) (v : Int64), alY l → l.length ≤ 8 → v.toInt = vlY 256 l → (woR v = -2 ∧ wcY l = 80) ∨ (0 ≤ woR v ∧ (woR v).toInt ≤ 23 ∧ wcY l = 50 + wdR (woR v).toInt) := by sorry
theorem wc_long {l : List Int} (h : 8 < l.length) : wcY l = 80 := by sorry
theorem pw (k : Nat) (h : k ≤ 6) : (256 : Int) ^ k ≤ 2 ^ 55 := by sorry
theorem hi_8 {h : Int64} {r : Int32} {a : Int} (hh : h.toInt = a) (h0 : 0 ≤ a) (h1 : a < 2 ^ 55) (r0 : 0 ≤ r.toInt ∧ r.toInt < 256) : (h <<< (Int32.toInt64 8 &&& 63) ||| r.toInt64).toInt = 256 * a + r.toInt := by sorry
theorem vl_lt : ∀ l : List Int, alY l → 2 * vlY 256 l + 1 ≤ 256 ^ l.length := by sorry
theorem nm_go {x : TxY} {e : Int} {l : List Int} (h : e < x.2) (hc : isLY (btY x e) ∨ isDY (btY x e)) : nmY x (x.2 - e).toNat e l = nmY x (x.2 - (e + 1)).toNat (e + 1) (btY x e :: l) := by sorry
theorem nm_no {x : TxY} {e : Int} {l : List Int} (hc : ¬ (isLY (btY x e) ∨ isDY (btY x e))) : nmY x (x.2 - e).toNat e l = (e, l) := by sorry
theorem bt_lt {x : TxY} {e : Int} (hc : 0 ≤ btY x e) : e < x.2 := by sorry
theorem i32_c {n : Int32} {a : Nat} (h : n.toInt = a) (k : Int32) : (n ≤ k ↔ (a : Int) ≤ k.toInt) ∧ (n < k ↔ (a : Int) < k.toInt) := by sorry
theorem i32_p {n : Int32} {a : Int} (h : n.toInt = a) (h0 : 0 ≤ a) (h1 : a ≤ 100000) : (n + 1).toInt = a + 1 := by sorry
theorem pw7 (k : Nat) (h : k ≤ 7) : (256 : Int) ^ k ≤ 2 ^ 56 := by sorry
def Pv_at : UP1 := fun A1 σ => match A1 with
  | [.int k] => True
  | _ => False
def Qv_at : UQ1 := fun A1 σ w τ => match A1 with
  | [.int k] => σ = τ ∧ ∃ r : Int32, w = some (.int r) ∧ ∀ x, TxR σ x → atR r.toInt (btY x k.toInt)
  | _ => False
def Qw_at : UQ1 := fun A1 σ w τ => Pv_at A1 σ → Qv_at A1 σ w τ
set_option maxRecDepth 100000 in
set_option maxHeartbeats 4000000 in
theorem v_at : UMet 3 (Pv_at) (Qv_at) := by sorry
theorem w_at : UMet 3 (fun _ _ => True) Qw_at := fun A1 σ _ w τ h hP => v_at A1 σ hP w τ h
def Pv_isLetter : UP1 := fun A1 σ => match A1 with
  | [.int b] => True
  | _ => False
def Qv_isLetter : UQ1 := fun A1 σ w τ => match A1 with
  | [.int b] => σ = τ ∧ ((w = some (.int 1) ∧ isLY b.toInt) ∨ (w = some (.int 0) ∧ ¬ (isLY b.toInt)))
  | _ => False
def Qw_isLetter : UQ1 := fun A1 σ w τ => Pv_isLetter A1 σ → Qv_isLetter A1 σ w τ
set_option maxRecDepth 100000 in
set_option maxHeartbeats 4000000 in
theorem v_isLetter : UMet 4 (Pv_isLetter) (Qv_isLetter) := by sorry
theorem w_isLetter : UMet 4 (fun _ _ => True) Qw_isLetter := fun A1 σ _ w τ h hP => v_isLetter A1 σ hP w τ h
def Pv_isDigit : UP1 := fun A1 σ => match A1 with
  | [.int b] => True
  | _ => False
def Qv_isDigit : UQ1 := fun A1 σ w τ => match A1 with
  | [.int b] => σ = τ ∧ ((w = some (.int 1) ∧ isDY b.toInt) ∨ (w = some (.int 0) ∧ ¬ (isDY b.toInt)))
  | _ => False
def Qw_isDigit : UQ1 := fun A1 σ w τ => Pv_isDigit A1 σ → Qv_isDigit A1 σ w τ
set_option maxRecDepth 100000 in
set_option maxHeartbeats 4000000 in
theorem v_isDigit : UMet 5 (Pv_isDigit) (Qv_isDigit) := by sorry
theorem w_isDigit : UMet 5 (fun _ _ => True) Qw_isDigit := fun A1 σ _ w τ h hP => v_isDigit A1 σ hP w τ h
def Pv_wordOf : UP1 := fun A1 σ => match A1 with
  | [.long v] => True
  | _ => False
def Qv_wordOf : UQ1 := fun A1 σ w τ => match A1 with
  | [.long v] => σ = τ ∧ w = some (.int (woR v))
  | _ => False
def Qw_wordOf : UQ1 := fun A1 σ w τ => Pv_wordOf A1 σ → Qv_wordOf A1 σ w τ
set_option maxRecDepth 100000 in
set_option maxHeartbeats 4000000 in
theorem v_wordOf : UMet 8 (Pv_wordOf) (Qv_wordOf) := by sorry
theorem w_wordOf : UMet 8 (fun _ _ => True) Qw_wordOf := fun A1 σ _ w τ h hP => v_wordOf A1 σ hP w τ h
def Pv_word (x : TxY) (i : Int) : UP1 := fun A1 σ => match A1 with
  | [.int t] => TxR σ x ∧ (gI σ 13).toInt = i ∧ 0 ≤ i ∧ i < x.2
  | _ => False
def Qv_word (x : TxY) (i : Int) : UQ1 := fun A1 σ w τ => match A1 with
  | [.int t] => w = none ∧ LkR t.toNatClampNeg σ τ ∧ (gI τ 13).toInt = (nmY x (x.2 - i).toNat i []).1 ∧ (10 < (nmY x (x.2 - i).toNat i []).1 - i → aI τ 3 t.toNatClampNeg = 6) ∧ (¬ 10 < (nmY x (x.2 - i).toNat i []).1 - i → tkR (aI τ 3 t.toNatClampNeg).toInt (aI τ 6 t.toNatClampNeg).toInt (wcY (nmY x (x.2 - i).toNat i []).2))
  | _ => False
def Qw_word : UQ1 := fun A1 σ w τ => ∀ (x : TxY) (i : Int), Pv_word x i A1 σ → Qv_word x i A1 σ w τ
set_option maxRecDepth 100000 in
set_option maxHeartbeats 4000000 in
theorem v_word (x : TxY) (i : Int) : UMet 7 (Pv_word x i) (Qv_word x i) := by sorry
theorem w_word : UMet 7 (fun _ _ => True) Qw_word := fun A1 σ _ w τ h x i hP => v_word x i A1 σ hP w τ h
theorem nd_go {x : TxY} {e : Int} (h : e < x.2) (hc : isDY (btY x e)) : ndY x (x.2 - e).toNat e = ndY x (x.2 - (e + 1)).toNat (e + 1) := by sorry
theorem nd_no {x : TxY} {e : Int} (hc : ¬ isDY (btY x e)) : ndY x (x.2 - e).toNat e = e := by sorry
theorem atR.e {v b k : Int} (h : atR v b) (h0 : k ≠ 0) (h1 : k ≠ -1) : v = k ↔ b = k := by sorry
theorem i32_k {v : Int32} {b : Int} (h : v.toInt = b) (k : Int32) : v = k ↔ b = k.toInt := by sorry
theorem i32_r {v k : Int32} {b : Int} (h : atR v.toInt b) (h0 : k.toInt ≠ 0) (h1 : k.toInt ≠ -1) : v = k ↔ b = k.toInt := by sorry
theorem i32_pk {n : Int32} {a : Int} {k : Int32} (h : n.toInt = a) (h0 : 0 ≤ a) (h1 : a ≤ 100000) (k0 : 0 ≤ k.toInt) (k1 : k.toInt ≤ 100) : (n + k).toInt = a + k.toInt := by sorry
theorem i32_le {k : Int32} (v : Int32) : k ≤ v ↔ k.toInt ≤ v.toInt := Int32.le_iff_toInt_le
def Pv_number (x : TxY) (i : Int) : UP1 := fun A1 σ => match A1 with
  | [.int t] => TxR σ x ∧ (gI σ 13).toInt = i ∧ 0 ≤ i ∧ i < x.2
  | _ => False
def Qv_number (x : TxY) (i : Int) : UQ1 := fun A1 σ w τ => match A1 with
  | [.int t] => w = none ∧ LkR t.toNatClampNeg σ τ ∧ (gI τ 13).toInt = (if btY x (ndY x (x.2 - i).toNat i) = 76 then ndY x (x.2 - i).toNat i + 1 else ndY x (x.2 - i).toNat i) ∧ (19 < ndY x (x.2 - i).toNat i - i → aI τ 3 t.toNatClampNeg = 6) ∧ (¬ 19 < ndY x (x.2 - i).toNat i - i → aI τ 3 t.toNatClampNeg = 2)
  | _ => False
def Qw_number : UQ1 := fun A1 σ w τ => ∀ (x : TxY) (i : Int), Pv_number x i A1 σ → Qv_number x i A1 σ w τ
set_option maxRecDepth 100000 in
set_option maxHeartbeats 4000000 in
theorem v_number (x : TxY) (i : Int) : UMet 9 (Pv_number x i) (Qv_number x i) := by sorry
theorem w_number : UMet 9 (fun _ _ => True) Qw_number := fun A1 σ _ w τ h x i hP => v_number x i A1 σ hP w τ h
def Pv_character (x : TxY) (i : Int) : UP1 := fun A1 σ => match A1 with
  | [.int t] => TxR σ x ∧ (gI σ 13).toInt = i ∧ 0 ≤ i ∧ i < x.2
  | _ => False
def Qv_character (x : TxY) (i : Int) : UQ1 := fun A1 σ w τ => match A1 with
  | [.int t] => w = none ∧ LkR t.toNatClampNeg σ τ ∧ (((32 ≤ btY x (i + 1) ∧ btY x (i + 1) ≤ 126 ∧ ¬ btY x (i + 1) = 39 ∧ ¬ btY x (i + 1) = 92 ∧ btY x (i + 2) = 39) ∧ aI τ 3 t.toNatClampNeg = 3 ∧ (gI τ 13).toInt = i + 3) ∨ (¬ (32 ≤ btY x (i + 1) ∧ btY x (i + 1) ≤ 126 ∧ ¬ btY x (i + 1) = 39 ∧ ¬ btY x (i + 1) = 92 ∧ btY x (i + 2) = 39) ∧ aI τ 3 t.toNatClampNeg = 6))
  | _ => False
def Qw_character : UQ1 := fun A1 σ w τ => ∀ (x : TxY) (i : Int), Pv_character x i A1 σ → Qv_character x i A1 σ w τ
set_option maxRecDepth 100000 in
set_option maxHeartbeats 4000000 in
theorem v_character (x : TxY) (i : Int) : UMet 10 (Pv_character x i) (Qv_character x i) := by sorry
theorem w_character : UMet 10 (fun _ _ => True) Qw_character := fun A1 σ _ w τ h x i hP => v_character x i A1 σ hP w τ h
/-- what stands in s, m behind the first bytes -/
def i277 (B C D : Int) (b s m : Int32) : Prop := (s = 306 ∧ m = 3 ∧ B = 62 ∧ C = 62 ∧ D = 62) ∨ (s = 305 ∧ m = 2 ∧ B = 62 ∧ C = 62 ∧ ¬ D = 62) ∨ (s = 304 ∧ m = 2 ∧ B = 60 ∧ C = 60) ∨ (s = 307 ∧ m = 2 ∧ B = 38 ∧ C = 38) ∨ (s = 308 ∧ m = 2 ∧ B = 124 ∧ C = 124) ∨ (s = 309 ∧ m = 2 ∧ B = 43 ∧ C = 43) ∨ (s = 310 ∧ m = 2 ∧ B = 45 ∧ C = 45) ∨ (s = 300 ∧ m = 2 ∧ B = 61 ∧ C = 61) ∨ (s = 301 ∧ m = 2 ∧ B = 33 ∧ C = 61) ∨ (s = 302 ∧ m = 2 ∧ B = 60 ∧ C = 61) ∨ (s = 303 ∧ m = 2 ∧ B = 62 ∧ C = 61) ∨
  (s = b ∧ m = 1 ∧ ¬ (B = 33 ∧ C = 61) ∧ ¬ (B = 38 ∧ C = 38) ∧ ¬ (B = 43 ∧ C = 43) ∧ ¬ (B = 45 ∧ C = 45) ∧ ¬ (B = 60 ∧ C = 60) ∧ ¬ (B = 60 ∧ C = 61) ∧ ¬ (B = 61 ∧ C = 61) ∧ ¬ (B = 62 ∧ C = 61) ∧ ¬ (B = 62 ∧ C = 62) ∧ ¬ (B = 124 ∧ C = 124))
abbrev plsY (b : Int) : Prop := b = 43 ∨ b = 45 ∨ b = 42 ∨ b = 47 ∨ b = 37 ∨ b = 38 ∨ b = 124 ∨ b = 94
/-- a token that is told by a sign -/
def sgR (p : Int × Int) (s m : Int32) : Prop := ¬ p.1 = 0 ∧ m.toInt = p.1 ∧ (s.toInt, p.2) ∈ sgT
theorem sg_nq {B C D E : Int} {b s m : Int32} (hb : b.toInt = B) (h : i277 B C D b s m) (hm : 1 < m) (he : (s = 306 → ¬ E = 61) ∧ (s = 305 ∨ s = 304 → ¬ D = 61)) : sgR (sgnY B C D E) s m := by sorry
theorem sg_one {B C D E : Int} {b s m : Int32} (h : i277 B C D b s m) (hm : m = 1) (hp : ¬ (plsY B ∧ C = 61)) : s = b ∧ sgnY B C D E = sg1Y B := by sorry
theorem sg_set {B C D E : Int} {b s m : Int32} (hb : b.toInt = B) (h5_ : B ≤ 255) (h : i277 B C D b s m) (he : (s = 306 ∧ E = 61) ∨ ((s = 305 ∨ s = 304) ∧ D = 61) ∨ (m = 1 ∧ plsY B ∧ C = 61)) : sgR (sgnY B C D E) (400 + s) (m + 1) := by sorry
theorem i277_m {B C D : Int} {b s m : Int32} (h : i277 B C D b s m) : (m = 1 ∧ s = b) ∨ (m = 2 ∧ ¬ s = 306) ∨ (m = 3 ∧ s = 306) := by sorry
theorem sg_pl {B : Int} {b : Int32} (hb : b.toInt = B) (h : plsY B) : sgR (sg1Y B) b 1 := by sorry
def Pv_sign (x : TxY) (i : Int) : UP1 := fun A1 σ => match A1 with
  | [.int t] => TxR σ x ∧ (gI σ 13).toInt = i ∧ 0 ≤ i ∧ i < x.2
  | _ => False
def Qv_sign (x : TxY) (i : Int) : UQ1 := fun A1 σ w τ => match A1 with
  | [.int t] => w = none ∧ LkR t.toNatClampNeg σ τ ∧ (((sgnY (btY x i) (btY x (i + 1)) (btY x (i + 2)) (btY x (i + 3))).1 = 0 ∧ aI τ 3 t.toNatClampNeg = 6) ∨ (¬ (sgnY (btY x i) (btY x (i + 1)) (btY x (i + 2)) (btY x (i + 3))).1 = 0 ∧ aI τ 3 t.toNatClampNeg = 5 ∧ ((aI τ 6 t.toNatClampNeg).toInt, (sgnY (btY x i) (btY x (i + 1)) (btY x (i + 2)) (btY x (i + 3))).2) ∈ sgT ∧ (gI τ 13).toInt = i + (sgnY (btY x i) (btY x (i + 1)) (btY x (i + 2)) (btY x (i + 3))).1))
  | _ => False
def Qw_sign : UQ1 := fun A1 σ w τ => ∀ (x : TxY) (i : Int), Pv_sign x i A1 σ → Qv_sign x i A1 σ w τ
set_option maxRecDepth 100000 in
set_option maxHeartbeats 4000000 in
theorem v_sign (x : TxY) (i : Int) : UMet 11 (Pv_sign x i) (Qv_sign x i) := by sorry
theorem w_sign : UMet 11 (fun _ _ => True) Qw_sign := fun A1 σ _ w τ h x i hP => v_sign x i A1 σ hP w τ h
/-- tokens 0 .. n - 1 -/
def TkL (τ : RS) (x : TxY) (n : Nat) : Prop := ∀ k, k < n → (aI τ 4 k).toInt = atY x k ∧ atY x k < x.2 ∧ ¬ (oneY x (atY x k)).1 = 0 ∧ tkR (aI τ 3 k).toInt (aI τ 6 k).toInt (oneY x (atY x k)).2 ∧ (aI τ 5 k).toInt = (oneY x (atY x k)).1
def FrL (σ τ : RS) : Prop := (∀ k, k ≠ 2 → k ≠ 12 → k ≠ 13 → gI τ k = gI σ k) ∧ ∀ k, k < 3 ∨ 11 < k → aI τ k = aI σ k
def LxQ (σ τ : RS) (x : TxY) : Prop := FrL σ τ ∧ ∃ n : Nat, (gI τ 2).toInt = n + 1 ∧ n ≤ 2500 ∧ TkL τ x n ∧ (aI τ 4 n).toInt = atY x n ∧ ((atY x n = x.2 ∧ aI τ 3 n = 0) ∨ (atY x n < x.2 ∧ (oneY x (atY x n)).1 = 0 ∧ aI τ 3 n = 6))
/-- the token n is cut -/
def TnL (τ : RS) (x : TxY) (n : Nat) : Prop := (atY x n = x.2 ∧ aI τ 3 n = 0) ∨ (atY x n < x.2 ∧ (oneY x (atY x n)).1 = 0 ∧ aI τ 3 n = 6) ∨ (atY x n < x.2 ∧ ¬ (oneY x (atY x n)).1 = 0 ∧ tkR (aI τ 3 n).toInt (aI τ 6 n).toInt (oneY x (atY x n)).2 ∧ (gI τ 13).toInt = atY x n + (oneY x (atY x n)).1)
theorem TkL.lk {σ τ : RS} {x : TxY} {n : Nat} (h : TkL σ x n) (l : LkR n σ τ) : TkL τ x n := by sorry
theorem FrL.rf {σ : RS} : FrL σ σ := ⟨fun _ _ _ _ => rfl, fun _ _ => rfl⟩
theorem FrL.i {σ τ : RS} {k : Nat} {v : Int32} (h : FrL σ τ) (hk : k = 2 ∨ k = 12 ∨ k = 13) : FrL σ (sI τ k v) := by sorry
theorem FrL.a {σ τ : RS} {k : Nat} {f : Nat → Int32} (h : FrL σ τ) (hk : 3 ≤ k ∧ k ≤ 11) : FrL σ (sA τ k f) := ⟨h.1, fun j hj => (aI_ne (by omega)).trans (h.2 j hj)⟩
theorem FrL.lk {σ τ υ : RS} {t : Nat} (h : FrL σ τ) (l : LkR t τ υ) : FrL σ υ := by sorry
theorem tk2 {w c : Int} (h : c = 81 ∨ c = 82) : tkR 2 w c := Or.inr (Or.inr (Or.inr (Or.inl ⟨rfl, h⟩)))
theorem tk3 {w : Int} : tkR 3 w 83 := Or.inr (Or.inr (Or.inr (Or.inr (Or.inl ⟨rfl, rfl⟩))))
theorem tk5 {w c : Int} (h : (w, c) ∈ sgT) : tkR 5 w c := by sorry
theorem tn_word {τ : RS} {x : TxY} {n : Nat} (ha : atY x n < x.2) (hc : isLY (btY x (atY x n))) (h1 : (gI τ 13).toInt = (nmY x (x.2 - atY x n).toNat (atY x n) []).1) (h2 : 10 < (nmY x (x.2 - atY x n).toNat (atY x n) []).1 - atY x n → aI τ 3 n = 6) (h3 : ¬ 10 < (nmY x (x.2 - atY x n).toNat (atY x n) []).1 - atY x n → tkR (aI τ 3 n).toInt (aI τ 6 n).toInt (wcY (nmY x (x.2 - atY x n).toNat (atY x n) []).2)) : TnL τ x n := by sorry
theorem tn_num {τ : RS} {x : TxY} {n : Nat} (ha : atY x n < x.2) (hl : ¬ isLY (btY x (atY x n))) (hc : isDY (btY x (atY x n))) (h1 : (gI τ 13).toInt = (if btY x (ndY x (x.2 - atY x n).toNat (atY x n)) = 76 then ndY x (x.2 - atY x n).toNat (atY x n) + 1 else ndY x (x.2 - atY x n).toNat (atY x n))) (h2 : 19 < ndY x (x.2 - atY x n).toNat (atY x n) - atY x n → aI τ 3 n = 6) (h3 : ¬ 19 < ndY x (x.2 - atY x n).toNat (atY x n) - atY x n → aI τ 3 n = 2) : TnL τ x n := by sorry
theorem tn_chr {τ : RS} {x : TxY} {n : Nat} (ha : atY x n < x.2) (hc : btY x (atY x n) = 39) (h : ((32 ≤ btY x (atY x n + 1) ∧ btY x (atY x n + 1) ≤ 126 ∧ ¬ btY x (atY x n + 1) = 39 ∧ ¬ btY x (atY x n + 1) = 92 ∧ btY x (atY x n + 2) = 39) ∧ aI τ 3 n = 3 ∧ (gI τ 13).toInt = atY x n + 3) ∨ (¬ (32 ≤ btY x (atY x n + 1) ∧ btY x (atY x n + 1) ≤ 126 ∧ ¬ btY x (atY x n + 1) = 39 ∧ ¬ btY x (atY x n + 1) = 92 ∧ btY x (atY x n + 2) = 39) ∧ aI τ 3 n = 6)) : TnL τ x n := by sorry
theorem tn_sgn {τ : RS} {x : TxY} {n : Nat} (ha : atY x n < x.2) (hl : ¬ isLY (btY x (atY x n))) (hd : ¬ isDY (btY x (atY x n))) (hc : ¬ btY x (atY x n) = 39) (h : ((sgnY (btY x (atY x n)) (btY x (atY x n + 1)) (btY x (atY x n + 2)) (btY x (atY x n + 3))).1 = 0 ∧ aI τ 3 n = 6) ∨ (¬ (sgnY (btY x (atY x n)) (btY x (atY x n + 1)) (btY x (atY x n + 2)) (btY x (atY x n + 3))).1 = 0 ∧ aI τ 3 n = 5 ∧ ((aI τ 6 n).toInt, (sgnY (btY x (atY x n)) (btY x (atY x n + 1)) (btY x (atY x n + 2)) (btY x (atY x n + 3))).2) ∈ sgT ∧ (gI τ 13).toInt = atY x n + (sgnY (btY x (atY x n)) (btY x (atY x n + 1)) (btY x (atY x n + 2)) (btY x (atY x n + 3))).1)) : TnL τ x n := by sorry
theorem wc_rg {l : List Int} : 50 ≤ wcY l ∧ wcY l ≤ 80 := by sorry
theorem sg1_rg {b : Int} : (0 ≤ (sg1Y b).2 ∧ (sg1Y b).2 ≤ 42) ∨ (sg1Y b = (0, 85)) := by sorry
theorem sgn_rg {b c d e : Int} : (0 ≤ (sgnY b c d e).2 ∧ (sgnY b c d e).2 ≤ 42) ∨ (sgnY b c d e = (0, 85)) := by sorry
theorem one_rg {x : TxY} {i : Int} : ¬ (oneY x i).2 = 84 ∧ ((oneY x i).2 = 85 → (oneY x i).1 = 0) := by sorry
theorem oneY_84 {x : TxY} {i : Int} (h : (oneY x i).2 = 84) : False := one_rg.1 h
theorem oneY_85 {x : TxY} {i : Int} (_ : i < x.2) (_ : 0 ≤ i) : (oneY x i).2 = 85 ↔ (oneY x i).2 = 85 ∧ (oneY x i).1 = 0 := ⟨fun q => ⟨q, one_rg.2 q⟩, fun q => q.1⟩
theorem sc_tn {τ : RS} {x : TxY} {n : Nat} (h : TnL τ x n) (h0 : 0 ≤ atY x n) (h1 : atY x n ≤ x.2) (hx : x.2 ≤ 2500) (hb : atY x n < x.2 → (gI τ 13).toInt ≤ 3000 ∧ 0 ≤ (gI τ 13).toInt) (he : ¬ atY x n = x.2) : (gI τ 13).toInt ≤ 3000 ∧ 0 ≤ (gI τ 13).toInt := hb (by omega)
def Pv_lexer (x : TxY) : UP1 := fun A1 σ => match A1 with
  | [] => okY x ∧ (gI σ 1).toInt = x.2 ∧ (∀ j, (aI σ 0 j).toInt = x.1 j)
  | _ => False
def Qv_lexer (x : TxY) : UQ1 := fun A1 σ w τ => match A1 with
  | [] => w = none ∧ LxQ σ τ x
  | _ => False
def Qw_lexer : UQ1 := fun A1 σ w τ => ∀ (x : TxY), Pv_lexer x A1 σ → Qv_lexer x A1 σ w τ
set_option maxRecDepth 100000 in
set_option maxHeartbeats 4000000 in
theorem v_lexer (x : TxY) : UMet 6 (Pv_lexer x) (Qv_lexer x) := by sorry
theorem w_lexer : UMet 6 (fun _ _ => True) Qw_lexer := fun A1 σ _ w τ h x hP => v_lexer x A1 σ hP w τ h
/-! reading once more, with what it lays: records of exps, codes between them, records of S's -/
/-- of an exp or mark: (kind, sign, first, last), (name, link, work), (start, a, b, c, mark), the arguments of a call -/
abbrev XrZ : Type := (Int × Int × Int × Int) × (Int × Int × Int) × (Int × Int × Int × Int × Int) × List Int
/-- of an S: (kind, first, level, parent), the variables known (number, token), (next, body, other, last, exp, link), its number among the reference's things -/
abbrev SrZ : Type := (Int × Int × Int × Int) × List (Int × Int) × (Int × Int × Int × Int × Int × Int × Int)
/-- an exp's record, or a code of an S: op, S or what else, b, token, the exp that it takes (-1: none) -/
abbrev ItZ : Type := XrZ ⊕ (Int × Int × Int × Int × Int)
/-- what is read, what is laid (the last one first), S's, (variables known, the S around), (where variables end, which of them clash, how many things there are) -/
abbrev ZS : Type := SpC × List ItZ × (Nat × (Nat → SrZ)) × (List (Int × Int) × Int) × ((Nat → Int) × (Nat → Int) × Nat)
def xcZ : List ItZ → Nat
  | [] => 0
  | .inl _ :: l => xcZ l + 1
  | .inr _ :: l => xcZ l
/-- how many exps there are -/
def xnM (z : ZS) : Nat := xcZ z.2.1
def puM (x : XrZ) (z : ZS) : ZS := (z.1, .inl x :: z.2.1, z.2.2)
theorem xn_pu {x : XrZ} {z : ZS} : xnM (puM x z) = xnM z + 1 := rfl
def accM (z : ZS) : ZS := (accY z.1, z.2)
def raiM (n : Int) (z : ZS) : ZS := (raiY n z.1, z.2)
def xpM (c : Int) (z : ZS) : ZS := (xpY c z.1, z.2)
def typM (z : ZS) : ZS := (typY z.1, z.2)
/-- what a NAME means as a variable -/
def lkZ (N : Int → Int) : List (Int × Int) → Int → Int
  | [], _ => -1
  | (v, k) :: l, t => if N k = N t then v else lkZ N l t
def lkM (N : Int → Int) (z : ZS) (t : Int) : Int := lkZ N z.2.2.2.1.1 t
/-- how strong a sign binds as an operator; the operator of an assignment's sign -/
def strZ (c : Int) : Int := if c = 20 then 1 else if c = 21 then 2 else if c = 22 then 3 else if c = 23 then 4 else if c = 24 then 5 else if c = 25 ∨ c = 26 then 6 else if 27 ≤ c ∧ c ≤ 30 then 7 else if 31 ≤ c ∧ c ≤ 33 then 8 else if c = 34 ∨ c = 35 then 9 else if 36 ≤ c ∧ c ≤ 38 then 10 else 0
def opfZ (c : Int) : Int := if c = 9 then 34 else if c = 10 then 35 else if c = 11 then 36 else if c = 12 then 37 else if c = 13 then 38 else if c = 14 then 24 else if c = 15 then 22 else if c = 16 then 23 else if c = 17 then 31 else if c = 18 then 32 else if c = 19 then 33 else c
def recZ (k sg f l nm lk wk st a b c mk : Int) (ar : List Int) : XrZ := ((k, sg, f, l), (nm, lk, wk), (st, a, b, c, mk), ar)
/-- a literal; g = 1: it stands right behind a unary - -/
def litZ (g : Int) (i : Nat) (s : SpC) : XrZ := recZ (if codY s = 81 ∨ codY s = 82 then 0 else 1) (codY s) (zAt s) (zAt s) (zAt s) (if (codY s = 81 ∨ codY s = 82) ∧ g = 1 then 1 else -1) 0 i (-1) (-1) (-1) (-1) []
/-- a NAME; NAME ++; ++ NAME -/
def namZ (v : Int) (i : Nat) (s : SpC) : XrZ := recZ 2 (-1) (zAt s) (zAt s) (zAt s) v 0 i (-1) (-1) (-1) (-1) []
def posZ (v : Int) (i : Nat) (s : SpC) : XrZ := recZ 6 (cobY s) (zAt s) (zAt s + 1) (zAt s) v 0 i (-1) (-1) (-1) (-1) []
def preZ (v : Int) (i : Nat) (s : SpC) : XrZ := recZ 6 (codY s) (zAt s) (zAt s + 1) (zAt s + 1) v 0 i (-1) (-1) (-1) (-1) []
/-- ( ), a sign ahead, a cast, of what stands last in the list; t: its first token, st: where it starts -/
def parZ (t st : Int) (i : Nat) (s : SpC) : XrZ := recZ 3 0 t (zAt s) t (-1) 0 st ((i : Int) - 1) (-1) (-1) (-1) []
def alnZ (sg t st : Int) (i : Nat) (s : SpC) : XrZ := recZ 4 sg t (zAt s - 1) t (-1) 0 st ((i : Int) - 1) (-1) (-1) (-1) []
def casZ (ty t st : Int) (i : Nat) (s : SpC) : XrZ := recZ 5 0 t (zAt s - 1) t (-1) ty st ((i : Int) - 1) (-1) (-1) (-1) []
/-- an operator between a and what stands last -/
def chnZ (sg f st a mk : Int) (i : Nat) (s : SpC) : XrZ := recZ 7 sg f (zAt s - 1) f (-1) 0 st a ((i : Int) - 1) (-1) mk []
/-- a choice, an assignment, a call -/
def chrZ (f st a b mk : Int) (i : Nat) (s : SpC) : XrZ := recZ 8 7 f (zAt s - 1) f (-1) 0 st a b ((i : Int) - 1) mk []
def asrZ (v sg t st mk : Int) (i : Nat) (s : SpC) : XrZ := recZ 9 (opfZ sg) t (zAt s - 1) t v 0 st (-1) ((i : Int) - 1) (-1) mk []
def calZ (t st : Int) (ar : List Int) (s : SpC) : XrZ := recZ 10 0 t (zAt s) t (-1) 0 st (ar.headD (-1)) (-1) (-1) (-1) ar
/-- marks: && or ||, ?, :, the value that += and the like take -/
def frkZ (i : Nat) (s : SpC) : XrZ := recZ 11 (codY s) (zAt s) (zAt s - 1) (zAt s) (-1) 0 i (-1) (-1) (-1) (-1) []
def thnZ (i : Nat) (s : SpC) : XrZ := recZ 12 7 (zAt s) (zAt s - 1) (zAt s) (-1) 0 i (-1) (-1) (-1) (-1) []
def elsZ (th : Int) (i : Nat) (s : SpC) : XrZ := recZ 13 7 (zAt s) (zAt s - 1) (zAt s) (-1) 0 i (-1) (-1) (-1) th []
def takZ (v : Int) (i : Nat) (s : SpC) : XrZ := recZ 14 (cobY s) (zAt s) (zAt s - 1) (zAt s) v 0 i (-1) (-1) (-1) (-1) []
/-- operators that wait: sign, first, start, left one, mark -/
abbrev WtZ : Type := List (Int × Int × Int × Int × Int)
/-- those at least as strong as p are closed; those that still wait; first and start of what stands behind them -/
def clM (p : Int) : WtZ → ZS → ZS
  | [], z => z
  | (sg, f, st, a, mq) :: W, z => if p ≤ strZ sg then clM p W (puM (chnZ sg f st a mq (xnM z) z.1) z) else z
def cswZ (p : Int) : WtZ → WtZ
  | [] => []
  | (sg, f, st, a, mq) :: W => if p ≤ strZ sg then cswZ p W else (sg, f, st, a, mq) :: W
def csrZ (p : Int) : WtZ → Int × Int → Int × Int
  | [], r => r
  | (sg, f, st, _, _) :: W, r => if p ≤ strZ sg then csrZ p W (f, st) else r
def fkM (z : ZS) : ZS := if codY z.1 = 20 ∨ codY z.1 = 21 then puM (frkZ (xnM z) z.1) z else z
def mkZ (i : Nat) (s : SpC) : Int := if codY s = 20 ∨ codY s = 21 then (i : Int) else -1
/-- an operator begins to wait -/
def wnZ (r : Int × Int) (z : ZS) : Int × Int × Int × Int × Int := (codY z.1, r.1, r.2, (xnM z : Int) - 1, mkZ (xnM z) z.1)
/-- a chain from behind an operand (its first and start: r) -/
def chlM (O : ZS → ZS) : Nat → WtZ → Int × Int → ZS → ZS
  | 0, W, _, z => clM 0 W z
  | f + 1, W, r, z =>
    if 20 ≤ codY z.1 ∧ codY z.1 ≤ 38 then
      chlM O f (wnZ (csrZ (strZ (codY z.1)) W r) (clM (strZ (codY z.1)) W z) :: cswZ (strZ (codY z.1)) W) (zAt z.1 + 1, (xnM (fkM (clM (strZ (codY z.1)) W z)) : Int)) (O (accM (fkM (clM (strZ (codY z.1)) W z))))
    else clM 0 W z
/-- behind a chain (first and start: r): a choice, or nothing more -/
def cheM (r : Int × Int) (a b mk : Int) (z : ZS) : ZS := puM (chrZ r.1 r.2 a b mk (xnM z) z.1) z
def ch3M (C : ZS → ZS) (r : Int × Int) (a th : Int) (z : ZS) : ZS := cheM r a ((xnM z : Int) - 1) (xnM z) (C (xpM 6 (puM (elsZ th (xnM z) z.1) z)))
def ch2M (E C : ZS → ZS) (r : Int × Int) (z : ZS) : ZS := if codY z.1 = 7 then ch3M C r ((xnM z : Int) - 1) (xnM z) (E (accM (puM (thnZ (xnM z) z.1) z))) else z
/-- a chain's rest and a choice's -/
def tl2M (O E C : ZS → ZS) (W : WtZ) (r : Int × Int) (z : ZS) : ZS := ch2M E C (csrZ 0 W r) (chlM O 501 W r z)
def rbM (z : ZS) : Int × Int := (zAt z.1, (xnM z : Int))
def chcM (O E C : ZS → ZS) (z : ZS) : ZS := tl2M O E C [] (rbM z) (O z)
/-- an assignment -/
def tkM (N : Int → Int) (z : ZS) : ZS := if cobY z.1 = 8 then z else puM (takZ (lkM N z (zAt z.1)) (xnM z) z.1) z
def tmM (z : ZS) : Int := if cobY z.1 = 8 then -1 else (xnM z : Int)
def aseM (v sg : Int) (r : Int × Int) (mk : Int) (z : ZS) : ZS := puM (asrZ v sg r.1 r.2 mk (xnM z) z.1) z
def asgM (N : Int → Int) (E : ZS → ZS) (z : ZS) : ZS := aseM (lkM N z (zAt z.1)) (cobY z.1) (rbM z) (tmM z) (E (accM (accM (tkM N z))))
def xpsM (N : Int → Int) (O E C : ZS → ZS) (z : ZS) : ZS := if codY z.1 = 80 then (if 8 ≤ cobY z.1 ∧ cobY z.1 ≤ 19 then asgM N E z else chcM O E C z) else chcM O E C z
/-- a call's arguments from behind one on (l: those that are read), its end -/
def cleM (r : Int × Int) (l : List Int) (z : ZS) : ZS := xpM 1 (puM (calZ r.1 r.2 l z.1) z)
def clpM (E : ZS → ZS) (r : Int × Int) : Nat → List Int → ZS → ZS
  | 0, l, z => cleM r l z
  | f + 1, l, z => if codY z.1 = 5 then (fun z1 => clpM E r f (l ++ [(xnM z1 : Int) - 1]) z1) (E (accM z)) else cleM r l z
def ca2M (m : Nat) (E : ZS → ZS) (r : Int × Int) (z : ZS) : ZS := if m = 0 then xpM 1 (raiM 3 z) else if codY z.1 = 1 then cleM r [] z else (fun z1 => clpM E r 501 [(xnM z1 : Int) - 1] z1) (E z)
def nmeM (N : Int → Int) (m : Nat) (E : ZS → ZS) (z : ZS) : ZS := if cobY z.1 = 0 then ca2M m E (rbM z) (accM (accM z)) else if cobY z.1 = 41 ∨ cobY z.1 = 42 then puM (posZ (lkM N z (zAt z.1)) (xnM z) z.1) (accM (accM z)) else puM (namZ (lkM N z (zAt z.1)) (xnM z) z.1) (accM z)
/-- operands -/
def ngZ (c : Int) : Int := if c = 35 then 1 else 0
def aleM (sg : Int) (r : Int × Int) (z : ZS) : ZS := puM (alnZ sg r.1 r.2 (xnM z) z.1) z
def caeM (ty : Int) (r : Int × Int) (z : ZS) : ZS := puM (casZ ty r.1 r.2 (xnM z) z.1) z
def paeM (r : Int × Int) (z : ZS) : ZS := xpM 1 (puM (parZ r.1 r.2 (xnM z) z.1) z)
def op2M (I : Int → ZS → ZS) (E : ZS → ZS) (r : Int × Int) (z : ZS) : ZS := if 50 ≤ codY z.1 ∧ codY z.1 ≤ 54 then caeM (codY z.1 - 50) r (I 0 (xpM 1 (typM z))) else paeM r (E z)
def oprM (N : Int → Int) (m : Nat) (E : ZS → ZS) (I : Int → ZS → ZS) (g : Int) (z : ZS) : ZS :=
  if codY z.1 = 34 ∨ codY z.1 = 35 ∨ codY z.1 = 39 ∨ codY z.1 = 40 then aleM (codY z.1) (rbM z) (I (ngZ (codY z.1)) (accM z))
  else if codY z.1 = 41 ∨ codY z.1 = 42 then xpM 80 (puM (preZ (lkM N z (zAt z.1 + 1)) (xnM z) z.1) (accM z))
  else if codY z.1 = 0 then op2M I E (rbM z) (accM z)
  else if codY z.1 = 80 then nmeM N m E z
  else if codY z.1 = 81 ∨ codY z.1 = 82 ∨ codY z.1 = 83 ∨ codY z.1 = 72 ∨ codY z.1 = 73 then puM (litZ g (xnM z) z.1) (accM z)
  else raiM 2 z
/-- an exp, a choice, an operand at depth 21 - n -/
def lvM (N : Int → Int) : Nat → (ZS → ZS) × (ZS → ZS) × (Int → ZS → ZS)
  | 0 => (raiM 3, raiM 3, fun _ => raiM 3)
  | n + 1 => (xpsM N (oprM N n (lvM N n).1 (lvM N n).2.2 0) (lvM N n).1 (lvM N n).2.1, chcM (oprM N n (lvM N n).1 (lvM N n).2.2 0) (lvM N n).1 (lvM N n).2.1, oprM N n (lvM N n).1 (lvM N n).2.2)
def eM (N : Int → Int) (n : Nat) : ZS → ZS := (lvM N n).1
def cM (N : Int → Int) (n : Nat) : ZS → ZS := (lvM N n).2.1
def oM (N : Int → Int) (n : Nat) : Int → ZS → ZS := (lvM N n).2.2
def opM (N : Int → Int) (n : Nat) (g : Int) (z : ZS) : ZS := oprM N (n - 1) (eM N (n - 1)) (oM N (n - 1)) g z
def chM (N : Int → Int) (n : Nat) (z : ZS) : ZS := chcM (opM N n 0) (eM N (n - 1)) (cM N (n - 1)) z
def exM (N : Int → Int) (n : Nat) (z : ZS) : ZS := xpsM N (opM N n 0) (eM N (n - 1)) (cM N (n - 1)) z
theorem oM_s {N : Int → Int} {n : Nat} (h : 1 ≤ n) : oM N n = opM N n := by sorry
theorem cM_s {N : Int → Int} {n : Nat} (h : 1 ≤ n) : cM N n = chM N n := by sorry
theorem eM_s {N : Int → Int} {n : Nat} (h : 1 ≤ n) : eM N n = exM N n := by sorry
/-! what is read is what was read -/
abbrev LfM (f : ZS → ZS) (g : SpC → SpC) : Prop := ∀ z, (f z).1 = g z.1
theorem lf_cl {p : Int} : ∀ (W : WtZ) (z : ZS), (clM p W z).1 = z.1 := by sorry
theorem lf_fk {z : ZS} : (fkM z).1 = z.1 := by sorry
theorem lf_tk {N : Int → Int} {z : ZS} : (tkM N z).1 = z.1 := by sorry
theorem lf_chl {O : ZS → ZS} {o : SpC → SpC} (h : LfM O o) : ∀ (f : Nat) (W : WtZ) (r : Int × Int) (z : ZS), (chlM O f W r z).1 = chlY o f z.1 := by sorry
theorem lf_ch2 {E C : ZS → ZS} {e c : SpC → SpC} (hE : LfM E e) (hC : LfM C c) (r : Int × Int) (z : ZS) : (ch2M E C r z).1 = ch2Y e c z.1 := by sorry
theorem lf_chc {O E C : ZS → ZS} {o e c : SpC → SpC} (hO : LfM O o) (hE : LfM E e) (hC : LfM C c) : LfM (chcM O E C) (chcY o e c) := by sorry
theorem lf_xps {N : Int → Int} {O E C : ZS → ZS} {o e c : SpC → SpC} (hO : LfM O o) (hE : LfM E e) (hC : LfM C c) : LfM (xpsM N O E C) (xpsY o e c) := by sorry
theorem lf_clp {E : ZS → ZS} {e : SpC → SpC} (hE : LfM E e) (r : Int × Int) : ∀ (f : Nat) (l : List Int) (z : ZS), (clpM E r f l z).1 = xpY 1 (clpY e f z.1) := by sorry
theorem lf_ca2 {m : Nat} {E : ZS → ZS} {e : SpC → SpC} (hE : LfM E e) (r : Int × Int) (z : ZS) : (ca2M m E r z).1 = xpY 1 (ca2Y m e z.1) := by sorry
theorem lf_opr {N : Int → Int} {m : Nat} {E : ZS → ZS} {I : Int → ZS → ZS} {e i : SpC → SpC} (hE : LfM E e) (hI : ∀ g, LfM (I g) i) (g : Int) : LfM (oprM N m E I g) (oprY m e i) := by sorry
theorem lf_lv {N : Int → Int} : ∀ n, LfM (eM N n) (eY n) ∧ LfM (cM N n) (cY n) ∧ ∀ g, LfM (oM N n g) (oY n) := by sorry
theorem lf_e {N : Int → Int} {n : Nat} : LfM (eM N n) (eY n) := (lf_lv n).1
theorem lf_c {N : Int → Int} {n : Nat} : LfM (cM N n) (cY n) := (lf_lv n).2.1
theorem lf_o {N : Int → Int} {n : Nat} {g : Int} : LfM (oM N n g) (oY n) := (lf_lv n).2.2 g
theorem lf_op {N : Int → Int} {n : Nat} {g : Int} : LfM (opM N n g) (opY n) := lf_opr lf_e (fun _ => lf_o) g
/-! S's stay, and what is known -/
abbrev KsM (f : ZS → ZS) : Prop := ∀ z, (f z).2.2 = z.2.2
theorem ks_cl {p : Int} : ∀ (W : WtZ) (z : ZS), (clM p W z).2.2 = z.2.2 := by sorry
theorem ks_fk {z : ZS} : (fkM z).2.2 = z.2.2 := by sorry
theorem ks_tk {N : Int → Int} {z : ZS} : (tkM N z).2.2 = z.2.2 := by sorry
theorem ks_chl {O : ZS → ZS} (h : KsM O) : ∀ (f : Nat) (W : WtZ) (r : Int × Int) (z : ZS), (chlM O f W r z).2.2 = z.2.2 := by sorry
theorem ks_chc {O E C : ZS → ZS} (hO : KsM O) (hE : KsM E) (hC : KsM C) : KsM (chcM O E C) := by sorry
theorem ks_xps {N : Int → Int} {O E C : ZS → ZS} (hO : KsM O) (hE : KsM E) (hC : KsM C) : KsM (xpsM N O E C) := by sorry
theorem ks_clp {E : ZS → ZS} (hE : KsM E) (r : Int × Int) : ∀ (f : Nat) (l : List Int) (z : ZS), (clpM E r f l z).2.2 = z.2.2 := by sorry
theorem ks_opr {N : Int → Int} {m : Nat} {E : ZS → ZS} {I : Int → ZS → ZS} (hE : KsM E) (hI : ∀ g, KsM (I g)) (g : Int) : KsM (oprM N m E I g) := by sorry
theorem ks_lv {N : Int → Int} : ∀ n, KsM (eM N n) ∧ KsM (cM N n) ∧ ∀ g, KsM (oM N n g) := by sorry
theorem ks_e {N : Int → Int} {n : Nat} : KsM (eM N n) := (ks_lv n).1
theorem ks_op {N : Int → Int} {n : Nat} {g : Int} : KsM (opM N n g) := ks_opr ks_e (fun _ => (ks_lv (n - 1)).2.2 _) g
/-! what is still to be laid of an exp, by what stands open -/
/-- sort (0 sign ahead, 1 cast, 2 operator, 3 group, 4 call, 5 assignment, 6 ?, 7 :), sign or type, first token, start, what else -/
abbrev OpZ : Type := Int × Int × Int × Int × List Int
abbrev KtM : Type := (WtZ → Nat → Int × Int → ZS → ZS) × (Nat → ZS → ZS) × (Nat → ZS → ZS)
def tlM (N : Int → Int) (n : Nat) (W : WtZ) (r : Int × Int) (z : ZS) : ZS := tl2M (opM N n 0) (eM N (n - 1)) (cM N (n - 1)) W r z
def rO (o : OpZ) : Int × Int := (o.2.2.1, o.2.2.2.1)
def keM (N : Int → Int) (q : KtM) (o : OpZ) (n : Nat) (z : ZS) : ZS :=
  if o.1 = 5 then q.2.2 (n + 1) (aseM (o.2.2.2.2.getD 1 (-1)) o.2.1 (rO o) (o.2.2.2.2.headD (-1)) z)
  else if o.1 = 6 then q.2.1 (n + 1) (ch3M (cM N n) (rO o) (o.2.2.2.2.headD (-1)) (o.2.2.2.2.getD 1 (-1)) z)
  else if o.1 = 3 then q.1 [] (n + 1) (rO o) (paeM (rO o) z)
  else q.1 [] (n + 1) (rO o) (clpM (eM N n) (rO o) 501 (o.2.2.2.2 ++ [(xnM z : Int) - 1]) z)
def kcM (N : Int → Int) (q : KtM) (o : OpZ) (n : Nat) (z : ZS) : ZS :=
  if o.1 = 7 then q.2.1 (n + 1) (cheM (rO o) (o.2.2.2.2.headD (-1)) (o.2.2.2.2.getD 1 (-1)) (o.2.2.2.2.getD 2 (-1)) z)
  else keM N q o n z
def kfM (N : Int → Int) (q : KtM) (o : OpZ) (W : WtZ) (n : Nat) (r : Int × Int) (z : ZS) : ZS :=
  if o.1 = 0 then q.1 [] (n + 1) (rO o) (aleM o.2.1 (rO o) z)
  else if o.1 = 1 then q.1 [] (n + 1) (rO o) (caeM o.2.1 (rO o) z)
  else if o.1 = 2 then q.1 (W ++ [(o.2.1, o.2.2.1, o.2.2.2.1, o.2.2.2.2.headD (-1), o.2.2.2.2.getD 1 (-1))]) n r z
  else kcM N q o n (tlM N n W r z)
def kM (N : Int → Int) : List OpZ → KtM
  | [] => (fun W n r z => tlM N n W r z, fun _ z => z, fun _ z => z)
  | o :: O => (kfM N (kM N O) o, kcM N (kM N O) o, keM N (kM N O) o)
/-- behind an operand, a choice, an exp; an operand to come, an exp -/
def foM (N : Int → Int) (O : List OpZ) (W : WtZ) (n : Nat) (r : Int × Int) (z : ZS) : ZS := (kM N O).1 W n r z
def cfM (N : Int → Int) (O : List OpZ) (n : Nat) (z : ZS) : ZS := (kM N O).2.1 n z
def efM (N : Int → Int) (O : List OpZ) (n : Nat) (z : ZS) : ZS := (kM N O).2.2 n z
def owM (N : Int → Int) (g : Int) (O : List OpZ) (n : Nat) (z : ZS) : ZS := foM N O [] n (rbM z) (opM N n g z)
def ewM (N : Int → Int) (O : List OpZ) (n : Nat) (z : ZS) : ZS := efM N O n (eM N n z)
/-- the sorts alone -/
def osZ (O : List OpZ) : List Int := O.map (·.1)
def tpZ (O : List OpZ) : Int := tpY (osZ O)
theorem str_0 {c : Int} : 0 ≤ strZ c := by sorry
theorem fo_pM {N : Int → Int} {O : List OpZ} {x t st : Int} {l : List Int} {n : Nat} {r : Int × Int} {z : ZS} : foM N ((0, x, t, st, l) :: O) [] n r z = foM N O [] (n + 1) (t, st) (aleM x (t, st) z) := rfl
theorem fo_tM {N : Int → Int} {O : List OpZ} {x t st : Int} {l : List Int} {n : Nat} {r : Int × Int} {z : ZS} : foM N ((1, x, t, st, l) :: O) [] n r z = foM N O [] (n + 1) (t, st) (caeM x (t, st) z) := rfl
theorem fo_bM {N : Int → Int} {O : List OpZ} {W : WtZ} {x t st a mk : Int} {n : Nat} {r : Int × Int} {z : ZS} : foM N ((2, x, t, st, [a, mk]) :: O) W n r z = foM N O (W ++ [(x, t, st, a, mk)]) n r z := rfl
theorem fo_nM {N : Int → Int} {O : List OpZ} {W : WtZ} {n : Nat} {r : Int × Int} {z : ZS} (h : ¬ tpZ O = 0 ∧ ¬ tpZ O = 1 ∧ ¬ tpZ O = 2) : foM N O W n r z = cfM N O n (tlM N n W r z) := by sorry
theorem cf_eM {N : Int → Int} {O : List OpZ} {n : Nat} {z : ZS} (h : ¬ tpZ O = 7) : cfM N O n z = efM N O n z := by sorry
/-- chains: closing the one on top -/
theorem chl_cls {O : ZS → ZS} {x t st a mk : Int} {W : WtZ} {r : Int × Int} {z : ZS} (h : (20 ≤ codY z.1 ∧ codY z.1 ≤ 38) → strZ (codY z.1) ≤ strZ x) : ∀ f, chlM O f ((x, t, st, a, mk) :: W) r z = chlM O f W (t, st) (puM (chnZ x t st a mk (xnM z) z.1) z) := by sorry
theorem csr_c {x t st a mk : Int} {W : WtZ} {r : Int × Int} : csrZ 0 ((x, t, st, a, mk) :: W) r = csrZ 0 W (t, st) := by sorry
theorem tl_cls {N : Int → Int} {x t st a mk : Int} {W : WtZ} {n : Nat} {r : Int × Int} {z : ZS} (h : (20 ≤ codY z.1 ∧ codY z.1 ≤ 38) → strZ (codY z.1) ≤ strZ x) : tlM N n ((x, t, st, a, mk) :: W) r z = tlM N n W (t, st) (puM (chnZ x t st a mk (xnM z) z.1) z) := by sorry
theorem fo_cls {N : Int → Int} {x t st a mk : Int} : ∀ {O : List OpZ} {W : WtZ} {n : Nat} {r : Int × Int} {z : ZS}, wfY (2 :: osZ O) → ((20 ≤ codY z.1 ∧ codY z.1 ≤ 38) → strZ (codY z.1) ≤ strZ x) → foM N O ((x, t, st, a, mk) :: W) n r z = foM N O W n (t, st) (puM (chnZ x t st a mk (xnM z) z.1) z) := by sorry
theorem bin_cls {N : Int → Int} {x t st a mk : Int} {O : List OpZ} {n : Nat} {r : Int × Int} {z : ZS} (hw : wfY (2 :: osZ O)) (h : (20 ≤ codY z.1 ∧ codY z.1 ≤ 38) → strZ (codY z.1) ≤ strZ x) : foM N ((2, x, t, st, [a, mk]) :: O) [] n r z = foM N O [] n (t, st) (puM (chnZ x t st a mk (xnM z) z.1) z) := by sorry
/-- fuel of a chain's loop -/
theorem chlM_f {O : ZS → ZS} {f : Nat} {W : WtZ} {r : Int × Int} {z : ZS} (q : ¬ zFt z.1 = 0) : chlM O f W r z = clM 0 W z := by sorry
theorem chlM_no {O : ZS → ZS} {f : Nat} {W : WtZ} {r : Int × Int} {z : ZS} (h : ¬ (20 ≤ codY z.1 ∧ codY z.1 ≤ 38)) : chlM O f W r z = clM 0 W z := by sorry
theorem acf {p : Int} {W : WtZ} {z : ZS} : (accM (fkM (clM p W z))).1 = accY z.1 := by sorry
theorem chlM_fu {O : ZS → ZS} {o : SpC → SpC} (hL : LfM O o) (hO : GdY o) : ∀ (f : Nat) (W : WtZ) (r : Int × Int) (z : ZS), zAt z.1 ≤ 500 → 501 - zAt z.1 ≤ f → chlM O f W r z = chlM O (f + 1) W r z := by sorry
/-- an operator, stronger than those that wait -/
def wkZ (c : Int) : WtZ → Prop
  | [] => True
  | w :: _ => strZ w.1 < strZ c
theorem wk_cls {c : Int} {W : WtZ} {r : Int × Int} {z : ZS} (h : wkZ c W) : clM (strZ c) W z = z ∧ cswZ (strZ c) W = W ∧ csrZ (strZ c) W r = r := by sorry
theorem chl_op {O : ZS → ZS} {o : SpC → SpC} (hL : LfM O o) (hO : GdY o) {W : WtZ} {r : Int × Int} {z : ZS} (h0 : 0 ≤ zAt z.1) (h5 : zAt z.1 ≤ 500) (hc : 20 ≤ codY z.1 ∧ codY z.1 ≤ 38) (hw : wkZ (codY z.1) W) : chlM O 501 W r z = chlM O 501 (wnZ r z :: W) (zAt z.1 + 1, (xnM (fkM z) : Int)) (O (accM (fkM z))) := by sorry
theorem csr_p {w : Int × Int × Int × Int × Int} {W : WtZ} {r : Int × Int} : csrZ 0 (w :: W) r = csrZ 0 W (w.2.1, w.2.2.1) := by sorry
theorem tl_op {N : Int → Int} {n : Nat} {W : WtZ} {r : Int × Int} {z : ZS} (h0 : 0 ≤ zAt z.1) (h5 : zAt z.1 ≤ 500) (hc : 20 ≤ codY z.1 ∧ codY z.1 ≤ 38) (hw : wkZ (codY z.1) W) : tlM N n W r z = tlM N n (wnZ r z :: W) (zAt z.1 + 1, (xnM (fkM z) : Int)) (opM N n 0 (accM (fkM z))) := by sorry
theorem fo_op2 {N : Int → Int} : ∀ {O : List OpZ} {W : WtZ} {n : Nat} {r : Int × Int} {z : ZS}, wfY (2 :: osZ O) → 0 ≤ zAt z.1 → zAt z.1 ≤ 500 → (20 ≤ codY z.1 ∧ codY z.1 ≤ 38) → (W ≠ [] ∨ ¬ tpZ O = 2) → wkZ (codY z.1) W → foM N O W n r z = foM N O (wnZ r z :: W) n (zAt z.1 + 1, (xnM (fkM z) : Int)) (opM N n 0 (accM (fkM z))) := by sorry
/-- an operator comes, stronger than what waits on top -/
def wtkZ (c : Int) (O : List OpZ) : Prop := match O with
  | [] => True
  | o :: _ => o.1 = 2 → strZ o.2.1 < strZ c
theorem fo_opM {N : Int → Int} {O : List OpZ} {n : Nat} {r : Int × Int} {z : ZS} (hw : wfY (2 :: osZ O)) (h0 : 0 ≤ zAt z.1) (h5 : zAt z.1 ≤ 500) (hc : 20 ≤ codY z.1 ∧ codY z.1 ≤ 38) (hk : wtkZ (codY z.1) O) (hf : zFt (accY z.1) = 0) : foM N O [] n r z = owM N 0 ((2, codY z.1, r.1, r.2, [(xnM z : Int) - 1, mkZ (xnM z) z.1]) :: O) n (accM (fkM z)) := by sorry
/-- no operator comes -/
theorem tl_nM {N : Int → Int} {n : Nat} {r : Int × Int} {z : ZS} (h1 : ¬ (20 ≤ codY z.1 ∧ codY z.1 ≤ 38)) (h2 : ¬ codY z.1 = 7) : tlM N n [] r z = z := by sorry
theorem fo_endM {N : Int → Int} {O : List OpZ} {n : Nat} {r : Int × Int} {z : ZS} (ht : ¬ tpZ O = 0 ∧ ¬ tpZ O = 1 ∧ ¬ tpZ O = 2) (h1 : ¬ (20 ≤ codY z.1 ∧ codY z.1 ≤ 38)) (h2 : ¬ codY z.1 = 7) : foM N O [] n r z = cfM N O n z := by sorry
theorem fo_queM {N : Int → Int} {O : List OpZ} {n : Nat} {r : Int × Int} {z : ZS} (ht : ¬ tpZ O = 0 ∧ ¬ tpZ O = 1 ∧ ¬ tpZ O = 2) (h : codY z.1 = 7) : foM N O [] (n + 1) r z = ewM N ((6, 7, r.1, r.2, [(xnM z : Int) - 1, (xnM z : Int)]) :: O) n (accM (puM (thnZ (xnM z) z.1) z)) := by sorry
theorem ch_tlM {N : Int → Int} {n : Nat} {z : ZS} : chM N n z = tlM N n [] (rbM z) (opM N n 0 z) := rfl
theorem cf_colM {N : Int → Int} {O : List OpZ} {x t st a th : Int} {n : Nat} {z : ZS} (hn : 1 ≤ n) (h : codY z.1 = 6) : cfM N ((6, x, t, st, [a, th]) :: O) n z = owM N 0 ((7, 7, t, st, [a, (xnM z : Int) - 1, (xnM z : Int)]) :: O) n (accM (puM (elsZ th (xnM z) z.1) z)) := by sorry
theorem clpM_f {E : ZS → ZS} {r : Int × Int} {f : Nat} {l : List Int} {z : ZS} (q : ¬ zFt z.1 = 0) : clpM E r f l z = cleM r l z := by sorry
theorem clpM_no {E : ZS → ZS} {r : Int × Int} {f : Nat} {l : List Int} {z : ZS} (q : ¬ codY z.1 = 5) : clpM E r f l z = cleM r l z := by sorry
theorem clpM_fu {E : ZS → ZS} {e : SpC → SpC} {r : Int × Int} (hL : LfM E e) (hE : GdY e) : ∀ (f : Nat) (l : List Int) (z : ZS), zAt z.1 ≤ 500 → 501 - zAt z.1 ≤ f → clpM E r f l z = clpM E r (f + 1) l z := by sorry
theorem clpM_one {E : ZS → ZS} {e : SpC → SpC} {r : Int × Int} (hL : LfM E e) (hE : GdY e) {l : List Int} {z : ZS} (h0 : 0 ≤ zAt z.1) (h : zAt z.1 ≤ 500) (hc : codY z.1 = 5) : clpM E r 501 l z = clpM E r 501 (l ++ [(xnM (E (accM z)) : Int) - 1]) (E (accM z)) := by sorry
theorem cf_comM {N : Int → Int} {O : List OpZ} {x t st : Int} {l : List Int} {n : Nat} {z : ZS} (h0 : 0 ≤ zAt z.1) (h5 : zAt z.1 ≤ 500) (h : codY z.1 = 5) : cfM N ((4, x, t, st, l) :: O) n z = ewM N ((4, x, t, st, l ++ [(xnM z : Int) - 1]) :: O) n (accM z) := by sorry
theorem cle_y {r : Int × Int} {l : List Int} {z : ZS} (h : codY z.1 = 1) : cleM r l z = accM (puM (calZ r.1 r.2 l z.1) z) := by sorry
theorem cf_cloM {N : Int → Int} {O : List OpZ} {x t st : Int} {l : List Int} {n : Nat} {z : ZS} (h : codY z.1 = 1) : cfM N ((4, x, t, st, l) :: O) n z = foM N O [] (n + 1) (t, st) (accM (puM (calZ t st (l ++ [(xnM z : Int) - 1]) z.1) z)) := by sorry
theorem cf_grpM {N : Int → Int} {O : List OpZ} {x t st : Int} {l : List Int} {n : Nat} {z : ZS} (h : codY z.1 = 1) : cfM N ((3, x, t, st, l) :: O) n z = foM N O [] (n + 1) (t, st) (accM (puM (parZ t st (xnM z) z.1) z)) := by sorry
theorem cf_setM {N : Int → Int} {O : List OpZ} {x t st mk v : Int} {n : Nat} {z : ZS} (hO : ¬ tpZ O = 7) : cfM N ((5, x, t, st, [mk, v]) :: O) n z = cfM N O (n + 1) (aseM v x (t, st) mk z) := by sorry
theorem cf_choM {N : Int → Int} {O : List OpZ} {x t st a b mk : Int} {n : Nat} {z : ZS} : cfM N ((7, x, t, st, [a, b, mk]) :: O) n z = cfM N O (n + 1) (cheM (t, st) a b mk z) := rfl
/-- an exp begins that is no assignment; one that is -/
theorem ew_beg {N : Int → Int} {O : List OpZ} {n : Nat} {z : ZS} (hn : 1 ≤ n) (ht : ¬ tpZ O = 0 ∧ ¬ tpZ O = 1 ∧ ¬ tpZ O = 2 ∧ ¬ tpZ O = 7) (h : nasY z.1) : ewM N O n z = owM N 0 O n z := by sorry
theorem ew_asg {N : Int → Int} {O : List OpZ} {n : Nat} {z : ZS} (hc : codY z.1 = 80) (hb : 8 ≤ cobY z.1 ∧ cobY z.1 ≤ 19) : ewM N O (n + 1) z = ewM N ((5, cobY z.1, zAt z.1, (xnM z : Int), [tmM z, lkM N z (zAt z.1)]) :: O) n (accM (accM (tkM N z))) := by sorry
/-- operands -/
theorem ow_lit {N : Int → Int} {g : Int} {O : List OpZ} {n : Nat} {z : ZS} (h : codY z.1 = 81 ∨ codY z.1 = 82 ∨ codY z.1 = 83 ∨ codY z.1 = 72 ∨ codY z.1 = 73) : owM N g O n z = foM N O [] n (rbM z) (accM (puM (litZ g (xnM z) z.1) z)) := by sorry
theorem opM_nam {N : Int → Int} {g : Int} {n : Nat} {z : ZS} (h : codY z.1 = 80) : opM N n g z = nmeM N (n - 1) (eM N (n - 1)) z := by sorry
theorem ow_var {N : Int → Int} {g : Int} {O : List OpZ} {n : Nat} {z : ZS} (hc : codY z.1 = 80) (h : ¬ cobY z.1 = 0 ∧ ¬ cobY z.1 = 41 ∧ ¬ cobY z.1 = 42) : owM N g O n z = foM N O [] n (rbM z) (accM (puM (namZ (lkM N z (zAt z.1)) (xnM z) z.1) z)) := by sorry
theorem ow_pos {N : Int → Int} {g : Int} {O : List OpZ} {n : Nat} {z : ZS} (hc : codY z.1 = 80) (h : cobY z.1 = 41 ∨ cobY z.1 = 42) : owM N g O n z = foM N O [] n (rbM z) (accM (accM (puM (posZ (lkM N z (zAt z.1)) (xnM z) z.1) z))) := by sorry
theorem ow_pre {N : Int → Int} {g : Int} {O : List OpZ} {n : Nat} {z : ZS} (h : codY z.1 = 41 ∨ codY z.1 = 42) : owM N g O n z = foM N O [] n (rbM z) (xpM 80 (accM (puM (preZ (lkM N z (zAt z.1 + 1)) (xnM z) z.1) z))) := by sorry
theorem ow_cle {N : Int → Int} {g : Int} {O : List OpZ} {n : Nat} {z : ZS} (hc : codY z.1 = 80) (h : cobY z.1 = 0) (hn : 2 ≤ n) (h1 : codY (accY (accY z.1)) = 1) : owM N g O n z = foM N O [] n (rbM z) (accM (puM (calZ (zAt z.1) (xnM z : Int) [] (accY (accY z.1))) (accM (accM z)))) := by sorry
theorem ow_sgn {N : Int → Int} {g : Int} {O : List OpZ} {n : Nat} {z : ZS} (hn : 1 ≤ n) (h : codY z.1 = 34 ∨ codY z.1 = 35 ∨ codY z.1 = 39 ∨ codY z.1 = 40) : owM N g O (n + 1) z = owM N (ngZ (codY z.1)) ((0, codY z.1, zAt z.1, (xnM z : Int), []) :: O) n (accM z) := by sorry
theorem ow_cas {N : Int → Int} {g : Int} {O : List OpZ} {n : Nat} {z : ZS} (hn : 1 ≤ n) (h : codY z.1 = 0) (ht : 50 ≤ codY (accY z.1) ∧ codY (accY z.1) ≤ 54) : owM N g O (n + 1) z = owM N 0 ((1, codY (accY z.1) - 50, zAt z.1, (xnM z : Int), []) :: O) n (xpM 1 (accM (accM z))) := by sorry
theorem ow_grp {N : Int → Int} {g : Int} {O : List OpZ} {n : Nat} {z : ZS} (h : codY z.1 = 0) (ht : ¬ (50 ≤ codY (accY z.1) ∧ codY (accY z.1) ≤ 54)) : owM N g O (n + 1) z = ewM N ((3, 0, zAt z.1, (xnM z : Int), []) :: O) n (accM z) := by sorry
theorem ow_cal {N : Int → Int} {g : Int} {O : List OpZ} {n : Nat} {z : ZS} (hc : codY z.1 = 80) (h : cobY z.1 = 0) (hn : 1 ≤ n) (h1 : ¬ codY (accY (accY z.1)) = 1) : owM N g O (n + 1) z = ewM N ((4, 0, zAt z.1, (xnM z : Int), []) :: O) n (accM (accM z)) := by sorry
/-- what is read goes on as before -/
theorem lf_tl {N : Int → Int} {n : Nat} {W : WtZ} {r : Int × Int} {z : ZS} : (tlM N n W r z).1 = tlY n z.1 := by sorry
theorem lf_k {N : Int → Int} : ∀ O : List OpZ, (∀ W n r z, (foM N O W n r z).1 = foY (osZ O) n z.1) ∧ (∀ n z, (cfM N O n z).1 = cfY (osZ O) n z.1) ∧ (∀ n z, (efM N O n z).1 = efY (osZ O) n z.1) := by sorry
theorem lf_fo {N : Int → Int} {O : List OpZ} {W : WtZ} {n : Nat} {r : Int × Int} {z : ZS} : (foM N O W n r z).1 = foY (osZ O) n z.1 := (lf_k O).1 W n r z
theorem lf_cf {N : Int → Int} {O : List OpZ} {n : Nat} {z : ZS} : (cfM N O n z).1 = cfY (osZ O) n z.1 := (lf_k O).2.1 n z
theorem lf_ef {N : Int → Int} {O : List OpZ} {n : Nat} {z : ZS} : (efM N O n z).1 = efY (osZ O) n z.1 := (lf_k O).2.2 n z
theorem lf_ow {N : Int → Int} {g : Int} {O : List OpZ} {n : Nat} {z : ZS} : (owM N g O n z).1 = wtY 0 (osZ O) n z.1 := by sorry
theorem lf_ew {N : Int → Int} {O : List OpZ} {n : Nat} {z : ZS} : (ewM N O n z).1 = wtY 1 (osZ O) n z.1 := by sorry
/-! exps leave methods, variables and tokens alone -/
abbrev P2Y (f : SpC → SpC) : Prop := ∀ s, (f s).2 = s.2
theorem p2_rai {n : Int} : P2Y (raiY n) := by sorry
theorem p2_acc : P2Y accY := by sorry
theorem p2_xp {c : Int} : P2Y (xpY c) := by sorry
theorem p2_typ : P2Y typY := by sorry
theorem p2_clp {E : SpC → SpC} (h : P2Y E) : ∀ n, P2Y (clpY E n) := by sorry
theorem p2_chl {E : SpC → SpC} (h : P2Y E) : ∀ n, P2Y (chlY E n) := by sorry
theorem p2_opr {m : Nat} {E I : SpC → SpC} (hE : P2Y E) (hI : P2Y I) : P2Y (oprY m E I) := by sorry
theorem p2_ch2 {E C : SpC → SpC} (hE : P2Y E) (hC : P2Y C) : P2Y (ch2Y E C) := by sorry
theorem p2_chc {O E C : SpC → SpC} (hO : P2Y O) (hE : P2Y E) (hC : P2Y C) : P2Y (chcY O E C) := by sorry
theorem p2_xps {O E C : SpC → SpC} (hO : P2Y O) (hE : P2Y E) (hC : P2Y C) : P2Y (xpsY O E C) := by sorry
theorem p2_lv : ∀ n, P2Y (eY n) ∧ P2Y (cY n) ∧ P2Y (oY n) := by sorry
theorem p2_e {n : Nat} : P2Y (eY n) := (p2_lv n).1
theorem p2_c {n : Nat} : P2Y (cY n) := (p2_lv n).2.1
theorem p2_op {n : Nat} : P2Y (opY n) := p2_opr (p2_lv (n - 1)).1 (p2_lv (n - 1)).2.2
theorem p2_tl {n : Nat} : P2Y (tlY n) := by sorry
theorem p2_k : ∀ O : List Int, (∀ n, P2Y ((kY O).1 n)) ∧ (∀ n, P2Y ((kY O).2.1 n)) ∧ (∀ n, P2Y ((kY O).2.2 n)) := by sorry
theorem p2_fo {O : List Int} {n : Nat} : P2Y (foY O n) := (p2_k O).1 n
theorem p2_ef {O : List Int} {n : Nat} : P2Y (efY O n) := (p2_k O).2.2 n
theorem p2_wt {b : Int} {O : List Int} {n : Nat} : P2Y (wtY b O n) := by sorry
/-! S's, with what they lay -/
def cnM (z : ZS) : Nat := z.2.1.length
def snM (z : ZS) : Nat := z.2.2.1.1
def reS (z : ZS) (j : Nat) : SrZ := z.2.2.1.2 j
def fiS (z : ZS) (j : Nat) : Int := (reS z j).1.2.1
def paS (z : ZS) (j : Nat) : Int := (reS z j).1.2.2.2
def knS (z : ZS) (j : Nat) : List (Int × Int) := (reS z j).2.1
def upS (f : Nat → SrZ) (j : Nat) (x : SrZ) : Nat → SrZ := fun k => if k = j then x else f k
/-- a code of an S; one that takes the latest exp -/
def coM (op a b t : Int) (z : ZS) : ZS := (z.1, .inr (op, a, b, t, -1) :: z.2.1, z.2.2)
def cxM (op a b t : Int) (z : ZS) : ZS := (z.1, .inr (op, a, b, t, (xnM z : Int) - 1) :: z.2.1, z.2.2)
def seM (j : Nat) (f : SrZ → SrZ) (z : ZS) : ZS := (z.1, z.2.1, (z.2.2.1.1, upS z.2.2.1.2 j (f (z.2.2.1.2 j))), z.2.2.2)
def sNx (v : Int) (x : SrZ) : SrZ := (x.1, x.2.1, (v, x.2.2.2))
def sBd (v : Int) (x : SrZ) : SrZ := (x.1, x.2.1, (x.2.2.1, v, x.2.2.2.2))
def sOt (v : Int) (x : SrZ) : SrZ := (x.1, x.2.1, (x.2.2.1, x.2.2.2.1, v, x.2.2.2.2.2))
def sLs (v : Int) (x : SrZ) : SrZ := (x.1, x.2.1, (x.2.2.1, x.2.2.2.1, x.2.2.2.2.1, v, x.2.2.2.2.2.2))
def sEx (v : Int) (x : SrZ) : SrZ := (x.1, x.2.1, (x.2.2.1, x.2.2.2.1, x.2.2.2.2.1, x.2.2.2.2.2.1, v, x.2.2.2.2.2.2.2))
def sLk (v : Int) (x : SrZ) : SrZ := (x.1, x.2.1, (x.2.2.1, x.2.2.2.1, x.2.2.2.2.1, x.2.2.2.2.2.1, x.2.2.2.2.2.2.1, v, x.2.2.2.2.2.2.2.2))
/-- an S begins: of a kind, at a level -/
def beM (k lv : Int) (z : ZS) : ZS := (z.1, z.2.1, (z.2.2.1.1 + 1, upS z.2.2.1.2 z.2.2.1.1 ((k, zAt z.1, lv, z.2.2.2.1.2), z.2.2.2.1.1, (-1, -1, -1, -1, -1, -1, (z.2.2.2.2.2.2 : Int)))), z.2.2.2)
def tnM (z : ZS) : Nat := z.2.2.2.2.2.2
def thM (z : ZS) : ZS := (z.1, z.2.1, z.2.2.1, z.2.2.2.1, (z.2.2.2.2.1, z.2.2.2.2.2.1, z.2.2.2.2.2.2 + 1))
def lvN (n : Nat) : Int := 21 - (n : Int)
def bgM (k : Int) (n : Nat) (z : ZS) : ZS := coM 20 0 0 (zAt z.1) (beM k (lvN n) z)
/-- catch: its variable is told, too -/
def caM (k : Nat) (z : ZS) : ZS := (z.1, .inr (51, (k : Int), 0, zAt z.1, -2 - ((zVs z.1).length : Int)) :: z.2.1, z.2.2)
/-- one that is a thing of the reference -/
def bgH (k : Int) (n : Nat) (z : ZS) : ZS := thM (bgM k n z)
/-- it ends; c: its STEP's code -/
def enM (j c : Nat) (z : ZS) : ZS := coM 45 c 0 (fiS z j) z
/-- the S around; what is known: ends of variables -/
def arM (j : Int) (z : ZS) : ZS := (z.1, z.2.1, z.2.2.1, (z.2.2.2.1.1, j), z.2.2.2.2)
def veZ (t : Int) : List (Int × Int) → (Nat → Int) → Nat → Int
  | [], f => f
  | (v, _) :: l, f => fun k => if (k : Int) = v then t else veZ t l f k
def veM (t : Int) (out : List (Int × Int)) (z : ZS) : ZS := (z.1, z.2.1, z.2.2.1, (out, z.2.2.2.1.2), (veZ t (z.2.2.2.1.1.take (z.2.2.2.1.1.length - out.length)) z.2.2.2.2.1, z.2.2.2.2.2))
def unM (j : Nat) (z : ZS) : ZS := arM (paS z j) z
/-- a variable is told at its NAME, and known from there on -/
def dcM (N : Int → Int) (ty f h : Int) (z : ZS) : ZS := (dclY ty f h z.1, z.2.1, z.2.2.1, (((zVs z.1).length, zAt z.1) :: z.2.2.2.1.1, z.2.2.2.1.2), (z.2.2.2.2.1, fun k => if k = (zVs z.1).length then (if 0 ≤ lkM N z (zAt z.1) then 1 else 0) else z.2.2.2.2.2.1 k, z.2.2.2.2.2.2))
/-- the latest exp -/
def rtM (z : ZS) : XrZ := match z.2.1 with
  | .inl x :: _ => x
  | _ => recZ 0 0 0 0 0 0 0 0 0 0 0 0 []
def acZ (x : XrZ) : Int := if x.1.1 = 9 ∨ x.1.1 = 6 ∨ x.1.1 = 10 then 1 else 0
def poM (z : ZS) : ZS := cxM 21 (acZ (rtM z)) 0 (rtM z).1.2.2.1 z
/-- an exp of an S -/
def exS (N : Int → Int) (j n : Nat) (z : ZS) : ZS := (fun z1 => seM j (sEx ((xnM z1 : Int) - 1)) z1) (eM N n z)
def cdM (N : Int → Int) (j n : Nat) (z : ZS) : ZS := xpM 1 (exS N j n (xpM 0 z))
def bdM (j jb : Nat) (z : ZS) : ZS := unM j (seM j (sBd jb) z)
/-- exp ; -/
def xsM (N : Int → Int) (n : Nat) (z : ZS) : ZS := enM (snM z) (cnM z) (xpM 4 (poM (exS N (snM z) n (bgM 90 n z))))
/-- a variable, told in a row or in for -/
def stoZ (v j st : Int) (i : Nat) (s : SpC) : XrZ := recZ 15 8 j (zAt s - 1) j v 0 st ((i : Int) - 1) (-1) (-1) (-1) []
def va2M (N : Int → Int) (j n : Nat) (f : Int) (v t : Int) (z : ZS) : ZS :=
  if f = 1 ∨ codY z.1 = 8 then (fun (z0 : ZS) => (fun (z1 : ZS) => puM (stoZ v (fiS z1 j) (xnM z0) (xnM z1) z1.1) z1) (exS N j n (xpM 8 z0))) (coM 22 v 2 t z)
  else coM 22 v 0 t z
def va1M (N : Int → Int) (j n : Nat) (f ty : Int) (z : ZS) : ZS := va2M N j n f (zVs z.1).length (zAt z.1) (seM j (sLk (zVs z.1).length) (dcM N ty f 1 z))
def vaM (N : Int → Int) (j n : Nat) (z : ZS) : ZS := if codY z.1 = 71 then va1M N j n 1 (tyvY (accY z.1)) (typM (accM z)) else va1M N j n 0 (tyvY z.1) (typM z)
def toM (N : Int → Int) (n : Nat) (z : ZS) : ZS := enM (snM z) (cnM z) (xpM 4 (vaM N (snM z) n (bgM 91 n z)))
/-- exps of for -/
def fx1M (N : Int → Int) (n : Nat) (z : ZS) : ZS := poM (exS N (snM z) n (beM 94 (lvN n) z))
def fxlM (N : Int → Int) (n : Nat) : Nat → Nat → ZS → ZS
  | 0, _, z => z
  | f + 1, j, z => if codY z.1 = 5 then fxlM N n f (snM z) (seM j (sNx (snM z)) (fx1M N n (accM z))) else z
def fxM (N : Int → Int) (n : Nat) (z : ZS) : ZS := fxlM N n 501 (snM z) (fx1M N n z)
/-- a case, a default -/
def csM (N : Int → Int) (js : Int) (n : Nat) (z : ZS) : ZS :=
  if codY z.1 = 62 then (fun (z1 : ZS) => xpM 6 (cxM 38 js ((cnM z1 : Int) - 1) (zAt z.1) z1)) (exS N (snM z) n (accM (beM 62 (lvN n) z)))
  else xpM 6 (coM 39 js 0 (zAt z.1) (accM (beM (codY z.1) (lvN n) z)))
/-- where break, continue lead to: from j outwards -/
def tgZ (N : Int → Int) (f : Nat → SrZ) (on : Bool) (t : Int) : Nat → Int → Int
  | 0, _ => -1
  | k + 1, j => if j < 0 then -1 else
    if t < 0 then (if (f j.toNat).1.1 = 58 ∨ (f j.toNat).1.1 = 59 ∨ (f j.toNat).1.1 = 60 ∨ (on = false ∧ (f j.toNat).1.1 = 61) then j else tgZ N f on t k (f j.toNat).1.2.2.2)
    else if (f j.toNat).1.1 = 6 ∧ N (f j.toNat).2.2.2.2.2.2.2.1 = N t then
      (if on = false then j else if (f (j.toNat + 1)).1.1 = 58 ∨ (f (j.toNat + 1)).1.1 = 59 ∨ (f (j.toNat + 1)).1.1 = 60 then j + 1 else -1)
    else tgZ N f on t k (f j.toNat).1.2.2.2
def tgM (N : Int → Int) (on : Bool) (t : Int) (z : ZS) : Int := tgZ N z.2.2.1.2 on t (snM z) z.2.2.2.1.2
/-- as a thing -/
def tqM (N : Int → Int) (on : Bool) (t : Int) (z : ZS) : Int := if tgM N on t z < 0 then -2 else (z.2.2.1.2 (tgM N on t z).toNat).2.2.2.2.2.2.2.2
/-- break, continue; k: 64, 65 -/
def juM (N : Int → Int) (k : Int) (n : Nat) (z : ZS) : ZS :=
  (fun (z1 : ZS) => enM (snM z) (cnM z) (xpM 4 (if codY z1.1 = 80 then accM (coM (k - 18) (tqM N (decide (k = 65)) (zAt z1.1) z1) 0 (zAt z1.1) (seM (snM z) (sLk (zAt z1.1)) z1)) else coM (k - 18) (tqM N (decide (k = 65)) (-1) z1) 0 (zAt z.1) z1))) (accM (bgM k n z))
/-- return, throw -/
def giM (N : Int → Int) (k : Int) (n : Nat) (z : ZS) : ZS :=
  (fun (z1 : ZS) => enM (snM z) (cnM z) (xpM 4 (if k = 67 ∨ ¬ codY z1.1 = 4 then (fun (z2 : ZS) => cxM (k - 18) 1 ((cnM z2 : Int) - 1) (zAt z.1) (if k = 66 then seM (snM z) (sLk (((zMs z2.1).length : Int) - 1)) z2 else z2)) (exS N (snM z) n z1) else coM (k - 18) 0 (-2) (zAt z.1) (seM (snM z) (sLk (((zMs z1.1).length : Int) - 1)) z1)))) (accM (bgM k n z))
/-- rows: Rw gives the first one, too -/
def blkM (Rw : Int → Nat → ZS → ZS × Int) (j : Nat) (out : List (Int × Int)) (z : ZS) : ZS := (fun (q : ZS × Int) => xpM 3 (veM (zAt q.1.1) out (unM j (seM j (sBd q.2) q.1)))) (Rw 0 0 (xpM 2 (arM j z)))
/-- a block that is no S of its own -/
def boM (Rw : Int → Nat → ZS → ZS × Int) (n : Nat) (out : List (Int × Int)) (z : ZS) : ZS := blkM Rw (snM z) out (beM 92 (lvN n) z)
def blM (Rw : Int → Nat → ZS → ZS × Int) (n : Nat) (z : ZS) : ZS := enM (snM z) (cnM z) (blkM Rw (snM z) z.2.2.2.1.1 (bgH 2 n z))
def emM (n : Nat) (z : ZS) : ZS := enM (snM z) (cnM z) (accM (bgM 4 n z))
/-- NAME: -/
def laB (n : Nat) (z : ZS) : ZS := arM (snM z) (xpM 6 (accM (seM (snM z) (sLk (zAt z.1)) (coM 41 (tnM z) 0 (zAt z.1) (bgH 6 n z)))))
def laE (j k c : Nat) (z : ZS) : ZS := enM j c (coM 42 k 0 (fiS z j) (bdM j (j + 1) z))
def laM (n : Nat) (St : ZS → ZS) (z : ZS) : ZS := laE (snM z) (tnM z) (cnM z) (St (laB n z))
/-- if -/
def ifB (N : Int → Int) (n : Nat) (z : ZS) : ZS := arM (snM z) (cxM 23 (tnM z) 0 (zAt z.1) (cdM N (snM z) n (accM (bgH 56 n z))))
def ifX (j k c : Nat) (z : ZS) : ZS := enM j c (coM 25 k 0 (fiS z j) z)
def if2M (St : ZS → ZS) (j k c : Nat) (z : ZS) : ZS := if codY z.1 = 57 then ifX j k c (unM j (seM j (sOt (snM z)) (St (arM j (accM (coM 24 k 0 (zAt z.1) z)))))) else ifX j k c z
def ifM (N : Int → Int) (n : Nat) (St : ZS → ZS) (z : ZS) : ZS := if2M St (snM z) (tnM z) (cnM z) (bdM (snM z) (snM z + 1) (St (ifB N n z)))
/-- while -/
def whB (N : Int → Int) (n : Nat) (z : ZS) : ZS := arM (snM z) (cxM 27 (tnM z) 0 (zAt z.1) (cdM N (snM z) n (accM (coM 26 (tnM z) 0 (zAt z.1) (bgH 58 n z)))))
def whE (j k c : Nat) (z : ZS) : ZS := enM j c (coM 28 k 0 (fiS z j) (bdM j (j + 1) z))
def whM (N : Int → Int) (n : Nat) (St : ZS → ZS) (z : ZS) : ZS := whE (snM z) (tnM z) (cnM z) (St (whB N n z))
/-- do -/
def doB (n : Nat) (z : ZS) : ZS := arM (snM z) (accM (coM 29 (tnM z) 0 (zAt z.1) (bgH 59 n z)))
def doE (N : Int → Int) (n j k c : Nat) (z : ZS) : ZS := (fun (z1 : ZS) => enM j c (cxM 31 k 0 (fiS z1 j) z1)) (xpM 4 (cdM N j n (coM 30 k 0 (fiS z j) (xpM 58 (bdM j (j + 1) z)))))
def doM (N : Int → Int) (n : Nat) (St : ZS → ZS) (z : ZS) : ZS := doE N n (snM z) (tnM z) (cnM z) (St (doB n z))
/-- for -/
def fo1M (N : Int → Int) (j n : Nat) (z : ZS) : ZS := if codY z.1 = 71 ∨ (50 ≤ codY z.1 ∧ codY z.1 ≤ 54) then seM j (sOt (snM z)) (vaM N (snM z) n (beM 93 (lvN n) z)) else if codY z.1 = 4 then z else seM j (sOt (snM z)) (fxM N n z)
def fo2M (N : Int → Int) (j k n : Nat) (z : ZS) : ZS := if codY z.1 = 4 then coM 33 k 0 (fiS z j) z else (fun (z1 : ZS) => cxM 33 k 1 (fiS z1 j) z1) (exS N j n z)
def fo3M (N : Int → Int) (j n : Nat) (z : ZS) : ZS := if codY z.1 = 1 then z else seM j (sLs (snM z)) (fxM N n z)
def foB (N : Int → Int) (j k n : Nat) (z : ZS) : ZS := (fun (z1 : ZS) => coM 35 k 0 (fiS z1 j) z1) (xpM 1 (fo3M N j n ((fun (z2 : ZS) => coM 34 k 0 (fiS z2 j) z2) (xpM 4 (fo2M N j k n ((fun (z3 : ZS) => coM 32 k 0 (fiS z3 j) z3) (xpM 4 (fo1M N j n (arM j (xpM 0 z))))))))))
def foE (j k c jb : Nat) (z : ZS) : ZS := enM j c (coM 36 k 0 (fiS z j) (veM (zAt z.1 - 1) (knS z j) (bdM j jb z)))
def foM2 (N : Int → Int) (n : Nat) (St : ZS → ZS) (z : ZS) : ZS := (fun (z1 : ZS) => foE (snM z) (tnM z) (cnM z) (snM z1) (St z1)) (foB N (snM z) (tnM z) n (accM (bgH 60 n z)))
/-- switch -/
def swB (N : Int → Int) (n : Nat) (z : ZS) : ZS := xpM 2 (arM (snM z) (cxM 37 (tnM z) 0 (zAt z.1) (cdM N (snM z) n (accM (bgH 61 n z)))))
def swE (j k c : Nat) (q : ZS × Int) : ZS := (fun (z1 : ZS) => enM j c (coM 40 k 0 (fiS z1 j) z1)) (xpM 3 (veM (zAt q.1.1) (knS q.1 j) (unM j (seM j (sBd q.2) q.1))))
def swM (N : Int → Int) (n : Nat) (Rw : Int → Nat → ZS → ZS × Int) (z : ZS) : ZS := swE (snM z) (tnM z) (cnM z) (Rw 1 (tnM z) (swB N n z))
/-- try -/
def trB (n : Nat) (z : ZS) : ZS := arM (snM z) (coM 50 (tnM z) 0 (zAt z.1) (accM (bgH 68 n z)))
def tr1M (z : ZS) : ZS := if codY z.1 = 69 ∨ codY z.1 = 70 then z else raiM 2 z
def tr2M (N : Int → Int) (Rw : Int → Nat → ZS → ZS × Int) (j k n : Nat) (z : ZS) : ZS :=
  if codY z.1 = 69 then (fun (z1 : ZS) => seM j (sOt (snM z1)) (boM Rw n (knS z j) z1)) (xpM 1 ((fun (z2 : ZS) => seM j (sLk (zVs z2.1).length) (dcM N 3 0 1 z2)) (xpM 0 (accM (caM k z)))))
  else z
def tr3M (Rw : Int → Nat → ZS → ZS × Int) (j k n : Nat) (z : ZS) : ZS := if codY z.1 = 70 then (fun (z1 : ZS) => seM j (sLs (snM z1)) (boM Rw n (knS z j) z1)) (accM (coM 52 k 0 (zAt z.1) z)) else z
def trE (j k c : Nat) (z : ZS) : ZS := enM j c (coM 53 k 0 (fiS z j) (unM j z))
def trM (N : Int → Int) (n : Nat) (Rw : Int → Nat → ZS → ZS × Int) (z : ZS) : ZS := trE (snM z) (tnM z) (cnM z) (tr3M Rw (snM z) (tnM z) n (tr2M N Rw (snM z) (tnM z) n (tr1M (seM (snM z) (sBd (snM z + 1)) (boM Rw n z.2.2.2.1.1 (trB n z))))))
def smM (N : Int → Int) (n : Nat) (St : ZS → ZS) (Rw : Int → Nat → ZS → ZS × Int) (z : ZS) : ZS :=
  if codY z.1 = 56 then ifM N n St z
  else if codY z.1 = 58 then whM N n St z
  else if codY z.1 = 59 then doM N n St z
  else if codY z.1 = 60 then foM2 N n St z
  else if codY z.1 = 61 then swM N n Rw z
  else if codY z.1 = 68 then trM N n Rw z
  else if codY z.1 = 2 then blM Rw n z
  else if codY z.1 = 4 then emM n z
  else if codY z.1 = 64 ∨ codY z.1 = 65 then juM N (codY z.1) n z
  else if codY z.1 = 66 ∨ codY z.1 = 67 then giM N (codY z.1) n z
  else if codY z.1 = 80 then (if cobY z.1 = 6 then laM n St z else xsM N n z)
  else xsM N n z
def rp2M (N : Int → Int) (n : Nat) (S : ZS → ZS) (z : ZS) : ZS := if codY z.1 = 71 ∨ (50 ≤ codY z.1 ∧ codY z.1 ≤ 54) then toM N n z else S z
def rpM (N : Int → Int) (n : Nat) (S : ZS → ZS) (sw : Int) (js : Nat) (b : Int) (z : ZS) : ZS := if sw = 1 then (if codY z.1 = 62 ∨ codY z.1 = 63 then csM N js n z else if b = 1 then rp2M N n S (raiM 2 z) else rp2M N n S z) else rp2M N n S z
/-- a row; its first and its latest part (-1: none) -/
def nxM (l : Int) (j : Nat) (z : ZS) : ZS := if l < 0 then z else seM l.toNat (sNx j) z
def rwlM (N : Int → Int) (n : Nat) (S : ZS → ZS) (sw : Int) (js : Nat) : Nat → Int → Int → ZS → ZS × Int
  | 0, f, _, z => (z, f)
  | k + 1, f, l, z => if zFt z.1 = 0 then (if codY z.1 = 3 then (z, f) else rwlM N n S sw js k (if f < 0 then (snM z : Int) else f) (snM z) (nxM l (snM z) (rpM N n S sw js (if f < 0 then 1 else 0) z))) else (z, f)
/-- an S, a row at depth 21 - n -/
def lsM (N : Int → Int) : Nat → (ZS → ZS) × (Int → Nat → ZS → ZS × Int)
  | 0 => (raiM 3, fun _ _ z => (raiM 3 z, -1))
  | n + 1 => (smM N (n + 1) (lsM N n).1 (lsM N n).2, fun sw js z => rwlM N (n + 1) (smM N (n + 1) (lsM N n).1 (lsM N n).2) sw js 501 (-1) (-1) z)
def stM (N : Int → Int) (n : Nat) : ZS → ZS := (lsM N n).1
def rwM (N : Int → Int) (n : Nat) : Int → Nat → ZS → ZS × Int := (lsM N n).2
/-- methods -/
def pa2M (N : Int → Int) (i : Nat) (ty f : Int) (z : ZS) : ZS := if i < 6 then (fun (z1 : ZS) => (padY ty z1.1, z1.2)) (dcM N ty f 1 z) else dcM N ty f 0 z
def pa1M (N : Int → Int) (i : Nat) (z : ZS) : ZS := if codY z.1 = 71 then pa2M N i (tyvY (accY z.1)) 1 (typM (accM z)) else pa2M N i (tyvY z.1) 0 (typM z)
def palM (N : Int → Int) : Nat → Nat → ZS → ZS
  | 0, _, z => z
  | f + 1, i, z => if codY (pa1M N i z).1 = 5 then palM N f (i + 1) (accM (pa1M N i z)) else pa1M N i z
def pa3M (N : Int → Int) (z : ZS) : ZS := if codY z.1 = 1 then z else palM N 7 0 z
def paM (N : Int → Int) (z : ZS) : ZS := xpM 1 (pa3M N (xpM 0 z))
def me1M (z : ZS) : ZS := if (50 ≤ codY z.1 ∧ codY z.1 ≤ 54) ∨ codY z.1 = 55 then z else raiM 2 z
def me2M (z : ZS) : ZS := if codY z.1 = 80 then (if 10 ≤ (zMs z.1).length then raiM 3 z else z) else raiM 2 z
def me0M (ty : Int) (z : ZS) : ZS := thM (metY ty z.1, z.2.1, z.2.2.1, ([], -1), z.2.2.2.2)
def me3M (N : Int → Int) (ty : Int) (z : ZS) : ZS := if zFt z.1 = 0 then coM 54 (zMs z.1).length 0 (zAt z.1) (boM (rwM N 20) 21 [] (paM N (accM (me0M ty z)))) else z
def meM (N : Int → Int) (z : ZS) : ZS := me3M N (codY z.1 - 50) (me2M (accM (me1M z)))
def prM (N : Int → Int) : Nat → ZS → ZS
  | 0, z => z
  | f + 1, z => if zFt z.1 = 0 then (if codY z.1 = 84 then z else prM N f (meM N z)) else z
/-! S's: what is read is what was read -/
theorem lf_ex {N : Int → Int} {j n : Nat} {z : ZS} : (exS N j n z).1 = eY n z.1 := lf_e z
theorem lf_cd {N : Int → Int} {j n : Nat} {z : ZS} : (cdM N j n z).1 = cndY n z.1 := by sorry
theorem lf_xs {N : Int → Int} {n : Nat} {z : ZS} : (xsM N n z).1 = xstY n z.1 := by sorry
theorem lf_va2 {N : Int → Int} {j n : Nat} {f v t : Int} {z : ZS} : (va2M N j n f v t z).1 = va2Y n f z.1 := by sorry
theorem lf_va1 {N : Int → Int} {j n : Nat} {f ty : Int} {z : ZS} : (va1M N j n f ty z).1 = va2Y n f (dclY ty f 1 z.1) := by sorry
theorem lf_va {N : Int → Int} {j n : Nat} {z : ZS} : (vaM N j n z).1 = varY n z.1 := by sorry
theorem lf_to {N : Int → Int} {n : Nat} {z : ZS} : (toM N n z).1 = xpY 4 (varY n z.1) := by sorry
theorem lf_fx1 {N : Int → Int} {n : Nat} {z : ZS} : (fx1M N n z).1 = eY n z.1 := by sorry
theorem lf_fxl {N : Int → Int} {n : Nat} : ∀ (f j : Nat) (z : ZS), (fxlM N n f j z).1 = clpY (eY n) f z.1 := by sorry
theorem lf_fx {N : Int → Int} {n : Nat} {z : ZS} : (fxM N n z).1 = fexY n z.1 := by sorry
theorem lf_cs {N : Int → Int} {js : Int} {n : Nat} {z : ZS} : (csM N js n z).1 = casY n z.1 := by sorry
theorem lf_ju {N : Int → Int} {k : Int} {n : Nat} {z : ZS} (hk : k = 64 ∨ k = 65) : (juM N k n z).1 = xpY 4 (si3Y k (si2Y n k (accY z.1))) := by sorry
theorem lf_gi {N : Int → Int} {k : Int} {n : Nat} {z : ZS} (hk : k = 66 ∨ k = 67) : (giM N k n z).1 = xpY 4 (si3Y k (si2Y n k (accY z.1))) := by sorry
abbrev LrM (F : Int → Nat → ZS → ZS × Int) (g : Int → SpC → SpC) : Prop := ∀ sw j z, (F sw j z).1.1 = g sw z.1
theorem lf_blk {Rw : Int → Nat → ZS → ZS × Int} {rw_ : Int → SpC → SpC} (h : LrM Rw rw_) {j : Nat} {out : List (Int × Int)} {z : ZS} : (blkM Rw j out z).1 = blkY rw_ z.1 := by sorry
theorem lf_bo {Rw : Int → Nat → ZS → ZS × Int} {rw_ : Int → SpC → SpC} (h : LrM Rw rw_) {n : Nat} {out : List (Int × Int)} {z : ZS} : (boM Rw n out z).1 = blkY rw_ z.1 := by sorry
theorem lf_fo1 {N : Int → Int} {j n : Nat} {z : ZS} : (fo1M N j n z).1 = fo1Y n z.1 := by sorry
theorem lf_fo2 {N : Int → Int} {j k n : Nat} {z : ZS} : (fo2M N j k n z).1 = fo2Y n z.1 := by sorry
theorem lf_fo3 {N : Int → Int} {j n : Nat} {z : ZS} : (fo3M N j n z).1 = fo3Y n z.1 := by sorry
theorem lf_foB {N : Int → Int} {j k n : Nat} {z : ZS} : (foB N j k n z).1 = xpY 1 (fo3Y n (xpY 4 (fo2Y n (xpY 4 (fo1Y n (xpY 0 z.1)))))) := by sorry
theorem lf_tr1 {z : ZS} : (tr1M z).1 = tr1Y z.1 := by sorry
theorem lf_tr2 {N : Int → Int} {Rw : Int → Nat → ZS → ZS × Int} {rw_ : Int → SpC → SpC} (h : LrM Rw rw_) {j k n : Nat} {z : ZS} : (tr2M N Rw j k n z).1 = tr2Y rw_ z.1 := by sorry
theorem lf_tr3 {Rw : Int → Nat → ZS → ZS × Int} {rw_ : Int → SpC → SpC} (h : LrM Rw rw_) {j k n : Nat} {z : ZS} : (tr3M Rw j k n z).1 = tr3Y rw_ z.1 := by sorry
theorem lf_if2 {St : ZS → ZS} {st : SpC → SpC} (h : LfM St st) {j k c : Nat} {z : ZS} : (if2M St j k c z).1 = if2Y st z.1 := by sorry
theorem lf_sm {N : Int → Int} {n : Nat} {St : ZS → ZS} {Rw : Int → Nat → ZS → ZS × Int} {st : SpC → SpC} {rw_ : Int → SpC → SpC} (h : LfM St st) (hR : LrM Rw rw_) : LfM (smM N n St Rw) (smY n st rw_) := by sorry
theorem lf_rp2 {N : Int → Int} {n : Nat} {S : ZS → ZS} {st : SpC → SpC} (h : LfM S st) : LfM (rp2M N n S) (rp2Y n st) := by sorry
theorem lf_rp {N : Int → Int} {n : Nat} {S : ZS → ZS} {st : SpC → SpC} (h : LfM S st) {sw b : Int} {js : Nat} {z : ZS} : (rpM N n S sw js b z).1 = rpaY n st sw b z.1 := by sorry
theorem lf_nx {l : Int} {j : Nat} {z : ZS} : (nxM l j z).1 = z.1 := by sorry
theorem lf_rwl {N : Int → Int} {n : Nat} {S : ZS → ZS} {st : SpC → SpC} (h : LfM S st) {sw : Int} {js : Nat} : ∀ (k : Nat) (f l : Int) (z : ZS), (rwlM N n S sw js k f l z).1.1 = rwlY n st sw k (if f < 0 then 1 else 0) z.1 := by sorry
theorem lf_ls {N : Int → Int} : ∀ n, LfM (stM N n) (stY n) ∧ LrM (rwM N n) (rwY n) := by sorry
theorem lf_st {N : Int → Int} {n : Nat} : LfM (stM N n) (stY n) := (lf_ls n).1
theorem lf_rw {N : Int → Int} {n : Nat} : LrM (rwM N n) (rwY n) := (lf_ls n).2
theorem lf_pa2 {N : Int → Int} {i : Nat} {ty f : Int} {z : ZS} : (pa2M N i ty f z).1 = pa2Y i ty f z.1 := by sorry
theorem lf_pa1 {N : Int → Int} {i : Nat} {z : ZS} : (pa1M N i z).1 = pa1Y i z.1 := by sorry
theorem lf_pal {N : Int → Int} : ∀ (f i : Nat) (z : ZS), (palM N f i z).1 = palY f i z.1 := by sorry
theorem lf_pa {N : Int → Int} {z : ZS} : (paM N z).1 = parY z.1 := by sorry
theorem lf_me {N : Int → Int} : LfM (meM N) mthY := by sorry
theorem lf_pr {N : Int → Int} : ∀ (f : Nat) (z : ZS), (prM N f z).1 = prlY f z.1 := by sorry
/-! exps take what stands on top: a pile of numbers -/
def opsZ (x : XrZ) : List Int := if x.1.1 = 3 ∨ x.1.1 = 4 ∨ x.1.1 = 5 ∨ x.1.1 = 15 then [x.2.2.1.2.1] else if x.1.1 = 7 then [x.2.2.1.2.2.1, x.2.2.1.2.1] else if x.1.1 = 8 then [x.2.2.1.2.2.2.1, x.2.2.1.2.2.1, x.2.2.1.2.1] else if x.1.1 = 9 then [x.2.2.1.2.2.1] else if x.1.1 = 10 then x.2.2.2.reverse else []
def iopZ : ItZ → List Int
  | .inl x => opsZ x
  | .inr y => if y.2.2.2.2 < 0 then [] else [y.2.2.2.2]
def ipuZ (i : Nat) : ItZ → List Int
  | .inl x => if x.1.1 ≤ 10 then [(i : Int)] else []
  | .inr _ => []
def SkP : List ItZ → List Int → Prop
  | [], S => S = []
  | x :: l, S => ∃ T, S = ipuZ (xcZ l) x ++ T ∧ SkP l (iopZ x ++ T)
def SkM (z : ZS) (S : List Int) : Prop := SkP z.2.1 S
theorem SkM.pu {z : ZS} {S : List Int} {x : XrZ} (h : SkM z (opsZ x ++ S)) (hk : x.1.1 ≤ 10) : SkM (puM x z) ((xnM z : Int) :: S) := by sorry
theorem SkM.mk {z : ZS} {S : List Int} {x : XrZ} (h : SkM z S) (hk : 11 ≤ x.1.1 ∧ x.1.1 ≤ 14) : SkM (puM x z) S := by sorry
/-- the latest one -/
def laZ (z : ZS) : Int := (xnM z : Int) - 1
theorem la_pu {x : XrZ} {z : ZS} : laZ (puM x z) = (xnM z : Int) := by sorry
theorem SkM.leaf {z : ZS} {S : List Int} {x : XrZ} (h : SkM z S) (hk : x.1.1 ≤ 2 ∨ x.1.1 = 6) : SkM (puM x z) (laZ (puM x z) :: S) := by sorry
theorem SkM.one {z : ZS} {S : List Int} {x : XrZ} (h : SkM z (laZ z :: S)) (hk : x.1.1 = 3 ∨ x.1.1 = 4 ∨ x.1.1 = 5) (ha : x.2.2.1.2.1 = laZ z) : SkM (puM x z) (laZ (puM x z) :: S) := by sorry
theorem SkM.z {z z' : ZS} {S : List Int} (h : SkM z S) (e : z'.2.1 = z.2.1) : SkM z' S := by sorry
theorem la_z {z z' : ZS} (e : z'.2.1 = z.2.1) : laZ z' = laZ z := by sorry
abbrev EsM (f : ZS → ZS) : Prop := ∀ z S, SkM z S → zFt (f z).1 = 0 → SkM (f z) (laZ (f z) :: S)
def wsZ (W : WtZ) : List Int := W.map (fun w => w.2.2.2.1)
theorem sk_cl {p : Int} {S : List Int} : ∀ (W : WtZ) (z : ZS), SkM z (laZ z :: (wsZ W ++ S)) → SkM (clM p W z) (laZ (clM p W z) :: (wsZ (cswZ p W) ++ S)) := by sorry
theorem csw_0 : ∀ W : WtZ, cswZ 0 W = [] := by sorry
theorem sk_cl0 {S : List Int} {W : WtZ} {z : ZS} (h : SkM z (laZ z :: (wsZ W ++ S))) : SkM (clM 0 W z) (laZ (clM 0 W z) :: S) := by sorry
theorem sk_fk {z : ZS} {S : List Int} (h : SkM z S) : SkM (fkM z) S := by sorry
theorem sk_chl {O : ZS → ZS} {o : SpC → SpC} (hL : LfM O o) (hG : GdY o) (hO : EsM O) {S : List Int} : ∀ (f : Nat) (W : WtZ) (r : Int × Int) (z : ZS), SkM z (laZ z :: (wsZ W ++ S)) → zFt (chlM O f W r z).1 = 0 → SkM (chlM O f W r z) (laZ (chlM O f W r z) :: S) := by sorry
theorem sk_ch2 {E C : ZS → ZS} {e c : SpC → SpC} (lE : LfM E e) (lC : LfM C c) (gC : GdY c) (hE : EsM E) (hC : EsM C) {r : Int × Int} {z : ZS} {S : List Int} (h : SkM z (laZ z :: S)) (hz : zFt (ch2M E C r z).1 = 0) : SkM (ch2M E C r z) (laZ (ch2M E C r z) :: S) := by sorry
theorem sk_chc {O E C : ZS → ZS} {o e c : SpC → SpC} (lO : LfM O o) (lE : LfM E e) (lC : LfM C c) (gO : GdY o) (gE : GdY e) (gC : GdY c) (hO : EsM O) (hE : EsM E) (hC : EsM C) : EsM (chcM O E C) := by sorry
theorem sk_xps {N : Int → Int} {O E C : ZS → ZS} {o e c : SpC → SpC} (lO : LfM O o) (lE : LfM E e) (lC : LfM C c) (gO : GdY o) (gE : GdY e) (gC : GdY c) (hO : EsM O) (hE : EsM E) (hC : EsM C) : EsM (xpsM N O E C) := by sorry
theorem sk_cle {r : Int × Int} {l : List Int} {z : ZS} {S : List Int} (h : SkM z (l.reverse ++ S)) : SkM (cleM r l z) (laZ (cleM r l z) :: S) := by sorry
theorem sk_clp {E : ZS → ZS} {e : SpC → SpC} (lE : LfM E e) (gE : GdY e) (hE : EsM E) {r : Int × Int} {S : List Int} : ∀ (f : Nat) (l : List Int) (z : ZS), SkM z (l.reverse ++ S) → zFt (clpM E r f l z).1 = 0 → SkM (clpM E r f l z) (laZ (clpM E r f l z) :: S) := by sorry
theorem sk_opr {N : Int → Int} {m : Nat} {E : ZS → ZS} {I : Int → ZS → ZS} {e : SpC → SpC} (lE : LfM E e) (gE : GdY e) (hE : EsM E) (hI : ∀ g, EsM (I g)) (g : Int) : EsM (oprM N m E I g) := by sorry
theorem sk_lv {N : Int → Int} : ∀ n, EsM (eM N n) ∧ EsM (cM N n) ∧ ∀ g, EsM (oM N n g) := by sorry
theorem sk_e {N : Int → Int} {n : Nat} : EsM (eM N n) := (sk_lv n).1
/-! S's leave the pile as it was -/
theorem sk_pos : ∀ {l : List ItZ} {S : List Int}, SkP l S → ∀ x ∈ S, 0 ≤ x := by sorry
theorem SkM.co {z : ZS} {S : List Int} {op a b t : Int} (h : SkM z S) : SkM (coM op a b t z) S := by sorry
theorem SkM.ca {z : ZS} {S : List Int} {k : Nat} (h : SkM z S) : SkM (caM k z) S := by sorry
theorem SkM.cx {z : ZS} {S : List Int} {op a b t : Int} (h : SkM z (laZ z :: S)) : SkM (cxM op a b t z) S := by sorry
theorem SkM.sto {z : ZS} {S : List Int} {v j st : Int} (h : SkM z (laZ z :: S)) : SkM (puM (stoZ v j st (xnM z) z.1) z) S := by sorry
theorem sk_ex {N : Int → Int} {j n : Nat} {z : ZS} {S : List Int} (h : SkM z S) (hz : zFt (exS N j n z).1 = 0) : SkM (exS N j n z) (laZ (exS N j n z) :: S) := (sk_e z S h hz).z rfl
theorem sk_cd {N : Int → Int} {j n : Nat} {z : ZS} {S : List Int} (h : SkM z S) (hz : zFt (cdM N j n z).1 = 0) : SkM (cdM N j n z) (laZ (cdM N j n z) :: S) := by sorry
abbrev SsM (f : ZS → ZS) : Prop := ∀ z S, SkM z S → zFt (f z).1 = 0 → SkM (f z) S
theorem sk_xs {N : Int → Int} {n : Nat} : SsM (xsM N n) := by sorry
theorem sk_va2 {N : Int → Int} {j n : Nat} {f v t : Int} {z : ZS} {S : List Int} (h : SkM z S) (hz : zFt (va2M N j n f v t z).1 = 0) : SkM (va2M N j n f v t z) S := by sorry
theorem sk_va {N : Int → Int} {j n : Nat} : SsM (vaM N j n) := by sorry
theorem sk_to {N : Int → Int} {n : Nat} : SsM (toM N n) := by sorry
theorem sk_fx1 {N : Int → Int} {n : Nat} : SsM (fx1M N n) := by sorry
theorem sk_fxl {N : Int → Int} {n : Nat} {S : List Int} : ∀ (f j : Nat) (z : ZS), SkM z S → zFt (fxlM N n f j z).1 = 0 → SkM (fxlM N n f j z) S := by sorry
theorem sk_fx {N : Int → Int} {n : Nat} : SsM (fxM N n) := by sorry
theorem sk_cs {N : Int → Int} {js : Int} {n : Nat} : SsM (csM N js n) := by sorry
theorem sk_ju {N : Int → Int} {k : Int} {n : Nat} : SsM (juM N k n) := by sorry
theorem sk_gi {N : Int → Int} {k : Int} {n : Nat} : SsM (giM N k n) := by sorry
abbrev SrM (F : Int → Nat → ZS → ZS × Int) : Prop := ∀ sw j z S, SkM z S → zFt (F sw j z).1.1 = 0 → SkM (F sw j z).1 S
theorem sk_blk {Rw : Int → Nat → ZS → ZS × Int} (hR : SrM Rw) {j : Nat} {out : List (Int × Int)} : SsM (blkM Rw j out) := by sorry
theorem sk_bo {Rw : Int → Nat → ZS → ZS × Int} (hR : SrM Rw) {n : Nat} {out : List (Int × Int)} : SsM (boM Rw n out) := fun z S h hz => sk_blk hR (beM 92 (lvN n) z) S (h.z rfl) hz
theorem sk_fo1 {N : Int → Int} {j n : Nat} : SsM (fo1M N j n) := by sorry
theorem sk_fo2 {N : Int → Int} {j k n : Nat} : SsM (fo2M N j k n) := by sorry
theorem sk_fo3 {N : Int → Int} {j n : Nat} : SsM (fo3M N j n) := by sorry
theorem sk_foB {N : Int → Int} {j k n : Nat} : SsM (foB N j k n) := by sorry
theorem sk_tr2 {N : Int → Int} {Rw : Int → Nat → ZS → ZS × Int} (hR : SrM Rw) {j k n : Nat} : SsM (tr2M N Rw j k n) := by sorry
theorem sk_tr3 {Rw : Int → Nat → ZS → ZS × Int} (hR : SrM Rw) {j k n : Nat} : SsM (tr3M Rw j k n) := by sorry
/-! S's leave the pile as it was: all of them -/
theorem sk_if2 {St : ZS → ZS} (hS : SsM St) {j k c : Nat} : SsM (if2M St j k c) := by sorry
theorem sk_sm {N : Int → Int} {n : Nat} {St : ZS → ZS} {Rw : Int → Nat → ZS → ZS × Int} {st : SpC → SpC} {rw_ : Int → SpC → SpC} (lS : LfM St st) (lR : LrM Rw rw_) (gS : GdY st) (gR : ∀ sw, GdY (rw_ sw)) (hS : SsM St) (hR : SrM Rw) : SsM (smM N n St Rw) := by sorry
theorem sk_rp {N : Int → Int} {n : Nat} {S_ : ZS → ZS} (hS : SsM S_) {sw b : Int} {js : Nat} : SsM (rpM N n S_ sw js b) := by sorry
theorem sk_nx {l : Int} {j : Nat} {z : ZS} {S : List Int} (h : SkM z S) : SkM (nxM l j z) S := by sorry
theorem sk_rwl {N : Int → Int} {n : Nat} {S_ : ZS → ZS} {st : SpC → SpC} (lS : LfM S_ st) (gS : ∀ (k : Nat) (b : Int) (sw : Int), GdY (rwlY n st sw k b)) (hS : SsM S_) {sw : Int} {js : Nat} {S : List Int} : ∀ (k : Nat) (f l : Int) (z : ZS), SkM z S → zFt (rwlM N n S_ sw js k f l z).1.1 = 0 → SkM (rwlM N n S_ sw js k f l z).1 S := by sorry
theorem sk_ls {N : Int → Int} : ∀ n, SsM (stM N n) ∧ SrM (rwM N n) := by sorry
theorem sk_st {N : Int → Int} {n : Nat} : SsM (stM N n) := (sk_ls n).1
theorem sk_rw {N : Int → Int} {n : Nat} : SrM (rwM N n) := (sk_ls n).2
theorem it_pal {N : Int → Int} : ∀ (f i : Nat) (z : ZS), (palM N f i z).2.1 = z.2.1 := by sorry
theorem it_pa {N : Int → Int} {z : ZS} : (paM N z).2.1 = z.2.1 := by sorry
theorem sk_me {N : Int → Int} : SsM (meM N) := by sorry
theorem sk_pr {N : Int → Int} {S : List Int} : ∀ (f : Nat) (z : ZS), SkM z S → zFt (prM N f z).1 = 0 → SkM (prM N f z) S := by sorry
/-! what is still to be laid, by the frames: 0 method 1 block 2 if 3 else 4 while 5 do 6 for 7 label 8 switch 9 try 10 catch 11 finally -/
/-- sort, S, (its STEP's code, its thing), what else (rows: first, latest, the one ahead of it, the row's own S, a method's number, its NAME), variables known outside -/
abbrev FrZ : Type := Int × Nat × (Nat × Nat) × List Int × List (Int × Int)
/-- which thing a row's cases name -/
def rjM (k : Int) (c : Nat × Nat) : Nat := if k = 8 then c.2 else 0
def rlM (N : Int → Int) (k : Int) (j n : Nat) (f l : Int) (z : ZS) : ZS × Int := rwlM N n (stM N n) (swY k) j 501 f l z
/-- a row's end -/
def reM (jb : Nat) (out : List (Int × Int)) (q : ZS × Int) : ZS := xpM 3 (veM (zAt q.1.1) out (unM jb (seM jb (sBd q.2) q.1)))
def ceM (N : Int → Int) (k : Int) (j : Nat) (c : Nat × Nat) (x : List Int) (out : List (Int × Int)) (n : Nat) (q : ZS × Int) : ZS :=
  if k = 9 then trE j c.2 c.1 (tr3M (rwM N n) j c.2 (n + 1) (tr2M N (rwM N n) j c.2 (n + 1) (tr1M (seM j (sBd (x.getD 3 0)) (reM (x.getD 3 0).toNat out q)))))
  else if k = 10 then trE j c.2 c.1 (tr3M (rwM N n) j c.2 (n + 1) (seM j (sOt (x.getD 3 0)) (reM (x.getD 3 0).toNat out q)))
  else if k = 11 then trE j c.2 c.1 (seM j (sLs (x.getD 3 0)) (reM (x.getD 3 0).toNat out q))
  else if k = 8 then swE j c.2 c.1 q
  else if k = 1 then enM j c.1 (reM j out q)
  else coM 54 (x.getD 4 0) 0 (x.getD 5 0) (reM j out q)
def sfM (N : Int → Int) : List FrZ → Nat → ZS → ZS
  | [], _, z => z
  | (k, j, c, x, out) :: F, n, z =>
    if k = 2 then sfM N F (n + 1) (if2M (stM N n) j c.2 c.1 (bdM j (j + 1) z))
    else if k = 3 then sfM N F (n + 1) (ifX j c.2 c.1 (unM j (seM j (sOt (x.getD 0 0)) z)))
    else if k = 4 then sfM N F (n + 1) (whE j c.2 c.1 z)
    else if k = 5 then sfM N F (n + 1) (doE N (n + 1) j c.2 c.1 z)
    else if k = 6 then sfM N F (n + 1) (foE j c.2 c.1 (x.getD 0 0).toNat z)
    else if k = 7 then sfM N F (n + 1) (laE j c.2 c.1 z)
    else sfM N F (n + 1) (ceM N k j c x out n (rlM N k (rjM k c) n (x.getD 0 0) (x.getD 1 0) (nxM (x.getD 2 0) (x.getD 1 0).toNat z)))
/-- behind a row; ahead of a piece -/
def clF (N : Int → Int) (a : FrZ) (F : List FrZ) (n : Nat) (q : ZS × Int) : ZS := sfM N F (n + 1) (ceM N a.1 a.2.1 a.2.2.1 a.2.2.2.1 a.2.2.2.2 n q)
def pcM (N : Int → Int) (F : List FrZ) (n : Nat) (z : ZS) : ZS := match F with
  | [] => z
  | a :: G => if a.1 = 2 ∨ a.1 = 3 ∨ a.1 = 4 ∨ a.1 = 5 ∨ a.1 = 6 ∨ a.1 = 7 then sfM N (a :: G) n (stM N n z) else clF N a G n (rlM N a.1 (rjM a.1 a.2.2.1) n (a.2.2.2.1.getD 0 0) (a.2.2.2.1.getD 1 0) z)
/-- a row's frame as a part begins -/
def paF (a : FrZ) (j : Nat) : FrZ := (a.1, a.2.1, a.2.2.1, [if a.2.2.2.1.getD 0 0 < 0 then (j : Int) else a.2.2.2.1.getD 0 0, (j : Int), a.2.2.2.1.getD 1 0] ++ a.2.2.2.1.drop 3, a.2.2.2.2)
theorem sf_rowM {N : Int → Int} {a : FrZ} {F : List FrZ} {n : Nat} {z : ZS} (h : rwkY a.1) : sfM N (a :: F) n z = pcM N (a :: F) n (nxM (a.2.2.2.1.getD 2 0) (a.2.2.2.1.getD 1 0).toNat z) := by sorry
theorem pc_rowM {N : Int → Int} {a : FrZ} {F : List FrZ} {n : Nat} {z : ZS} (h : rwkY a.1) : pcM N (a :: F) n z = clF N a F n (rlM N a.1 (rjM a.1 a.2.2.1) n (a.2.2.2.1.getD 0 0) (a.2.2.2.1.getD 1 0) z) := by sorry
theorem pc_stM {N : Int → Int} {a : FrZ} {F : List FrZ} {n : Nat} {z : ZS} (h : a.1 = 2 ∨ a.1 = 3 ∨ a.1 = 4 ∨ a.1 = 5 ∨ a.1 = 6 ∨ a.1 = 7) : pcM N (a :: F) n z = sfM N (a :: F) n (stM N n z) := by sorry
/-- fuel of rows -/
theorem rwlM_f {N : Int → Int} {n : Nat} {S : ZS → ZS} {sw : Int} {js k : Nat} {f l : Int} {z : ZS} (q : ¬ zFt z.1 = 0) : rwlM N n S sw js k f l z = (z, f) := by sorry
theorem rwlM_fu {N : Int → Int} {n : Nat} {sw : Int} {js : Nat} : ∀ (k : Nat) (f l : Int) (z : ZS), zAt z.1 ≤ 500 → 501 - zAt z.1 ≤ k → rwlM N n (stM N n) sw js k f l z = rwlM N n (stM N n) sw js (k + 1) f l z := by sorry
theorem rlM_one {N : Int → Int} {k : Int} {j n : Nat} {f l : Int} {z : ZS} (h0 : 0 ≤ zAt z.1) (h5 : zAt z.1 ≤ 500) (hz : zFt z.1 = 0) (hc : ¬ codY z.1 = 3) : rlM N k j n f l z = rlM N k j n (if f < 0 then (snM z : Int) else f) (snM z) (nxM l (snM z) (rpM N n (stM N n) (swY k) j (if f < 0 then 1 else 0) z)) := by sorry
theorem rlM_no {N : Int → Int} {k : Int} {j n : Nat} {f l : Int} {z : ZS} (hc : codY z.1 = 3) : rlM N k j n f l z = (z, f) := by sorry
/-- a part of a row -/
theorem pc_one {N : Int → Int} {a : FrZ} {F : List FrZ} {n : Nat} {z : ZS} (h : rwkY a.1) (h0 : 0 ≤ zAt z.1) (h5 : zAt z.1 ≤ 500) (hz : zFt z.1 = 0) (hc : ¬ codY z.1 = 3) : pcM N (a :: F) n z = sfM N (paF a (snM z) :: F) n (rpM N n (stM N n) (swY a.1) (rjM a.1 a.2.2.1) (if a.2.2.2.1.getD 0 0 < 0 then 1 else 0) z) := by sorry
/-! the steps of S's, with what they lay -/
theorem xp_yM {c : Int} {z : ZS} (h : codY z.1 = c) : xpM c z = accM z := by sorry
/-- the frame of an S that begins at z -/
def frB (k : Int) (z : ZS) (x : List Int) : FrZ := (k, snM z, (cnM z, tnM z), x, z.2.2.2.1.1)
theorem rwM_s {N : Int → Int} {n : Nat} {sw : Int} {j : Nat} {z : ZS} (hn : 1 ≤ n) : rwM N n sw j z = rwlM N n (stM N n) sw j 501 (-1) (-1) z := by sorry
theorem ce_0 {N : Int → Int} {j : Nat} {c : Nat × Nat} {x : List Int} {out : List (Int × Int)} {n : Nat} {q : ZS × Int} : ceM N 0 j c x out n q = coM 54 (x.getD 4 0) 0 (x.getD 5 0) (reM j out q) := rfl
theorem ce_1 {N : Int → Int} {j : Nat} {c : Nat × Nat} {x : List Int} {out : List (Int × Int)} {n : Nat} {q : ZS × Int} : ceM N 1 j c x out n q = enM j c.1 (reM j out q) := rfl
theorem ce_8 {N : Int → Int} {j : Nat} {c : Nat × Nat} {x : List Int} {out : List (Int × Int)} {n : Nat} {q : ZS × Int} : ceM N 8 j c x out n q = swE j c.2 c.1 q := rfl
theorem ce_9 {N : Int → Int} {j : Nat} {c : Nat × Nat} {x : List Int} {out : List (Int × Int)} {n : Nat} {q : ZS × Int} : ceM N 9 j c x out n q = trE j c.2 c.1 (tr3M (rwM N n) j c.2 (n + 1) (tr2M N (rwM N n) j c.2 (n + 1) (tr1M (seM j (sBd (x.getD 3 0)) (reM (x.getD 3 0).toNat out q))))) := rfl
theorem ce_10 {N : Int → Int} {j : Nat} {c : Nat × Nat} {x : List Int} {out : List (Int × Int)} {n : Nat} {q : ZS × Int} : ceM N 10 j c x out n q = trE j c.2 c.1 (tr3M (rwM N n) j c.2 (n + 1) (seM j (sOt (x.getD 3 0)) (reM (x.getD 3 0).toNat out q))) := rfl
theorem ce_11 {N : Int → Int} {j : Nat} {c : Nat × Nat} {x : List Int} {out : List (Int × Int)} {n : Nat} {q : ZS × Int} : ceM N 11 j c x out n q = trE j c.2 c.1 (seM j (sLs (x.getD 3 0)) (reM (x.getD 3 0).toNat out q)) := rfl
/-- a row that begins -/
theorem pc_newM {N : Int → Int} {k : Int} {j : Nat} {c : Nat × Nat} {y : List Int} {out : List (Int × Int)} {F : List FrZ} {n : Nat} {z : ZS} (h : rwkY k) (hn : 1 ≤ n) : pcM N ((k, j, c, [-1, -1, -1] ++ y, out) :: F) n z = sfM N F (n + 1) (ceM N k j c ([-1, -1, -1] ++ y) out n (rwM N n (swY k) (rjM k c) z)) := by sorry
theorem re_3 {jb : Nat} {out : List (Int × Int)} {z : ZS} {f : Int} (hc : codY z.1 = 3) : reM jb out (z, f) = accM (veM (zAt z.1) out (unM jb (seM jb (sBd f) z))) := by sorry
/-- behind a row's last part -/
theorem pc_closeM {N : Int → Int} {a : FrZ} {F : List FrZ} {n : Nat} {z : ZS} (h : rwkY a.1) (hc : codY z.1 = 3) : pcM N (a :: F) n z = clF N a F n (z, a.2.2.2.1.getD 0 0) := by sorry
theorem cl_0M {N : Int → Int} {j : Nat} {c : Nat × Nat} {x : List Int} {out : List (Int × Int)} {F : List FrZ} {n : Nat} {z : ZS} (hc : codY z.1 = 3) : clF N (0, j, c, x, out) F n (z, x.getD 0 0) = sfM N F (n + 1) (coM 54 (x.getD 4 0) 0 (x.getD 5 0) (accM (veM (zAt z.1) out (unM j (seM j (sBd (x.getD 0 0)) z))))) := by sorry
theorem cl_1M {N : Int → Int} {j : Nat} {c : Nat × Nat} {x : List Int} {out : List (Int × Int)} {F : List FrZ} {n : Nat} {z : ZS} (hc : codY z.1 = 3) : clF N (1, j, c, x, out) F n (z, x.getD 0 0) = sfM N F (n + 1) (enM j c.1 (accM (veM (zAt z.1) out (unM j (seM j (sBd (x.getD 0 0)) z))))) := by sorry
theorem cl_8M {N : Int → Int} {j : Nat} {c : Nat × Nat} {x : List Int} {out : List (Int × Int)} {F : List FrZ} {n : Nat} {z : ZS} (hc : codY z.1 = 3) (ho : knS z j = out) : clF N (8, j, c, x, out) F n (z, x.getD 0 0) = sfM N F (n + 1) ((fun z1 => enM j c.1 (coM 40 c.2 0 (fiS z1 j) z1)) (accM (veM (zAt z.1) out (unM j (seM j (sBd (x.getD 0 0)) z))))) := by sorry
/-- what stands ahead of catch, finally -/
def t9M (j : Nat) (x : List Int) (out : List (Int × Int)) (z : ZS) : ZS := accM (veM (zAt z.1) out (unM (x.getD 3 0).toNat (seM (x.getD 3 0).toNat (sBd (x.getD 0 0)) z)))
theorem cl_9M {N : Int → Int} {j : Nat} {c : Nat × Nat} {x : List Int} {out : List (Int × Int)} {F : List FrZ} {n : Nat} {z : ZS} (hc : codY z.1 = 3) : clF N (9, j, c, x, out) F n (z, x.getD 0 0) = sfM N F (n + 1) (trE j c.2 c.1 (tr3M (rwM N n) j c.2 (n + 1) (tr2M N (rwM N n) j c.2 (n + 1) (tr1M (seM j (sBd (x.getD 3 0)) (t9M j x out z)))))) := by sorry
theorem cl_10M {N : Int → Int} {j : Nat} {c : Nat × Nat} {x : List Int} {out : List (Int × Int)} {F : List FrZ} {n : Nat} {z : ZS} (hc : codY z.1 = 3) : clF N (10, j, c, x, out) F n (z, x.getD 0 0) = sfM N F (n + 1) (trE j c.2 c.1 (tr3M (rwM N n) j c.2 (n + 1) (seM j (sOt (x.getD 3 0)) (t9M j x out z)))) := by sorry
theorem cl_11M {N : Int → Int} {j : Nat} {c : Nat × Nat} {x : List Int} {out : List (Int × Int)} {F : List FrZ} {n : Nat} {z : ZS} (hc : codY z.1 = 3) : clF N (11, j, c, x, out) F n (z, x.getD 0 0) = sfM N F (n + 1) (trE j c.2 c.1 (seM j (sLs (x.getD 3 0)) (t9M j x out z))) := by sorry
theorem tr1_yM {z : ZS} (h : codY z.1 = 69 ∨ codY z.1 = 70) : tr1M z = z := by sorry
theorem tr1_nM {z : ZS} (h : ¬ (codY z.1 = 69 ∨ codY z.1 = 70)) : tr1M z = raiM 2 z := by sorry
theorem tr2_nM {N : Int → Int} {Rw : Int → Nat → ZS → ZS × Int} {j k n : Nat} {z : ZS} (h : ¬ codY z.1 = 69) : tr2M N Rw j k n z = z := by sorry
theorem tr3_nM {Rw : Int → Nat → ZS → ZS × Int} {j k n : Nat} {z : ZS} (h : ¬ codY z.1 = 70) : tr3M Rw j k n z = z := by sorry
/-- catch ( NAME ) {, finally { -/
def ctM (N : Int → Int) (j k : Nat) (z : ZS) : ZS := xpM 1 ((fun (z2 : ZS) => seM j (sLk (zVs z2.1).length) (dcM N 3 0 1 z2)) (xpM 0 (accM (caM k z))))
def bbM (n : Nat) (z : ZS) : ZS := xpM 2 (arM (snM z) (beM 92 (lvN n) z))
def fiM (k : Nat) (z : ZS) : ZS := accM (coM 52 k 0 (zAt z.1) z)
theorem tr_cat {N : Int → Int} {j : Nat} {c : Nat × Nat} {F : List FrZ} {n : Nat} {z : ZS} (hn : 1 ≤ n) (hc : codY z.1 = 69) : sfM N F (n + 1) (trE j c.2 c.1 (tr3M (rwM N n) j c.2 (n + 1) (tr2M N (rwM N n) j c.2 (n + 1) z))) = pcM N ((10, j, c, [-1, -1, -1] ++ [(snM (ctM N j c.2 z) : Int)], knS z j) :: F) n (bbM (n + 1) (ctM N j c.2 z)) := by sorry
theorem tr_fin {N : Int → Int} {j : Nat} {c : Nat × Nat} {F : List FrZ} {n : Nat} {z : ZS} (hn : 1 ≤ n) (hc : codY z.1 = 70) : sfM N F (n + 1) (trE j c.2 c.1 (tr3M (rwM N n) j c.2 (n + 1) z)) = pcM N ((11, j, c, [-1, -1, -1] ++ [(snM (fiM c.2 z) : Int)], knS z j) :: F) n (bbM (n + 1) (fiM c.2 z)) := by sorry
/-- an S begins -/
theorem stM_s {N : Int → Int} {n : Nat} {z : ZS} : stM N (n + 1) z = smM N (n + 1) (stM N n) (rwM N n) z := rfl
theorem sm_if {N : Int → Int} {F : List FrZ} {n : Nat} {z : ZS} (hc : codY z.1 = 56) : sfM N F (n + 1) (stM N (n + 1) z) = sfM N (frB 2 z [] :: F) n (stM N n (ifB N (n + 1) z)) := by sorry
theorem sm_wh {N : Int → Int} {F : List FrZ} {n : Nat} {z : ZS} (hc : codY z.1 = 58) : sfM N F (n + 1) (stM N (n + 1) z) = sfM N (frB 4 z [] :: F) n (stM N n (whB N (n + 1) z)) := by sorry
theorem sm_do {N : Int → Int} {F : List FrZ} {n : Nat} {z : ZS} (hc : codY z.1 = 59) : sfM N F (n + 1) (stM N (n + 1) z) = sfM N (frB 5 z [] :: F) n (stM N n (doB (n + 1) z)) := by sorry
theorem sm_fo {N : Int → Int} {F : List FrZ} {n : Nat} {z : ZS} (hc : codY z.1 = 60) : sfM N F (n + 1) (stM N (n + 1) z) = (fun z1 => sfM N (frB 6 z [(snM z1 : Int)] :: F) n (stM N n z1)) (foB N (snM z) (tnM z) (n + 1) (accM (bgH 60 (n + 1) z))) := by sorry
theorem sm_sw {N : Int → Int} {F : List FrZ} {n : Nat} {z : ZS} (hn : 1 ≤ n) (hc : codY z.1 = 61) : sfM N F (n + 1) (stM N (n + 1) z) = pcM N (frB 8 z ([-1, -1, -1] ++ []) :: F) n (swB N (n + 1) z) := by sorry
theorem sm_tr {N : Int → Int} {F : List FrZ} {n : Nat} {z : ZS} (hn : 1 ≤ n) (hc : codY z.1 = 68) : sfM N F (n + 1) (stM N (n + 1) z) = pcM N (frB 9 z ([-1, -1, -1] ++ [(snM z : Int) + 1]) :: F) n (bbM (n + 1) (trB (n + 1) z)) := by sorry
theorem sm_bl {N : Int → Int} {F : List FrZ} {n : Nat} {z : ZS} (hn : 1 ≤ n) (hc : codY z.1 = 2) : sfM N F (n + 1) (stM N (n + 1) z) = pcM N (frB 1 z ([-1, -1, -1] ++ []) :: F) n (accM (arM (snM z) (bgH 2 (n + 1) z))) := by sorry
theorem sm_la {N : Int → Int} {F : List FrZ} {n : Nat} {z : ZS} (hc : codY z.1 = 80) (hb : cobY z.1 = 6) : sfM N F (n + 1) (stM N (n + 1) z) = sfM N (frB 7 z [] :: F) n (stM N n (laB (n + 1) z)) := by sorry
theorem sm_em {N : Int → Int} {n : Nat} {z : ZS} (hc : codY z.1 = 4) : stM N (n + 1) z = emM (n + 1) z := by sorry
theorem sm_ju {N : Int → Int} {n : Nat} {z : ZS} (hc : codY z.1 = 64 ∨ codY z.1 = 65) : stM N (n + 1) z = juM N (codY z.1) (n + 1) z := by sorry
theorem sm_gi {N : Int → Int} {n : Nat} {z : ZS} (hc : codY z.1 = 66 ∨ codY z.1 = 67) : stM N (n + 1) z = giM N (codY z.1) (n + 1) z := by sorry
theorem sm_xs {N : Int → Int} {n : Nat} {z : ZS} (h : ¬ codY z.1 = 56 ∧ ¬ codY z.1 = 58 ∧ ¬ codY z.1 = 59 ∧ ¬ codY z.1 = 60 ∧ ¬ codY z.1 = 61 ∧ ¬ codY z.1 = 68 ∧ ¬ codY z.1 = 2 ∧ ¬ codY z.1 = 4 ∧ ¬ codY z.1 = 64 ∧ ¬ codY z.1 = 65 ∧ ¬ codY z.1 = 66 ∧ ¬ codY z.1 = 67) (hb : ¬ (codY z.1 = 80 ∧ cobY z.1 = 6)) : stM N (n + 1) z = xsM N (n + 1) z := by sorry
/-- an S ends -/
theorem sf_elseM {N : Int → Int} {j : Nat} {c : Nat × Nat} {x : List Int} {out : List (Int × Int)} {F : List FrZ} {n : Nat} {z : ZS} (hc : codY z.1 = 57) : sfM N ((2, j, c, x, out) :: F) n z = sfM N ((3, j, c, [(snM z : Int)], out) :: F) n (stM N n (arM j (accM (coM 24 c.2 0 (zAt z.1) (bdM j (j + 1) z))))) := by sorry
theorem sf_if0M {N : Int → Int} {j : Nat} {c : Nat × Nat} {x : List Int} {out : List (Int × Int)} {F : List FrZ} {n : Nat} {z : ZS} (hc : ¬ codY z.1 = 57) : sfM N ((2, j, c, x, out) :: F) n z = sfM N F (n + 1) (ifX j c.2 c.1 (bdM j (j + 1) z)) := by sorry
theorem sf_3M {N : Int → Int} {j : Nat} {c : Nat × Nat} {x : List Int} {out : List (Int × Int)} {F : List FrZ} {n : Nat} {z : ZS} : sfM N ((3, j, c, x, out) :: F) n z = sfM N F (n + 1) (ifX j c.2 c.1 (unM j (seM j (sOt (x.getD 0 0)) z))) := rfl
theorem sf_4M {N : Int → Int} {j : Nat} {c : Nat × Nat} {x : List Int} {out : List (Int × Int)} {F : List FrZ} {n : Nat} {z : ZS} : sfM N ((4, j, c, x, out) :: F) n z = sfM N F (n + 1) (whE j c.2 c.1 z) := rfl
theorem sf_5M {N : Int → Int} {j : Nat} {c : Nat × Nat} {x : List Int} {out : List (Int × Int)} {F : List FrZ} {n : Nat} {z : ZS} : sfM N ((5, j, c, x, out) :: F) n z = sfM N F (n + 1) (doE N (n + 1) j c.2 c.1 z) := rfl
theorem sf_6M {N : Int → Int} {j : Nat} {c : Nat × Nat} {x : List Int} {out : List (Int × Int)} {F : List FrZ} {n : Nat} {z : ZS} : sfM N ((6, j, c, x, out) :: F) n z = sfM N F (n + 1) (foE j c.2 c.1 (x.getD 0 0).toNat z) := rfl
theorem sf_7M {N : Int → Int} {j : Nat} {c : Nat × Nat} {x : List Int} {out : List (Int × Int)} {F : List FrZ} {n : Nat} {z : ZS} : sfM N ((7, j, c, x, out) :: F) n z = sfM N F (n + 1) (laE j c.2 c.1 z) := rfl
/-- parts of rows -/
theorem rp_toM {N : Int → Int} {n : Nat} {S : ZS → ZS} {z : ZS} (h : codY z.1 = 71 ∨ (50 ≤ codY z.1 ∧ codY z.1 ≤ 54)) : rp2M N n S z = toM N n z := by sorry
theorem rp_stM {N : Int → Int} {n : Nat} {S : ZS → ZS} {z : ZS} (h : ¬ (codY z.1 = 71 ∨ (50 ≤ codY z.1 ∧ codY z.1 ≤ 54))) : rp2M N n S z = S z := by sorry
theorem rp_2M {N : Int → Int} {n : Nat} {S : ZS → ZS} {k b : Int} {js : Nat} {z : ZS} (hk : k = 8 → b = 0 ∧ ¬ codY z.1 = 62 ∧ ¬ codY z.1 = 63) : rpM N n S (swY k) js b z = rp2M N n S z := by sorry
theorem pc_toM {N : Int → Int} {a : FrZ} {F : List FrZ} {n : Nat} {z : ZS} (h : rwkY a.1) (h0 : 0 ≤ zAt z.1) (h5 : zAt z.1 ≤ 500) (hz : zFt z.1 = 0) (hk : a.1 = 8 → 0 ≤ a.2.2.2.1.getD 0 0) (hc : codY z.1 = 71 ∨ (50 ≤ codY z.1 ∧ codY z.1 ≤ 54)) : pcM N (a :: F) n z = sfM N (paF a (snM z) :: F) n (toM N n z) := by sorry
theorem pc_staM {N : Int → Int} {a : FrZ} {F : List FrZ} {n : Nat} {z : ZS} (h : rwkY a.1) (h0 : 0 ≤ zAt z.1) (h5 : zAt z.1 ≤ 500) (hz : zFt z.1 = 0) (hk : a.1 = 8 → 0 ≤ a.2.2.2.1.getD 0 0 ∧ ¬ codY z.1 = 62 ∧ ¬ codY z.1 = 63) (h3 : ¬ codY z.1 = 3) (hc : ¬ (codY z.1 = 71 ∨ (50 ≤ codY z.1 ∧ codY z.1 ≤ 54))) : pcM N (a :: F) n z = sfM N (paF a (snM z) :: F) n (stM N n z) := by sorry
theorem pc_casM {N : Int → Int} {j : Nat} {c : Nat × Nat} {x : List Int} {out : List (Int × Int)} {F : List FrZ} {n : Nat} {z : ZS} (h0 : 0 ≤ zAt z.1) (h5 : zAt z.1 ≤ 500) (hz : zFt z.1 = 0) (hc : codY z.1 = 62 ∨ codY z.1 = 63) : pcM N ((8, j, c, x, out) :: F) n z = sfM N (paF (8, j, c, x, out) (snM z) :: F) n (csM N c.2 n z) := by sorry
/-- what is read of it is what was read -/
abbrev WfF (F : List FrZ) : Prop := ∀ a ∈ F, (0 ≤ a.1 ∧ a.1 ≤ 11) ∧ (a.1 = 8 → 0 ≤ a.2.2.2.1.getD 0 0)
theorem lf_rl {N : Int → Int} {k : Int} {j n : Nat} {f l : Int} {z : ZS} : (rlM N k j n f l z).1.1 = rlY k (if f < 0 then 1 else 0) n z.1 := lf_rwl lf_st 501 f l z
theorem lf_rlb {N : Int → Int} {k : Int} {j n : Nat} {f l : Int} {z : ZS} (h : k = 8 → 0 ≤ f) : (rlM N k j n f l z).1.1 = rlY k 0 n z.1 := by sorry
theorem lf_if2b {N : Int → Int} {j k c n : Nat} {z : ZS} : (if2M (stM N n) j k c (bdM j (j + 1) z)).1 = if2Y (stY n) z.1 := lf_if2 lf_st
theorem lf_doE {N : Int → Int} {n j k c : Nat} {z : ZS} : (doE N n j k c z).1 = xpY 4 (cndY n (xpY 58 z.1)) := by sorry
theorem lf_ce {N : Int → Int} {k : Int} {j : Nat} {c : Nat × Nat} {x : List Int} {out : List (Int × Int)} {n : Nat} {q : ZS × Int} (h : rwkY k) : (ceM N k j c x out n q).1 = (if k = 9 then tr3Y (rwY n) (tr2Y (rwY n) (tr1Y (xpY 3 q.1.1))) else if k = 10 then tr3Y (rwY n) (xpY 3 q.1.1) else xpY 3 q.1.1) := by sorry
theorem lf_clF {N : Int → Int} {a : FrZ} {F : List FrZ} {n : Nat} {q : ZS × Int} (h : rwkY a.1) (ih : ∀ n z, (sfM N F n z).1 = sfY (F.map (·.1)) n z.1) : (clF N a F n q).1 = clY a.1 (F.map (·.1)) n q.1.1 := by sorry
theorem lf_sf {N : Int → Int} : ∀ (F : List FrZ), WfF F → ∀ (n : Nat) (z : ZS), (sfM N F n z).1 = sfY (F.map (·.1)) n z.1 := by sorry
theorem lf_pcM {N : Int → Int} {a : FrZ} {F : List FrZ} {n : Nat} {z : ZS} (h : 0 ≤ a.1 ∧ a.1 ≤ 11) (hw : WfF F) : (pcM N (a :: F) n z).1 = pcY (if a.2.2.2.1.getD 0 0 < 0 then 1 else 0) ((a :: F).map (·.1)) n z.1 := by sorry
/-! frames against what is known of S's: where a jump leads to -/
def kjS (z : ZS) (j : Nat) : Int := (reS z j).1.1
def ljS (z : ZS) (j : Nat) : Int := (reS z j).2.2.2.2.2.2.2.1
def tjS (z : ZS) (j : Nat) : Int := (reS z j).2.2.2.2.2.2.2.2
def kdF (k : Int) : Int := if k = 0 then 92 else if k = 1 then 2 else if k = 2 ∨ k = 3 then 56 else if k = 4 then 58 else if k = 5 then 59 else if k = 6 then 60 else if k = 7 then 6 else if k = 8 then 61 else 68
/-- a row's own S -/
def owF (a : FrZ) : Nat := if 9 ≤ a.1 ∧ a.1 ≤ 11 then (a.2.2.2.1.getD 3 0).toNat else a.2.1
def hdF : List FrZ → Int × Nat
  | [] => (0, 0)
  | b :: _ => (b.1, b.2.1)
def AcZ (z : ZS) : List FrZ → Int → Nat → Prop
  | [], i, _ => i = -1
  | a :: F, i, m => i = (owF a : Int) ∧ a.2.1 ≤ owF a ∧ owF a < m ∧ (0 ≤ a.1 ∧ a.1 ≤ 12) ∧ kjS z a.2.1 = kdF a.1 ∧ (9 ≤ a.1 ∧ a.1 ≤ 11 → a.2.1 < owF a ∧ kjS z (owF a) = 92 ∧ paS z (owF a) = (a.2.1 : Int)) ∧ (¬ a.1 = 0 → tjS z a.2.1 = (a.2.2.1.2 : Int)) ∧ (a.1 = 7 → ljS z a.2.1 = fiS z a.2.1) ∧ ((hdF F).1 = 7 → a.2.1 = (hdF F).2 + 1) ∧ AcZ z F (paS z a.2.1) a.2.1
/-- a target as a thing; by the frames; u: the frame above -/
def thJ (z : ZS) (r : Int) : Int := if r < 0 then -2 else tjS z r.toNat
def tgF (N : Int → Int) (z : ZS) (on : Bool) (t : Int) : Int × Int → List FrZ → Int
  | _, [] => -2
  | u, a :: F => if t < 0 then (if a.1 = 4 ∨ a.1 = 5 ∨ a.1 = 6 ∨ (on = false ∧ a.1 = 8) then (a.2.2.1.2 : Int) else tgF N z on t (a.1, (a.2.2.1.2 : Int)) F)
    else if a.1 = 7 ∧ N (fiS z a.2.1) = N t then (if on = false then (a.2.2.1.2 : Int) else if u.1 = 4 ∨ u.1 = 5 ∨ u.1 = 6 then u.2 else -2)
    else tgF N z on t (a.1, (a.2.2.1.2 : Int)) F
theorem tg_s {N : Int → Int} {z : ZS} {on : Bool} {t : Int} {k j : Nat} : tgZ N z.2.2.1.2 on t (k + 1) (j : Int) = (if t < 0 then (if kjS z j = 58 ∨ kjS z j = 59 ∨ kjS z j = 60 ∨ (on = false ∧ kjS z j = 61) then (j : Int) else tgZ N z.2.2.1.2 on t k (paS z j))
    else if kjS z j = 6 ∧ N (ljS z j) = N t then (if on = false then (j : Int) else if kjS z (j + 1) = 58 ∨ kjS z (j + 1) = 59 ∨ kjS z (j + 1) = 60 then (j : Int) + 1 else -1)
    else tgZ N z.2.2.1.2 on t k (paS z j)) := by sorry
theorem tg_no {N : Int → Int} {z : ZS} {on : Bool} {t : Int} {k j : Nat} (h : ¬ kjS z j = 58 ∧ ¬ kjS z j = 59 ∧ ¬ kjS z j = 60 ∧ ¬ kjS z j = 61 ∧ ¬ kjS z j = 6) : tgZ N z.2.2.1.2 on t (k + 1) (j : Int) = tgZ N z.2.2.1.2 on t k (paS z j) := by sorry
theorem tgF_no {N : Int → Int} {z : ZS} {on : Bool} {t : Int} {u : Int × Int} {a : FrZ} {F : List FrZ} (h : ¬ a.1 = 4 ∧ ¬ a.1 = 5 ∧ ¬ a.1 = 6 ∧ ¬ a.1 = 7 ∧ ¬ a.1 = 8) : tgF N z on t u (a :: F) = tgF N z on t (a.1, (a.2.2.1.2 : Int)) F := by sorry
theorem kd_lo {k : Int} (h : 0 ≤ k ∧ k ≤ 12) : (kdF k = 58 ∨ kdF k = 59 ∨ kdF k = 60) ↔ (k = 4 ∨ k = 5 ∨ k = 6) := by sorry
theorem tg_F {N : Int → Int} {z : ZS} {on : Bool} {t : Int} : ∀ (F : List FrZ) (i : Int) (m k : Nat) (u : Int × Int), AcZ z F i m → m ≤ k → ((hdF F).1 = 7 → ((kjS z ((hdF F).2 + 1) = 58 ∨ kjS z ((hdF F).2 + 1) = 59 ∨ kjS z ((hdF F).2 + 1) = 60) ↔ (u.1 = 4 ∨ u.1 = 5 ∨ u.1 = 6)) ∧ ((u.1 = 4 ∨ u.1 = 5 ∨ u.1 = 6) → tjS z ((hdF F).2 + 1) = u.2)) → thJ z (tgZ N z.2.2.1.2 on t k i) = tgF N z on t u F := by sorry
/-- break, continue -/
theorem tq_F {N : Int → Int} {z : ZS} {on : Bool} {t : Int} {F : List FrZ} (h : AcZ z F z.2.2.2.1.2 (snM z)) (hu : (hdF F).1 = 7 → ¬ (kjS z ((hdF F).2 + 1) = 58 ∨ kjS z ((hdF F).2 + 1) = 59 ∨ kjS z ((hdF F).2 + 1) = 60)) : tqM N on t z = tgF N z on t (-1, -1) F := by sorry
/-- what of an S stays once it has begun -/
def SgZ (z z' : ZS) : Prop := snM z ≤ snM z' ∧ ∀ j, j < snM z → (reS z' j).1 = (reS z j).1 ∧ (reS z' j).2.1 = (reS z j).2.1 ∧ tjS z' j = tjS z j ∧ (kjS z j = 6 → ljS z' j = ljS z j)
theorem SgZ.rf {z : ZS} : SgZ z z := ⟨Nat.le_refl _, fun _ _ => ⟨rfl, rfl, rfl, fun _ => rfl⟩⟩
theorem SgZ.tr {z z' z'' : ZS} (h : SgZ z z') (h' : SgZ z' z'') : SgZ z z'' := by sorry
theorem SgZ.e {z z' : ZS} (h : z'.2.2.1 = z.2.2.1) : SgZ z z' := by sorry
theorem SgZ.be {z : ZS} {k lv : Int} : SgZ z (beM k lv z) := by sorry
theorem SgZ.se {z : ZS} {i : Nat} {f : SrZ → SrZ} (h : ∀ x, (f x).1 = x.1 ∧ (f x).2.1 = x.2.1 ∧ (f x).2.2.2.2.2.2.2.2 = x.2.2.2.2.2.2.2.2) (hl : kjS z i = 6 → ∀ x, (f x).2.2.2.2.2.2.2.1 = x.2.2.2.2.2.2.2.1) : SgZ z (seM i f z) := by sorry
theorem AcZ.g {z z' : ZS} (h : SgZ z z') : ∀ {F : List FrZ} {i : Int} {m : Nat}, m ≤ snM z → AcZ z F i m → AcZ z' F i m := by sorry
/-! variables that are known, by the frames; where they end -/
/-- the number that a frame's variables name -/
def nuF (a : FrZ) : Int := if a.1 = 12 then 1000 + 3 * (a.2.2.1.2 : Int) + 1 else if 9 ≤ a.1 then 1000 + 3 * (a.2.2.1.2 : Int) + (a.1 - 9) else (a.2.2.1.2 : Int)
def scF (k : Int) : Bool := decide (k = 0) || decide (k = 1) || decide (k = 6) || decide (8 ≤ k)
def KnZ (w : Nat → Int) : List FrZ → List (Int × Int) → Prop
  | [], l => l = []
  | a :: F, l => if scF a.1 = true then ∃ seg, l = seg ++ a.2.2.2.2 ∧ (∀ p ∈ seg, 0 ≤ p.1 ∧ w p.1.toNat = nuF a) ∧ KnZ w F a.2.2.2.2 else KnZ w F l
/-- things go down -/
def FtZ : List FrZ → Nat → Prop
  | [], _ => True
  | a :: F, m => a.2.2.1.2 < m ∧ a.1 ≤ 12 ∧ FtZ F a.2.2.1.2
theorem FtZ.m {F : List FrZ} {m m' : Nat} (h : FtZ F m) (hm : m ≤ m') : FtZ F m' := by sorry
theorem kn_in {w : Nat → Int} : ∀ {F : List FrZ} {l : List (Int × Int)} {m : Nat}, KnZ w F l → FtZ F m → ∀ p ∈ l, 0 ≤ p.1 ∧ ∃ b : FrZ, b.2.2.1.2 < m ∧ b.1 ≤ 12 ∧ w p.1.toNat = nuF b := by sorry
theorem nu_ne {a b : FrZ} (h : b.2.2.1.2 < a.2.2.1.2) (ha : a.2.2.1.2 < 1000) (h1 : a.1 ≤ 12) (h2 : b.1 ≤ 12) : ¬ nuF b = nuF a := by sorry
theorem ve_in {t : Int} {f : Nat → Int} {k : Nat} : ∀ {l : List (Int × Int)}, (∃ p ∈ l, p.1 = (k : Int)) → veZ t l f k = t := by sorry
theorem ve_no {t : Int} {f : Nat → Int} {k : Nat} : ∀ {l : List (Int × Int)}, ¬ (∃ p ∈ l, p.1 = (k : Int)) → veZ t l f k = f k := by sorry
/-- ends: -2 where known -/
def EnZ (e : Nat → Int) (l : List (Int × Int)) (f : Nat → Int) (n : Nat) : Prop := ∀ v, v < n → ((∃ p ∈ l, p.1 = (v : Int)) → e v = -2) ∧ (¬ (∃ p ∈ l, p.1 = (v : Int)) → 0 ≤ e v ∧ e v = f v)
/-- a frame is left -/
theorem EnZ.lv {e w f : Nat → Int} {n : Nat} {a : FrZ} {F : List FrZ} {l : List (Int × Int)} {m : Nat} {t : Int} {e' : Nat → Int} (h : EnZ e l f n) (hk : KnZ w (a :: F) l) (hs : scF a.1 = true) (ht : FtZ (a :: F) m) (hm : m ≤ 1000) (h0 : 0 ≤ t) (he : ∀ v, v < n → e' v = if w v = nuF a ∧ e v < 0 then t else e v) : EnZ e' a.2.2.2.2 (veZ t (l.take (l.length - a.2.2.2.2.length)) f) n ∧ KnZ w F a.2.2.2.2 := by sorry
/-- one more variable, known in the frame on top -/
theorem EnZ.va {e e' f : Nat → Int} {n : Nat} {l : List (Int × Int)} {y : Int} (h : EnZ e l f n) (he : ∀ v, v < n → e' v = e v) (hn : e' n = -2) : EnZ e' (((n : Int), y) :: l) f (n + 1) := by sorry
/-- the frame that a variable's number comes from: the first that is one -/
def sfF : List FrZ → Int
  | [] => 0
  | a :: F => if scF a.1 = true then nuF a else sfF F
theorem KnZ.w {w w' : Nat → Int} : ∀ {F : List FrZ} {l : List (Int × Int)} {n : Nat}, KnZ w F l → (∀ p ∈ l, p.1 < (n : Int)) → (∀ v, v < n → w' v = w v) → KnZ w' F l := by sorry
theorem KnZ.va {w : Nat → Int} : ∀ {F : List FrZ} {l : List (Int × Int)} {n : Nat} {y : Int}, KnZ w F l → (∃ a ∈ F, scF a.1 = true) → w n = sfF F → KnZ w F (((n : Int), y) :: l) := by sorry
/-! what is laid stays -/
abbrev IgM (f : ZS → ZS) : Prop := ∀ z, z.2.1 <:+ (f z).2.1
theorem ig_cl {p : Int} : ∀ (W : WtZ) (z : ZS), z.2.1 <:+ (clM p W z).2.1 := by sorry
theorem ig_fk {z : ZS} : z.2.1 <:+ (fkM z).2.1 := by sorry
theorem ig_tk {N : Int → Int} {z : ZS} : z.2.1 <:+ (tkM N z).2.1 := by sorry
theorem ig_chl {O : ZS → ZS} (h : IgM O) : ∀ (f : Nat) (W : WtZ) (r : Int × Int) (z : ZS), z.2.1 <:+ (chlM O f W r z).2.1 := by sorry
theorem ig_chc {O E C : ZS → ZS} (hO : IgM O) (hE : IgM E) (hC : IgM C) : IgM (chcM O E C) := by sorry
theorem ig_xps {N : Int → Int} {O E C : ZS → ZS} (hO : IgM O) (hE : IgM E) (hC : IgM C) : IgM (xpsM N O E C) := by sorry
theorem ig_clp {E : ZS → ZS} (hE : IgM E) (r : Int × Int) : ∀ (f : Nat) (l : List Int) (z : ZS), z.2.1 <:+ (clpM E r f l z).2.1 := by sorry
theorem ig_opr {N : Int → Int} {m : Nat} {E : ZS → ZS} {I : Int → ZS → ZS} (hE : IgM E) (hI : ∀ g, IgM (I g)) (g : Int) : IgM (oprM N m E I g) := by sorry
theorem ig_lv {N : Int → Int} : ∀ n, IgM (eM N n) ∧ IgM (cM N n) ∧ ∀ g, IgM (oM N n g) := by sorry
theorem ig_e {N : Int → Int} {n : Nat} : IgM (eM N n) := (ig_lv n).1
/-- the c-th that was laid -/
def itN : List ItZ → Nat → Option ItZ
  | [], _ => none
  | x :: l, c => if c = l.length then some x else itN l c
theorem itN_c {x : ItZ} {l : List ItZ} {c : Nat} (h : c < l.length) : itN (x :: l) c = itN l c := by sorry
theorem itN_lt : ∀ {l : List ItZ} {c : Nat} {x : ItZ}, itN l c = some x → c < l.length := by sorry
theorem itN_g {l l' : List ItZ} {c : Nat} {x : ItZ} (h : l <:+ l') (q : itN l c = some x) : itN l' c = some x := by sorry
/-! the reference's codes against an exp's records -/
def opkZ (x : XrZ) : Int := if x.1.1 ≤ 1 then 1 else if x.1.1 = 2 then 2 else if x.1.1 = 3 then 15 else if x.1.1 = 4 then 5 else if x.1.1 = 5 then 6 else if x.1.1 = 6 then (if x.2.1.1 = x.1.2.2.1 then 3 else 4) else if x.1.1 = 7 then (if x.1.2.1 = 21 then 9 else if x.1.2.1 = 20 then 11 else 7) else if x.1.1 = 8 then 14 else if x.1.1 = 9 then 17 else if x.1.1 = 10 then 18 else if x.1.1 = 11 then (if x.1.2.1 = 21 then 8 else 10) else if x.1.1 = 12 then 12 else if x.1.1 = 13 then 13 else if x.1.1 = 15 then 22 else 16
/-- a literal's TYPE -/
def ltyZ (c : Int) : Int := if c = 81 then 3 else if c = 82 then 4 else if c = 83 then 2 else 0
def cmZ (op a b tk f l : Int) (x : XrZ) : Prop :=
  op = opkZ x ∧ (x.1.1 ≤ 10 → f = x.1.2.2.1 ∧ l = x.1.2.2.2) ∧ ((x.1.1 ≤ 2 ∨ x.1.1 = 6 ∨ x.1.1 = 9 ∨ x.1.1 = 10 ∨ x.1.1 = 14) → tk = x.2.1.1) ∧
  (x.1.1 ≤ 1 → a = ltyZ x.1.2.1 ∧ (x.1.1 = 0 → b = if x.2.1.2.1 = 1 then 1 else 0)) ∧ ((x.1.1 = 4 ∨ x.1.1 = 6 ∨ x.1.1 = 7) → (a, x.1.2.1) ∈ sgT) ∧ (x.1.1 = 5 → a = x.2.1.2.2) ∧
  (x.1.1 = 9 → if x.1.2.1 = 8 then a = 61 else (a - 400, x.1.2.1) ∈ sgT) ∧ (x.1.1 = 10 → a = x.2.2.2.length) ∧ (x.1.1 = 14 → (a + 400, x.1.2.1) ∈ sgT) ∧ (x.1.1 = 15 → a = x.2.1.2.1 ∧ b = 1)
theorem cm_lit {g : Int} {i : Nat} {s : SpC} {op a b tk f l : Int} (ho : op = 1) (hf : f = zAt s) (hl : l = zAt s) (ht : tk = zAt s) (ha : a = ltyZ (codY s)) (hb : b = if g = 1 then 1 else 0) (hc : codY s = 81 ∨ codY s = 82 ∨ codY s = 83 ∨ codY s = 72 ∨ codY s = 73) : cmZ op a b tk f l (litZ g i s) := by sorry
theorem cm_nam {v : Int} {i : Nat} {s : SpC} {op a b tk f l : Int} (ho : op = 2) (hf : f = zAt s) (hl : l = zAt s) (ht : tk = zAt s) : cmZ op a b tk f l (namZ v i s) := by sorry
theorem cm_par {t st : Int} {i : Nat} {s : SpC} {op a b tk f l : Int} (ho : op = 15) (hf : f = t) (hl : l = zAt s) : cmZ op a b tk f l (parZ t st i s) := by sorry
theorem cm_aln {sg t st : Int} {i : Nat} {s : SpC} {op a b tk f l : Int} (ho : op = 5) (hf : f = t) (hl : l = zAt s - 1) (ha : (a, sg) ∈ sgT) : cmZ op a b tk f l (alnZ sg t st i s) := by sorry
theorem cm_cas {ty t st : Int} {i : Nat} {s : SpC} {op a b tk f l : Int} (ho : op = 6) (hf : f = t) (hl : l = zAt s - 1) (ha : a = ty) : cmZ op a b tk f l (casZ ty t st i s) := by sorry
theorem cm_pos {v : Int} {i : Nat} {s : SpC} {op a b tk f l : Int} (ho : op = 3) (hf : f = zAt s) (hl : l = zAt s + 1) (ht : tk = zAt s) (ha : (a, cobY s) ∈ sgT) : cmZ op a b tk f l (posZ v i s) := by sorry
theorem cm_pre {v : Int} {i : Nat} {s : SpC} {op a b tk f l : Int} (ho : op = 4) (hf : f = zAt s) (hl : l = zAt s + 1) (ht : tk = zAt s + 1) (ha : (a, codY s) ∈ sgT) : cmZ op a b tk f l (preZ v i s) := by sorry
theorem cm_chn {sg f0 st a0 mk : Int} {i : Nat} {s : SpC} {op a b tk f l : Int} (ho : op = if sg = 21 then 9 else if sg = 20 then 11 else 7) (hf : f = f0) (hl : l = zAt s - 1) (ha : (a, sg) ∈ sgT) : cmZ op a b tk f l (chnZ sg f0 st a0 mk i s) := by sorry
theorem cm_chr {f0 st a0 b0 mk : Int} {i : Nat} {s : SpC} {op a b tk f l : Int} (ho : op = 14) (hf : f = f0) (hl : l = zAt s - 1) : cmZ op a b tk f l (chrZ f0 st a0 b0 mk i s) := by sorry
theorem cm_asr {v sg t st mk : Int} {i : Nat} {s : SpC} {op a b tk f l : Int} (ho : op = 17) (hf : f = t) (hl : l = zAt s - 1) (ht : tk = t) (ha : if opfZ sg = 8 then a = 61 else (a - 400, opfZ sg) ∈ sgT) : cmZ op a b tk f l (asrZ v sg t st mk i s) := by sorry
theorem cm_cal {t st : Int} {ar : List Int} {s : SpC} {op a b tk f l : Int} (ho : op = 18) (hf : f = t) (hl : l = zAt s) (ht : tk = t) (ha : a = ar.length) : cmZ op a b tk f l (calZ t st ar s) := by sorry
theorem cm_frk {i : Nat} {s : SpC} {op a b tk f l : Int} (ho : op = if codY s = 21 then 8 else 10) : cmZ op a b tk f l (frkZ i s) := by sorry
theorem cm_thn {i : Nat} {s : SpC} {op a b tk f l : Int} (ho : op = 12) : cmZ op a b tk f l (thnZ i s) := by sorry
theorem cm_els {th : Int} {i : Nat} {s : SpC} {op a b tk f l : Int} (ho : op = 13) : cmZ op a b tk f l (elsZ th i s) := by sorry
theorem cm_tak {v : Int} {i : Nat} {s : SpC} {op a b tk f l : Int} (ho : op = 16) (ht : tk = zAt s) (ha : (a + 400, cobY s) ∈ sgT) : cmZ op a b tk f l (takZ v i s) := by sorry
theorem cm_sto {v j st : Int} {i : Nat} {s : SpC} {op a b tk f l : Int} (ho : op = 22) (ha : a = v) (hb : b = 1) : cmZ op a b tk f l (stoZ v j st i s) := by sorry
theorem sgT_sZ : ∀ p ∈ sgT, (stR (Int32.ofInt p.1)).toInt = strZ p.2 := by sorry
theorem sgT_aZ : ∀ p ∈ sgT, 8 ≤ p.2 ∧ p.2 ≤ 19 → if opfZ p.2 = 8 then p.1 = 61 else (p.1 - 400, opfZ p.2) ∈ sgT := by sorry
theorem sgT_8 : ∀ p ∈ sgT, p.2 = 8 ↔ p.1 = 61 := by sorry
theorem str_st {a : Int32} {x : Int} (h : (a.toInt, x) ∈ sgT) : (stR a).toInt = strZ x := by sorry
def ccZ (τ : RS) (c : Nat) (x : XrZ) : Prop := cmZ (aI τ 19 c).toInt (aI τ 20 c).toInt (aI τ 21 c).toInt (aI τ 22 c).toInt (aI τ 23 c).toInt (aI τ 24 c).toInt x
/-- a code of an S -/
def itR (th : Int → Int) (τ : RS) (c : Nat) : ItZ → Prop
  | .inl x => ccZ τ c x
  | .inr x => (aI τ 19 c).toInt = x.1 ∧ (aI τ 20 c).toInt = th x.2.1 ∧ (aI τ 21 c).toInt = x.2.2.1 ∧ (aI τ 22 c).toInt = x.2.2.2.1
/-- the codes, the last one first -/
def IcR (th : Int → Int) (τ : RS) : List ItZ → Prop
  | [] => True
  | x :: l => itR th τ l.length x ∧ IcR th τ l
theorem ccZ.fr {σ τ : RS} {c : Nat} {x : XrZ} (h : ∀ k, 19 ≤ k → k ≤ 24 → aI τ k c = aI σ k c) (q : ccZ σ c x) : ccZ τ c x := by sorry
theorem itR.fr {th : Int → Int} {σ τ : RS} {c : Nat} {x : ItZ} (h : ∀ k, 19 ≤ k → k ≤ 24 → aI τ k c = aI σ k c) (q : itR th σ c x) : itR th τ c x := by sorry
theorem IcR.fr {th : Int → Int} {σ τ : RS} : ∀ {L : List ItZ}, (∀ k, 19 ≤ k → k ≤ 24 → ∀ j, j < L.length → aI τ k j = aI σ k j) → IcR th σ L → IcR th τ L := by sorry
/-- what is laid -/
def PcM (th : Int → Int) (τ : RS) (z : ZS) : Prop := IcR th τ z.2.1 ∧ nT (gI τ 18) = z.2.1.length
theorem PcM.fr {th : Int → Int} {σ τ : RS} {z : ZS} (h : PcM th σ z) (e : gI τ 18 = gI σ 18) (f : ∀ k, 19 ≤ k → k ≤ 24 → ∀ j, j < nT (gI σ 18) → aI τ k j = aI σ k j) : PcM th τ z := by sorry
theorem PcM.z {th : Int → Int} {σ : RS} {z z' : ZS} (h : PcM th σ z) (e : z'.2.1 = z.2.1) : PcM th σ z' := by sorry
theorem PcM.i {th : Int → Int} {σ : RS} {z : ZS} {k : Nat} {v : Int32} (h : PcM th σ z) (hk : k ≠ 18) : PcM th (sI σ k v) z := by sorry
theorem PcM.a {th : Int → Int} {σ : RS} {z : ZS} {k : Nat} {g : Nat → Int32} (h : PcM th σ z) (hk : k < 19 ∨ 24 < k) : PcM th (sA σ k g) z := h.fr rfl (fun j a b _ _ => by rw [aI_ne (by omega)])
theorem PcM.s1 {th : Int → Int} {k : Nat} {σ τ : RS} {z : ZS} (h : PcM th σ z) (e : S1 k σ τ) (hk : k ≠ 18) : PcM th τ z := by sorry
theorem PcM.pu {th : Int → Int} {σ τ : RS} {z : ZS} {s g t : Int32} (h : PcM th σ z) (e : Pu σ s g t τ) : PcM th τ z := by sorry
theorem PcM.st {th : Int → Int} {σ τ : RS} {z : ZS} {x : ItZ} (h : PcM th σ z) (e : nT (gI τ 18) = nT (gI σ 18) + 1) (f : ∀ k, 19 ≤ k → k ≤ 24 → ∀ j, j < nT (gI σ 18) → aI τ k j = aI σ k j) (m : itR th τ (nT (gI σ 18)) x) : PcM th τ (z.1, x :: z.2.1, z.2.2) := by sorry
/-- one code more, exactly -/
def EmZ (σ : RS) (op a b t f l : Int32) (τ : RS) : Prop := Em σ op a τ ∧ aI τ 21 = upd (aI σ 21) (nT (gI σ 18)) b ∧ aI τ 22 = upd (aI σ 22) (nT (gI σ 18)) t ∧ aI τ 23 = upd (aI σ 23) (nT (gI σ 18)) f ∧ aI τ 24 = upd (aI σ 24) (nT (gI σ 18)) l
theorem EmZ.n {σ τ : RS} {op a b t f l : Int32} (h : EmZ σ op a b t f l τ) : nT (gI τ 18) = nT (gI σ 18) + 1 := by sorry
theorem EmZ.o {σ τ : RS} {op a b t f l : Int32} (h : EmZ σ op a b t f l τ) {k j : Nat} (h1 : 19 ≤ k) (h2 : k ≤ 24) (hj : j < nT (gI σ 18)) : aI τ k j = aI σ k j := by sorry
theorem EmZ.c {σ τ : RS} {op a b t f l : Int32} (h : EmZ σ op a b t f l τ) : aI τ 19 (nT (gI σ 18)) = op ∧ aI τ 20 (nT (gI σ 18)) = a ∧ aI τ 21 (nT (gI σ 18)) = b ∧ aI τ 22 (nT (gI σ 18)) = t ∧ aI τ 23 (nT (gI σ 18)) = f ∧ aI τ 24 (nT (gI σ 18)) = l := by sorry
theorem PcM.em {th : Int → Int} {σ τ : RS} {z : ZS} {x : XrZ} {op a b t f l : Int32} (h : PcM th σ z) (e : EmZ σ op a b t f l τ) (m : cmZ op.toInt a.toInt b.toInt t.toInt f.toInt l.toInt x) : PcM th τ (puM x z) := by sorry
/-- values below an open sign -/
def vnZ : List OpZ → Nat
  | [] => 0
  | o :: O => (if o.1 = 2 ∨ o.1 = 6 then 1 else if o.1 = 7 then 2 else if o.1 = 4 then o.2.2.2.2.length else 0) + vnZ O
def sgZ (k x a : Int) : Prop := ((k = 0 ∨ k = 2 ∨ k = 5) → (a, x) ∈ sgT) ∧ (k = 1 → a = x) ∧ (k = 2 → 20 ≤ x ∧ x ≤ 38) ∧ (k = 5 → 8 ≤ x ∧ x ≤ 19)
def lnZ (k : Int) (l : List Int) : Prop := (k = 2 → ∃ a m, l = [a, m]) ∧ (k = 5 → ∃ m v, l = [m, v]) ∧ (k = 6 → ∃ a b, l = [a, b]) ∧ (k = 7 → ∃ a b m, l = [a, b, m])
/-- what stands open -/
def ozR (τ : RS) : List OpZ → Prop
  | [] => True
  | o :: O => ((aI τ 25 O.length).toInt = o.1 ∧ sgZ o.1 o.2.1 (aI τ 26 O.length).toInt ∧ (¬ (o.1 = 2 ∨ o.1 = 6 ∨ o.1 = 7) → (aI τ 27 O.length).toInt = o.2.2.1) ∧ (o.1 = 4 → (aI τ 28 O.length).toInt = o.2.2.2.2.length) ∧ ((o.1 = 2 ∨ o.1 = 6 ∨ o.1 = 7) → (aI τ 30 (vnZ O)).toInt = o.2.2.1) ∧ lnZ o.1 o.2.2.2.2) ∧ ozR τ O
def OzZ (τ : RS) (O : List OpZ) : Prop := ozR τ O ∧ (gI τ 29).toInt = O.length ∧ wfY (osZ O)
theorem ozR.fr {σ τ : RS} : ∀ {O : List OpZ}, (∀ k, 25 ≤ k → k ≤ 28 → ∀ j, j < O.length → aI τ k j = aI σ k j) → (∀ j, j < vnZ O → aI τ 30 j = aI σ 30 j) → ozR σ O → ozR τ O := by sorry
theorem OzZ.fr {σ τ : RS} {O : List OpZ} (h : OzZ σ O) (e : gI τ 29 = gI σ 29) (f : ∀ k, 25 ≤ k → k ≤ 28 → ∀ j, j < O.length → aI τ k j = aI σ k j) (v : ∀ j, j < vnZ O → aI τ 30 j = aI σ 30 j) : OzZ τ O := ⟨h.1.fr f v, by rw [e]; exact h.2.1, h.2.2⟩
theorem OzZ.i {σ : RS} {O : List OpZ} {k : Nat} {x : Int32} (h : OzZ σ O) (hk : k ≠ 29) : OzZ (sI σ k x) O := by sorry
theorem OzZ.a {σ : RS} {O : List OpZ} {k : Nat} {g : Nat → Int32} (h : OzZ σ O) (hk : k < 25 ∨ 30 < k ∨ k = 29) : OzZ (sA σ k g) O := by sorry
theorem OzZ.v {σ : RS} {O : List OpZ} {j : Nat} {x : Int32} (h : OzZ σ O) (hj : vnZ O ≤ j) : OzZ (sA σ 30 (upd (aI σ 30) j x)) O := by sorry
theorem OzZ.em {σ τ : RS} {O : List OpZ} {op a : Int32} (h : OzZ σ O) (e : Em σ op a τ) : OzZ τ O := by sorry
theorem OzZ.s1 {k : Nat} {σ τ : RS} {O : List OpZ} (h : OzZ σ O) (e : S1 k σ τ) (hk : k ≠ 29) : OzZ τ O := by sorry
theorem OzZ.sorts {τ : RS} {O : List OpZ} (h : OzZ τ O) : oR τ = osZ O := by sorry
theorem OzZ.pos {τ : RS} {o : OpZ} {O : List OpZ} (h : OzZ τ (o :: O)) : 0 < gI τ 29 := by sorry
theorem OzZ.cons {τ : RS} {O : List OpZ} (h : OzZ τ O) (p : 0 < gI τ 29) : ∃ o O', O = o :: O' := by sorry
theorem OzZ.nil {τ : RS} {O : List OpZ} (h : OzZ τ O) (p : gI τ 29 ≤ 0) : O = [] := by sorry
/-- the place of the top -/
theorem OzZ.top {τ : RS} {o : OpZ} {O : List OpZ} (h : OzZ τ (o :: O)) : (gI τ 29 - 1).toNatClampNeg = O.length := by sorry
theorem OzZ.pop {τ : RS} {o : OpZ} {O : List OpZ} (h : OzZ τ (o :: O)) : OzZ (sI τ 29 (gI τ 29 - 1)) O := by sorry
theorem OzZ.push {σ τ : RS} {O : List OpZ} {o : OpZ} {s g t : Int32} (h : OzZ σ O) (e : Pu σ s g t τ) (e8 : aI τ 28 = upd (aI σ 28) (nT (gI σ 29)) 0) (hs : s.toInt = o.1) (hg : sgZ o.1 o.2.1 g.toInt) (ht : ¬ (o.1 = 2 ∨ o.1 = 6 ∨ o.1 = 7) → t.toInt = o.2.2.1) (h4 : o.1 = 4 → o.2.2.2.2 = []) (hv : (o.1 = 2 ∨ o.1 = 6 ∨ o.1 = 7) → (aI σ 30 (vnZ O)).toInt = o.2.2.1) (hl : lnZ o.1 o.2.2.2.2) (hw : wfY (osZ (o :: O))) : OzZ τ (o :: O) := by sorry
/-- behind an operand: its first token, the last one, its code -/
def BhZ (τ : RS) (s : SpC) (O : List OpZ) (r : Int × Int) : Prop := (gI τ 31).toInt = vnZ O + 1 ∧ (aI τ 30 (vnZ O)).toInt = r.1 ∧ (gI τ 32).toInt = zAt s - 1 ∧ (gI τ 33).toInt + 1 = (gI τ 18).toInt
theorem BhZ.fr {σ τ : RS} {s : SpC} {O : List OpZ} {r : Int × Int} (h : BhZ σ s O r) (e1 : gI τ 31 = gI σ 31) (e2 : gI τ 32 = gI σ 32) (e3 : gI τ 33 = gI σ 33) (e4 : gI τ 18 = gI σ 18) (e5 : aI τ 30 (vnZ O) = aI σ 30 (vnZ O)) : BhZ τ s O r := by sorry
/-- whether a literal stands right behind a unary - -/
def gtZ (O : List OpZ) : Int := match O with
  | [] => 0
  | o :: _ => if o.1 = 0 ∧ o.2.1 = 35 then 1 else 0
/-- a sign ahead stands right ahead -/
def ahZ (O : List OpZ) (s : SpC) : Prop := match O with
  | [] => True
  | o :: _ => o.1 = 0 → o.2.2.1 + 1 = zAt s
/-- an operand or an exp to come -/
def wtM (N : Int → Int) (b : Int) (O : List OpZ) (n : Nat) (z : ZS) : ZS := if b = 1 then ewM N O n z else owM N (gtZ O) O n z
theorem wtM_1 {N : Int → Int} {O : List OpZ} {n : Nat} {z : ZS} : wtM N 1 O n z = ewM N O n z := if_pos rfl
theorem wtM_0 {N : Int → Int} {O : List OpZ} {n : Nat} {z : ZS} : wtM N 0 O n z = owM N (gtZ O) O n z := if_neg (by decide)
theorem gtZ_n {O : List OpZ} (h : ¬ tpZ O = 0) : gtZ O = 0 := by sorry
theorem wtM_o {N : Int → Int} {b : Int32} {O : List OpZ} {n : Nat} {z : ZS} (hb : bgR b (osZ O)) (hn : 1 ≤ n) (h : b = 0 ∨ nasY z.1) : wtM N b.toInt O n z = owM N (gtZ O) O n z := by sorry
theorem lf_wt {N : Int → Int} {b : Int32} {O : List OpZ} {n : Nat} {z : ZS} (hb : bgR b (osZ O)) : (wtM N b.toInt O n z).1 = wtY b.toInt (osZ O) n z.1 := by sorry
/-- a sign's token -/
theorem tk_in {k w c : Int} (h : tkR k w c) (h0 : 0 ≤ c) (h1 : c ≤ 42) : (w, c) ∈ sgT := by sorry
/-- NUMBERS with and without L -/
def TlZ (σ : RS) (s : SpC) : Prop := ∀ i, i < nT (gI σ 2) → i ≤ 500 → aI σ 3 i = 2 → (aI σ 10 i = 0 ∧ zK s i = 81) ∨ (¬ aI σ 10 i = 0 ∧ zK s i = 82)
/-- what a call of operand, behind tells -/
def OpM (N th : Int → Int) (σ0 τ : RS) (Φ : ZS) (n0 : Nat) (w : Option Value) : Prop :=
  (w = some (.int 0) ∧ FlR τ Φ.1) ∨ (w = some (.int 1) ∧ ∃ (z : ZS) (n : Nat) (O : List OpZ), XrR σ0 τ z.1 n ∧ OzZ τ O ∧ n + nbY (osZ O) = n0 ∧ PcM th τ z ∧
    ((gI τ 34 = 1 ∧ (gI τ 31).toInt = vnZ O ∧ ((gI τ 35 = 0 ∧ ahZ O z.1 ∧ wtM N 0 O n z = Φ) ∨ (gI τ 35 = 1 ∧ bgT (osZ O) ∧ wtM N 1 O n z = Φ))) ∨ (gI τ 34 = 0 ∧ ∃ r, BhZ τ z.1 O r ∧ foM N O [] n r z = Φ)))
/-! the reference's frames, things, variables against what is laid -/
theorem IcR.at {th : Int → Int} {τ : RS} : ∀ {l : List ItZ} {c : Nat} {x : ItZ}, IcR th τ l → itN l c = some x → itR th τ c x := by sorry
def FxR (σ : RS) (z : ZS) : List FrZ → Prop
  | [] => True
  | a :: F => ((aI σ 63 F.length).toInt = a.1 ∧ (aI σ 64 F.length).toInt = (a.2.2.1.2 : Int)) ∧ (¬ a.1 = 0 → (aI σ 65 F.length).toInt = (a.2.2.1.1 : Int) ∧ itN z.2.1 a.2.2.1.1 = some (.inr (20, 0, 0, fiS z a.2.1, -1)) ∧ (aI σ 60 a.2.2.1.2).toInt = fiS z a.2.1) ∧ FxR σ z F
theorem FxR.g {σ τ : RS} {z z' : ZS} (ig : z.2.1 <:+ z'.2.1) (sg : SgZ z z') : ∀ {F : List FrZ} {m : Nat} {i : Int} {b : Nat}, FxR σ z F → FtZ F m → AcZ z F i b → b ≤ snM z → (∀ k, k < m → aI τ 60 k = aI σ 60 k) → (∀ j, j < F.length → aI τ 63 j = aI σ 63 j ∧ aI τ 64 j = aI σ 64 j ∧ aI τ 65 j = aI σ 65 j) → FxR τ z' F := by sorry
theorem AcZ.m {z : ZS} {F : List FrZ} {i : Int} {m m' : Nat} (h : AcZ z F i m) (hm : m ≤ m') : AcZ z F i m' := by sorry
/-- F: the reference's frames; K: those of what is read (one more where its variables are told ahead of it) -/
def ZRx (σ : RS) (z : ZS) (F K : List FrZ) : Prop := PcM id σ z ∧ (nT (gI σ 49) = tnM z ∧ nT (gI σ 62) = F.length) ∧ (FxR σ z F ∧ FtZ F (tnM z) ∧ ∃ i b, b ≤ snM z ∧ AcZ z F i b) ∧ FtZ K (tnM z) ∧ AcZ z K z.2.2.2.1.2 (snM z) ∧ KnZ (fun v => (aI σ 47 v).toInt) K z.2.2.2.1.1 ∧ EnZ (fun v => (aI σ 48 v).toInt) z.2.2.2.1.1 z.2.2.2.2.1 (nT (gI σ 42)) ∧ ∀ p ∈ z.2.2.2.1.1, p.1 < (nT (gI σ 42) : Int)
abbrev ZR (σ : RS) (z : ZS) (F : List FrZ) : Prop := ZRx σ z F F
/-- what of the reference's state it looks at, the codes aside -/
def ZeR (σ τ : RS) : Prop := gI τ 42 = gI σ 42 ∧ gI τ 49 = gI σ 49 ∧ gI τ 62 = gI σ 62 ∧ aI τ 47 = aI σ 47 ∧ aI τ 48 = aI σ 48 ∧ aI τ 60 = aI σ 60 ∧ aI τ 63 = aI σ 63 ∧ aI τ 64 = aI σ 64 ∧ aI τ 65 = aI σ 65
theorem ZeR.i42 {σ τ : RS} (h : ZeR σ τ) : gI τ 42 = gI σ 42 := h.1
theorem ZeR.i49 {σ τ : RS} (h : ZeR σ τ) : gI τ 49 = gI σ 49 := h.2.1
theorem ZeR.i62 {σ τ : RS} (h : ZeR σ τ) : gI τ 62 = gI σ 62 := h.2.2.1
theorem ZeR.a47 {σ τ : RS} (h : ZeR σ τ) : aI τ 47 = aI σ 47 := h.2.2.2.1
theorem ZeR.a48 {σ τ : RS} (h : ZeR σ τ) : aI τ 48 = aI σ 48 := h.2.2.2.2.1
theorem ZeR.a60 {σ τ : RS} (h : ZeR σ τ) : aI τ 60 = aI σ 60 := h.2.2.2.2.2.1
theorem ZeR.a63 {σ τ : RS} (h : ZeR σ τ) : aI τ 63 = aI σ 63 := h.2.2.2.2.2.2.1
theorem ZeR.a64 {σ τ : RS} (h : ZeR σ τ) : aI τ 64 = aI σ 64 := h.2.2.2.2.2.2.2.1
theorem ZeR.a65 {σ τ : RS} (h : ZeR σ τ) : aI τ 65 = aI σ 65 := h.2.2.2.2.2.2.2.2
theorem ZeR.rf {σ : RS} : ZeR σ σ := ⟨rfl, rfl, rfl, rfl, rfl, rfl, rfl, rfl, rfl⟩
theorem ZeR.tr {σ τ υ : RS} (h : ZeR σ τ) (g : ZeR τ υ) : ZeR σ υ := by sorry
/-- more is laid, more S's: the frames stay -/
theorem ZRx.g {σ τ : RS} {z z' : ZS} {F K : List FrZ} (h : ZRx σ z F K) (p : PcM id τ z') (ig : z.2.1 <:+ z'.2.1) (sg : SgZ z z') (e : z'.2.2.2 = z.2.2.2) (q : ZeR σ τ) : ZRx τ z' F K := by sorry
/-- a code of an S is laid -/
theorem ZRx.co {σ τ : RS} {z : ZS} {F K : List FrZ} {x : Int × Int × Int × Int × Int} (h : ZRx σ z F K) (p : PcM id τ (z.1, .inr x :: z.2.1, z.2.2)) (q : ZeR σ τ) : ZRx τ (z.1, .inr x :: z.2.1, z.2.2) F K := h.g p (List.suffix_cons _ _) (SgZ.e rfl) rfl q
/-- an exp is laid -/
theorem ZRx.ex {σ τ : RS} {N : Int → Int} {n : Nat} {z : ZS} {F K : List FrZ} (h : ZRx σ z F K) (p : PcM id τ (eM N n z)) (q : ZeR σ τ) : ZRx τ (eM N n z) F K := h.g p (ig_e z) (SgZ.e (by rw [ks_e])) (by rw [ks_e]) q
/-- one reads on -/
theorem ZRx.z {σ τ : RS} {z z' : ZS} {F K : List FrZ} (h : ZRx σ z F K) (p : PcM id τ z) (e : z'.2 = z.2) (q : ZeR σ τ) : ZRx τ z' F K := by sorry
/-- an S begins; something is told of an S -/
theorem ZRx.be {σ : RS} {z : ZS} {F K : List FrZ} {k lv : Int} (h : ZRx σ z F K) : ZRx σ (beM k lv z) F K := h.g (h.1.z rfl) List.suffix_rfl SgZ.be rfl ZeR.rf
theorem ZRx.se {σ : RS} {z : ZS} {F K : List FrZ} {i : Nat} {f : SrZ → SrZ} (h : ZRx σ z F K) (hf : ∀ x, (f x).1 = x.1 ∧ (f x).2.1 = x.2.1 ∧ (f x).2.2.2.2.2.2.2.2 = x.2.2.2.2.2.2.2.2) (hl : kjS z i = 6 → ∀ x, (f x).2.2.2.2.2.2.2.1 = x.2.2.2.2.2.2.2.1) : ZRx σ (seM i f z) F K := h.g (h.1.z rfl) List.suffix_rfl (SgZ.se hf hl) rfl ZeR.rf
theorem ZRx.sNx {σ : RS} {z : ZS} {F K : List FrZ} {i : Nat} {v : Int} (h : ZRx σ z F K) : ZRx σ (seM i (sNx v) z) F K := h.se (fun _ => ⟨rfl, rfl, rfl⟩) (fun _ _ => rfl)
theorem ZRx.sBd {σ : RS} {z : ZS} {F K : List FrZ} {i : Nat} {v : Int} (h : ZRx σ z F K) : ZRx σ (seM i (sBd v) z) F K := h.se (fun _ => ⟨rfl, rfl, rfl⟩) (fun _ _ => rfl)
theorem ZRx.sOt {σ : RS} {z : ZS} {F K : List FrZ} {i : Nat} {v : Int} (h : ZRx σ z F K) : ZRx σ (seM i (sOt v) z) F K := h.se (fun _ => ⟨rfl, rfl, rfl⟩) (fun _ _ => rfl)
theorem ZRx.sLs {σ : RS} {z : ZS} {F K : List FrZ} {i : Nat} {v : Int} (h : ZRx σ z F K) : ZRx σ (seM i (sLs v) z) F K := h.se (fun _ => ⟨rfl, rfl, rfl⟩) (fun _ _ => rfl)
theorem ZRx.sEx {σ : RS} {z : ZS} {F K : List FrZ} {i : Nat} {v : Int} (h : ZRx σ z F K) : ZRx σ (seM i (sEx v) z) F K := h.se (fun _ => ⟨rfl, rfl, rfl⟩) (fun _ _ => rfl)
theorem ZRx.sLk {σ : RS} {z : ZS} {F K : List FrZ} {i : Nat} {v : Int} (h : ZRx σ z F K) (hk : ¬ kjS z i = 6) : ZRx σ (seM i (sLk v) z) F K := h.se (fun _ => ⟨rfl, rfl, rfl⟩) (fun q => absurd q hk)
/-- one thing more -/
theorem ZRx.th {σ τ : RS} {z : ZS} {F K : List FrZ} (h : ZRx σ z F K) (p : PcM id τ z) (e42 : gI τ 42 = gI σ 42) (e49 : nT (gI τ 49) = nT (gI σ 49) + 1) (e62 : gI τ 62 = gI σ 62) (a47 : aI τ 47 = aI σ 47) (a48 : aI τ 48 = aI σ 48) (a60 : ∀ k, k < nT (gI σ 49) → aI τ 60 k = aI σ 60 k) (a63 : aI τ 63 = aI σ 63) (a64 : aI τ 64 = aI σ 64) (a65 : aI τ 65 = aI σ 65) : ZRx τ (thM z) F K := by sorry
/-- a frame's variables are told ahead of it: the frame is one of what is read -/
theorem ZRx.k {σ : RS} {z : ZS} {F K : List FrZ} {a : FrZ} (h : ZRx σ z F K) (ht : FtZ (a :: K) (tnM z)) (ha : AcZ z (a :: K) (owF a : Int) (snM z)) (hk : KnZ (fun v => (aI σ 47 v).toInt) (a :: K) z.2.2.2.1.1) : ZRx σ (arM (owF a) z) F (a :: K) := by sorry
/-- a frame is opened -/
theorem ZRx.op {σ τ : RS} {z : ZS} {F : List FrZ} {a : FrZ} (h : ZRx σ z F (a :: F)) (p : PcM id τ z) (e42 : gI τ 42 = gI σ 42) (e49 : gI τ 49 = gI σ 49) (e62 : nT (gI τ 62) = F.length + 1) (a47 : aI τ 47 = aI σ 47) (a48 : aI τ 48 = aI σ 48) (a60 : aI τ 60 = aI σ 60) (ra : ∀ j, j < F.length → aI τ 63 j = aI σ 63 j ∧ aI τ 64 j = aI σ 64 j ∧ aI τ 65 j = aI σ 65 j) (n1 : (aI τ 63 F.length).toInt = a.1) (n2 : (aI τ 64 F.length).toInt = (a.2.2.1.2 : Int)) (n3 : ¬ a.1 = 0 → (aI τ 65 F.length).toInt = (a.2.2.1.1 : Int) ∧ itN z.2.1 a.2.2.1.1 = some (.inr (20, 0, 0, fiS z a.2.1, -1)) ∧ (aI τ 60 a.2.2.1.2).toInt = fiS z a.2.1) : ZR τ z (a :: F) := by sorry
/-! a frame's variables end; a frame is left; a variable is told -/
theorem ZRx.lv {σ τ : RS} {z : ZS} {F K : List FrZ} {a : FrZ} {t : Int} (h : ZRx σ z F (a :: K)) (p : PcM id τ z) (hs : scF a.1 = true) (h0 : 0 ≤ t) (hm : tnM z ≤ 1000) (e42 : gI τ 42 = gI σ 42) (e49 : gI τ 49 = gI σ 49) (e62 : gI τ 62 = gI σ 62) (a47 : aI τ 47 = aI σ 47) (a48 : ∀ v, v < nT (gI σ 42) → (aI τ 48 v).toInt = if (aI σ 47 v).toInt = nuF a ∧ (aI σ 48 v).toInt < 0 then t else (aI σ 48 v).toInt) (a60 : aI τ 60 = aI σ 60) (a63 : aI τ 63 = aI σ 63) (a64 : aI τ 64 = aI σ 64) (a65 : aI τ 65 = aI σ 65) : ZRx τ (veM t a.2.2.2.2 z) F (a :: K) ∧ KnZ (fun v => (aI τ 47 v).toInt) K a.2.2.2.2 := by sorry
/-- a frame that is no row's is left -/
theorem ZRx.po {σ τ : RS} {z : ZS} {F : List FrZ} {a : FrZ} (h : ZR σ z (a :: F)) (p : PcM id τ z) (h9 : ¬ 9 ≤ a.1 ∨ a.1 = 12) (hk : KnZ (fun v => (aI σ 47 v).toInt) F z.2.2.2.1.1) (e42 : gI τ 42 = gI σ 42) (e49 : gI τ 49 = gI σ 49) (e62 : nT (gI τ 62) + 1 = nT (gI σ 62)) (a47 : aI τ 47 = aI σ 47) (a48 : aI τ 48 = aI σ 48) (a60 : aI τ 60 = aI σ 60) (a63 : aI τ 63 = aI σ 63) (a64 : aI τ 64 = aI σ 64) (a65 : aI τ 65 = aI σ 65) : ZR τ (unM a.2.1 z) F := by sorry
/-- a variable is told in the frame on top -/
theorem ZRx.va {σ τ : RS} {z : ZS} {F K : List FrZ} {N : Int → Int} {ty f g : Int} (h : ZRx σ z F K) (p : PcM id τ z) (hv : (zVs z.1).length = nT (gI σ 42)) (hsc : ∃ a ∈ K, scF a.1 = true) (e42 : nT (gI τ 42) = nT (gI σ 42) + 1) (e49 : gI τ 49 = gI σ 49) (e62 : gI τ 62 = gI σ 62) (a47 : ∀ v, v < nT (gI σ 42) → aI τ 47 v = aI σ 47 v) (n47 : (aI τ 47 (nT (gI σ 42))).toInt = sfF K) (a48 : ∀ v, v < nT (gI σ 42) → aI τ 48 v = aI σ 48 v) (n48 : (aI τ 48 (nT (gI σ 42))).toInt = -2) (a60 : aI τ 60 = aI σ 60) (a63 : aI τ 63 = aI σ 63) (a64 : aI τ 64 = aI σ 64) (a65 : aI τ 65 = aI σ 65) : ZRx τ (dcM N ty f g z) F K := by sorry
/-! no run of the parse changes a row of longs -/
def lsI (x : RI) : Bool := match x.1 with
  | .lastore => false
  | _ => true
def ivI (x : RI) : Bool := match x.1 with
  | .invokevirtual _ => true
  | _ => false
theorem rxe_aL {x : RI} {pc : Nat} {ls : RL} {st : List Value} {σ : RS} {N : RK} {J : Nat → List Value → Prop} {R : Option Value → Prop} {C : Nat → List Value → List Value → Prop} (hx : lsI x = true) (h : rxe x pc ls st σ N J R C) : (∃ pc' ls' st' σ', aL σ' = aL σ ∧ N pc' ls' st' σ') ∨ (∃ t st', J t st') ∨ (∃ w, R w) ∨ (ivI x = true ∧ ∃ As st', C x.2.2.2.1 As st') := by sorry
theorem rfd_in {pc : Nat} {is : List RI} : ∀ {bs : RB}, rfd bs pc = some is → ∃ b ∈ bs, b.2 = is := by sorry
theorem evf_in {μ : Nat} {bs : RB} : ∀ {l : List (Nat × RB)}, evf l μ = some bs → ∃ q ∈ l, q.1 = μ ∧ q.2 = bs := by sorry
def mmL : List Nat → Nat → Bool
  | [], _ => false
  | a :: l, k => Nat.beq a k || mmL l k
/-- an instruction that is told so, and calls one of M -/
def okL (M : List Nat) (x : RI) : Bool := lsI x && (!ivI x || mmL M x.2.2.2.1)
def ckL (M : List Nat) (l : List (Nat × RB)) : Bool := l.all (fun q => !mmL M q.1 || q.2.all (fun b => b.2.all (okL M)))
theorem ev_aL {M : List Nat} (hM : ckL M evT = true) : ∀ (n μ : Nat) (is : List RI) (pc : Nat) (ls : RL) (st : List Value) (σ : RS) (w : Option Value) (τ : RS), mmL M μ = true → (∀ x ∈ is, okL M x = true) → Ev n μ is pc ls st σ w τ → aL τ = aL σ := by sorry
/-- a contract, and the longs are the same -/
def LqR (Q : UQ1) : UQ1 := fun A1 σ w τ => Q A1 σ w τ ∧ aL τ = aL σ
theorem UMet.aL {M : List Nat} {μ : Nat} {P : UP1} {Q : UQ1} (hM : ckL M evT = true) (hm : mmL M μ = true) (h : UMet μ P Q) : UMet μ P (LqR Q) := by sorry
/-! exps lay exps alone -/
def XsR (l l' : List ItZ) : Prop := ∃ t : List XrZ, l' = t.map Sum.inl ++ l
theorem XsR.rf {l : List ItZ} : XsR l l := ⟨[], rfl⟩
theorem XsR.pu {x : XrZ} {l : List ItZ} : XsR l (.inl x :: l) := ⟨[x], rfl⟩
theorem XsR.trans {l l' l'' : List ItZ} (h : XsR l l') (h' : XsR l' l'') : XsR l l'' := by sorry
theorem XsR.ig {l l' : List ItZ} (h : XsR l l') : l <:+ l' := by sorry
abbrev IxM (f : ZS → ZS) : Prop := ∀ z, XsR z.2.1 (f z).2.1
theorem ix_cl {p : Int} : ∀ (W : WtZ) (z : ZS), XsR z.2.1 (clM p W z).2.1 := by sorry
theorem ix_fk {z : ZS} : XsR z.2.1 (fkM z).2.1 := by sorry
theorem ix_tk {N : Int → Int} {z : ZS} : XsR z.2.1 (tkM N z).2.1 := by sorry
theorem ix_chl {O : ZS → ZS} (h : IxM O) : ∀ (f : Nat) (W : WtZ) (r : Int × Int) (z : ZS), XsR z.2.1 (chlM O f W r z).2.1 := by sorry
theorem ix_chc {O E C : ZS → ZS} (hO : IxM O) (hE : IxM E) (hC : IxM C) : IxM (chcM O E C) := by sorry
theorem ix_xps {N : Int → Int} {O E C : ZS → ZS} (hO : IxM O) (hE : IxM E) (hC : IxM C) : IxM (xpsM N O E C) := by sorry
theorem ix_clp {E : ZS → ZS} (hE : IxM E) (r : Int × Int) : ∀ (f : Nat) (l : List Int) (z : ZS), XsR z.2.1 (clpM E r f l z).2.1 := by sorry
theorem ix_opr {N : Int → Int} {m : Nat} {E : ZS → ZS} {I : Int → ZS → ZS} (hE : IxM E) (hI : ∀ g, IxM (I g)) (g : Int) : IxM (oprM N m E I g) := by sorry
theorem ix_lv {N : Int → Int} : ∀ n, IxM (eM N n) ∧ IxM (cM N n) ∧ ∀ g, IxM (oM N n g) := by sorry
theorem ix_e {N : Int → Int} {n : Nat} : IxM (eM N n) := (ix_lv n).1
/-! an exp's own record comes last -/
def HdZ (l : List ItZ) : Prop := ∃ x t, l = .inl x :: t ∧ x.1.1 ≤ 10
abbrev HdM (f : ZS → ZS) : Prop := ∀ z, zFt (f z).1 = 0 → HdZ (f z).2.1
theorem hd_pu {x : XrZ} {z : ZS} (hk : x.1.1 ≤ 10) : HdZ (puM x z).2.1 := ⟨x, _, rfl, hk⟩
theorem hd_cl {p : Int} : ∀ (W : WtZ) (z : ZS), HdZ z.2.1 → HdZ (clM p W z).2.1 := by sorry
theorem hd_chl {O : ZS → ZS} {o : SpC → SpC} (hL : LfM O o) (hG : GdY o) (hO : HdM O) : ∀ (f : Nat) (W : WtZ) (r : Int × Int) (z : ZS), HdZ z.2.1 → zFt (chlM O f W r z).1 = 0 → HdZ (chlM O f W r z).2.1 := by sorry
theorem hd_ch2 {E C : ZS → ZS} {r : Int × Int} {z : ZS} (h : HdZ z.2.1) : HdZ (ch2M E C r z).2.1 := by sorry
theorem hd_chc {O E C : ZS → ZS} {o e c : SpC → SpC} (lO : LfM O o) (lE : LfM E e) (lC : LfM C c) (gO : GdY o) (gE : GdY e) (gC : GdY c) (hO : HdM O) : HdM (chcM O E C) := by sorry
theorem hd_xps {N : Int → Int} {O E C : ZS → ZS} {o e c : SpC → SpC} (lO : LfM O o) (lE : LfM E e) (lC : LfM C c) (gO : GdY o) (gE : GdY e) (gC : GdY c) (hO : HdM O) : HdM (xpsM N O E C) := by sorry
theorem hd_cle {r : Int × Int} {l : List Int} {z : ZS} : HdZ (cleM r l z).2.1 := by sorry
theorem hd_clp {E : ZS → ZS} {r : Int × Int} : ∀ (f : Nat) (l : List Int) (z : ZS), HdZ (clpM E r f l z).2.1 := by sorry
theorem hd_opr {N : Int → Int} {m : Nat} {E : ZS → ZS} {I : Int → ZS → ZS} (g : Int) : HdM (oprM N m E I g) := by sorry
theorem hd_lv {N : Int → Int} : ∀ n, HdM (eM N n) := by sorry
theorem hd_e {N : Int → Int} {n : Nat} : HdM (eM N n) := hd_lv n
/-! things, by the codes that name them -/
/-- a row of things that holds where such a code stands -/
def sqZ (a : Nat) (op : Int) : Bool := (a == 52 && (op == 27 || op == 33 || op == 37 || op == 30)) || (a == 53 && op == 34) || (a == 54 && op == 35) || (a == 55 && (op == 25 || op == 28 || op == 31 || op == 36 || op == 40 || op == 42 || op == 53)) || (a == 56 && (op == 24 || op == 32)) || (a == 57 && op == 51) || (a == 58 && op == 52)
/-- codes that name a thing -/
def thO (op : Int) : Bool := (decide (23 ≤ op) && decide (op ≤ 42)) || (decide (50 ≤ op) && decide (op ≤ 53))
theorem sq_th {a : Nat} {op : Int} (h : sqZ a op = true) : thO op = true := by sorry
def pqZ (a : Nat) (k : Int) : List ItZ → Int
  | [] => -2
  | .inl _ :: l => pqZ a k l
  | .inr x :: l => if sqZ a x.1 = true ∧ x.2.1 = k then (l.length : Int) else pqZ a k l
theorem pq_x {a : Nat} {k : Int} {l l' : List ItZ} (h : XsR l l') : pqZ a k l' = pqZ a k l := by sorry
theorem itN_xs {l l' : List ItZ} {c : Nat} {x : Int × Int × Int × Int × Int} (h : XsR l l') (q : itN l' c = some (.inr x)) : itN l c = some (.inr x) := by sorry
theorem pq_no {a : Nat} {k : Int} : ∀ {l : List ItZ}, (∀ c x, itN l c = some (.inr x) → thO x.1 = true → x.2.1 < k) → pqZ a k l = -2 := by sorry
/-- a code that names a thing -/
def TcR (σ : RS) (m c : Nat) (x : Int × Int × Int × Int × Int) : Prop := 0 ≤ x.2.1 ∧ x.2.1 < (m : Int) ∧ (aI σ 51 x.2.1.toNat).toInt ≤ (c : Int) ∧ (x.1 = 50 → (aI σ 51 x.2.1.toNat).toInt = (c : Int)) ∧ (x.1 = 41 → (aI σ 60 x.2.1.toNat).toInt = x.2.2.2.1) ∧ (x.1 = 51 → (aI σ 61 x.2.1.toNat).toInt = -2 - x.2.2.2.2)
def KtR (σ : RS) (z : ZS) : Prop := (∀ a, 52 ≤ a → a ≤ 59 → ∀ k, k < tnM z → (aI σ a k).toInt = pqZ a k z.2.1) ∧ (∀ k, k < tnM z → 0 ≤ (aI σ 51 k).toInt ∧ (aI σ 51 k).toInt ≤ (z.2.1.length : Int)) ∧ ∀ c x, itN z.2.1 c = some (.inr x) → thO x.1 = true → TcR σ (tnM z) c x
theorem XsR.len {l l' : List ItZ} (h : XsR l l') : l.length ≤ l'.length := by sorry
theorem TcR.fr {σ τ : RS} {m c : Nat} {x : Int × Int × Int × Int × Int} (h : TcR σ m c x) (e1 : aI τ 51 x.2.1.toNat = aI σ 51 x.2.1.toNat) (e2 : aI τ 60 x.2.1.toNat = aI σ 60 x.2.1.toNat) (e3 : aI τ 61 x.2.1.toNat = aI σ 61 x.2.1.toNat) : TcR τ m c x := by sorry
theorem KtR.w {σ τ : RS} {z z' : ZS} (h : KtR σ z) (e1 : XsR z.2.1 z'.2.1) (e2 : tnM z' = tnM z) (q : ∀ a, 51 ≤ a → a ≤ 61 → aI τ a = aI σ a) : KtR τ z' := by sorry
theorem KtR.z {σ τ : RS} {z z' : ZS} (h : KtR σ z) (e1 : z'.2.1 = z.2.1) (e2 : tnM z' = tnM z) (q : ∀ a, 51 ≤ a → a ≤ 61 → aI τ a = aI σ a) : KtR τ z' := h.w (by rw [e1]; exact XsR.rf) e2 q
/-- one thing more, exactly -/
def ThZ (σ : RS) (t : Int32) (τ : RS) : Prop := Th σ τ ∧ (∀ a, 52 ≤ a → a ≤ 59 → aI τ a = upd (aI σ a) (nT (gI σ 49)) (-2)) ∧ aI τ 60 = upd (aI σ 60) (nT (gI σ 49)) t ∧ aI τ 61 = upd (aI σ 61) (nT (gI σ 49)) (-2)
theorem KtR.th {σ τ : RS} {z : ZS} {t : Int32} (h : KtR σ z) (e : ThZ σ t τ) (hn : nT (gI σ 49) = tnM z) (hc : nT (gI σ 18) = z.2.1.length) (h18 : 0 ≤ gI σ 18) : KtR τ (thM z) := by sorry
/-- a code more -/
theorem KtR.em {σ τ : RS} {z : ZS} {x : Int × Int × Int × Int × Int} (h : KtR σ z) (q : ∀ a, 51 ≤ a → a ≤ 61 → aI τ a = aI σ a) (hx : thO x.1 = true → TcR σ (tnM z) z.2.1.length x) (hs : ∀ a, a < 60 → sqZ a x.1 = false) : KtR τ (z.1, .inr x :: z.2.1, z.2.2) := by sorry
/-- one that names no thing -/
theorem KtR.en {σ τ : RS} {z : ZS} {x : Int × Int × Int × Int × Int} (h : KtR σ z) (q : ∀ a, 51 ≤ a → a ≤ 61 → aI τ a = aI σ a) (hx : thO x.1 = false) : KtR τ (z.1, .inr x :: z.2.1, z.2.2) := by sorry
/-- one that names the thing k -/
theorem TcR.k {σ : RS} {z : ZS} {x : Int × Int × Int × Int × Int} {k : Nat} (h : KtR σ z) (hk : k < tnM z) (hx : x.2.1 = (k : Int)) (h5 : ¬ x.1 = 50 ∧ ¬ x.1 = 41 ∧ ¬ x.1 = 51) : TcR σ (tnM z) z.2.1.length x := by sorry
/-- and where it stands is kept -/
theorem KtR.st {σ τ : RS} {z : ZS} {x : Int × Int × Int × Int × Int} {A k : Nat} {v : Int32} (h : KtR σ z) (hA : 52 ≤ A ∧ A ≤ 59) (hk : k < tnM z) (hx2 : x.2.1 = (k : Int)) (q : ∀ a, 51 ≤ a → a ≤ 61 → a ≠ A → aI τ a = aI σ a) (u : aI τ A = upd (aI σ A) k v) (hv : v.toInt = (z.2.1.length : Int)) (hx : TcR σ (tnM z) z.2.1.length x) (hs : ∀ a, a < 60 → (sqZ a x.1 = true ↔ a = A)) : KtR τ (z.1, .inr x :: z.2.1, z.2.2) := by sorry
/-- catch: its variable, too -/
theorem KtR.ca {σ τ : RS} {z : ZS} {k : Nat} {v u : Int32} (h : KtR σ z) (hk : k < tnM z) (q : ∀ a, 51 ≤ a → a ≤ 60 → a ≠ 57 → aI τ a = aI σ a) (e7 : aI τ 57 = upd (aI σ 57) k v) (e1 : aI τ 61 = upd (aI σ 61) k u) (hv : v.toInt = (z.2.1.length : Int)) (hu : u.toInt = ((zVs z.1).length : Int)) (hn : ∀ c x, itN z.2.1 c = some (.inr x) → ¬ (x.1 = 51 ∧ x.2.1 = (k : Int))) : KtR τ (caM k z) := by sorry
/-! all that stands between the reference and what is laid, while S's are read -/
/-- what codes, tokens, things, frames and variables may not lose -/
def WeR (σ τ : RS) : Prop := (gI τ 2 = gI σ 2 ∧ gI τ 42 = gI σ 42 ∧ gI τ 49 = gI σ 49 ∧ gI τ 62 = gI σ 62 ∧ gI τ 36 = gI σ 36) ∧ (∀ k, k < 19 ∨ 30 < k → aI τ k = aI σ k) ∧ aL τ = aL σ
theorem WeR.rf {σ : RS} : WeR σ σ := ⟨⟨rfl, rfl, rfl, rfl, rfl⟩, fun _ _ => rfl, rfl⟩
theorem WeR.tr {σ τ υ : RS} (h : WeR σ τ) (g : WeR τ υ) : WeR σ υ := by sorry
theorem WeR.s1 {k : Nat} {σ τ : RS} (h : S1 k σ τ) (hk : k ≠ 2 ∧ k ≠ 42 ∧ k ≠ 49 ∧ k ≠ 62 ∧ k ≠ 36) (l : aL τ = aL σ) : WeR σ τ := by sorry
theorem xA_t {k : Nat} (h : k < 19 ∨ 30 < k) : xaR k = false := by sorry
theorem WeR.kr {σ τ : RS} (h : KR σ τ) (l : aL τ = aL σ) : WeR σ τ := by sorry
theorem WeR.em {σ τ : RS} {op a : Int32} (h : Em σ op a τ) (l : aL τ = aL σ) : WeR σ τ := by sorry
theorem WeR.z {σ τ : RS} (h : WeR σ τ) : ZeR σ τ := by sorry
def NmZ (N : Int → Int) (σ : RS) : Prop := ∀ i j : Nat, i < nT (gI σ 2) → j < nT (gI σ 2) → i ≤ 500 → j ≤ 500 → aI σ 3 i = 1 → aI σ 3 j = 1 → ((aL σ 7 i = aL σ 7 j ∧ aI σ 8 i = aI σ 8 j ∧ aI σ 5 i = aI σ 5 j) ↔ N i = N j)
/-- a label's token is a NAME; a method's number, its NAME -/
def LbF (σ : RS) (z : ZS) (a : FrZ) : Prop := (a.1 = 7 → ∃ t : Nat, fiS z a.2.1 = (t : Int) ∧ t < nT (gI σ 2) ∧ t ≤ 500 ∧ aI σ 3 t = 1) ∧ (a.1 = 0 → (gI σ 36 - 1).toInt = a.2.2.2.1.getD 4 0 ∧ (aI σ 37 (gI σ 36 - 1).toNatClampNeg).toInt = a.2.2.2.1.getD 5 0)
def LbZ (σ : RS) (z : ZS) (F : List FrZ) : Prop := ∀ a ∈ F, LbF σ z a
theorem LbZ.fr {σ τ : RS} {z : ZS} {F : List FrZ} (h : LbZ σ z F) (e2 : gI τ 2 = gI σ 2) (e6 : gI τ 36 = gI σ 36) (a3 : aI τ 3 = aI σ 3) (a7 : aI τ 37 = aI σ 37) : LbZ τ z F := by sorry
def UcZ (z : ZS) (F : List FrZ) : Prop := ∀ a ∈ F, a.1 = 9 → ∀ c x, itN z.2.1 c = some (.inr x) → x.1 = 51 → ¬ x.2.1 = (a.2.2.1.2 : Int)
/-- what was known ahead of a frame's S -/
def KoZ (z : ZS) (K : List FrZ) : Prop := ∀ a ∈ K, ¬ a.1 = 0 → knS z a.2.1 = a.2.2.2.2
def BZ (N : Int → Int) (σ : RS) (z : ZS) (F K : List FrZ) : Prop := ZRx σ z F K ∧ (TlZ σ z.1 ∧ NmZ N σ ∧ LbZ σ z F ∧ UcZ z F ∧ KoZ z K) ∧ (0 ≤ gI σ 49 ∧ gI σ 49 ≤ 600)
theorem TlZ.w {σ τ : RS} {s s' : SpC} (h : TlZ σ s) (e : WeR σ τ) (ek : zK s' = zK s) : TlZ τ s' := by sorry
theorem NmZ.w {N : Int → Int} {σ τ : RS} (h : NmZ N σ) (e : WeR σ τ) : NmZ N τ := by sorry
theorem AcZ.lt {z : ZS} : ∀ {F : List FrZ} {i : Int} {m : Nat}, AcZ z F i m → ∀ a ∈ F, a.2.1 < m := by sorry
theorem ZRx.ac {σ : RS} {z : ZS} {F K : List FrZ} (h : ZRx σ z F K) : ∀ a ∈ F, a.2.1 < snM z := by sorry
theorem LbZ.w {σ τ : RS} {z z' : ZS} {F : List FrZ} (h : LbZ σ z F) (hF : ∀ a ∈ F, a.2.1 < snM z) (e : WeR σ τ) (sg : SgZ z z') : LbZ τ z' F := by sorry
theorem UcZ.w {z z' : ZS} {F : List FrZ} (h : UcZ z F) (e : ∀ c x, itN z'.2.1 c = some (.inr x) → x.1 = 51 → itN z.2.1 c = some (.inr x)) : UcZ z' F := fun a ha h9 c x q o => h a ha h9 c x (e c x q o) o
theorem ZRx.ak {σ : RS} {z : ZS} {F K : List FrZ} (h : ZRx σ z F K) : ∀ a ∈ K, a.2.1 < snM z := h.2.2.2.2.1.lt
theorem KoZ.w {z z' : ZS} {K : List FrZ} (h : KoZ z K) (hK : ∀ a ∈ K, a.2.1 < snM z) (sg : SgZ z z') : KoZ z' K := by sorry
theorem BZ.g {N : Int → Int} {σ τ : RS} {z z' : ZS} {F K : List FrZ} (h : BZ N σ z F K) (e : WeR σ τ) (p : PcM id τ z') (ig : z.2.1 <:+ z'.2.1) (sg : SgZ z z') (e4 : z'.2.2.2 = z.2.2.2) (ek : zK z'.1 = zK z.1) (n5 : ∀ c x, itN z'.2.1 c = some (.inr x) → x.1 = 51 → itN z.2.1 c = some (.inr x)) : BZ N τ z' F K := by sorry
theorem n5_xs {l l' : List ItZ} (h : XsR l l') : ∀ c x, itN l' c = some (.inr x) → x.1 = 51 → itN l c = some (.inr x) := fun _ _ q _ => itN_xs h q
theorem n5_co {l : List ItZ} {y : Int × Int × Int × Int × Int} (h : ¬ y.1 = 51) : ∀ c x, itN (.inr y :: l) c = some (.inr x) → x.1 = 51 → itN l c = some (.inr x) := by sorry
theorem kK_2 {s t : SpC} (e : t.2 = s.2) : zK t = zK s := by sorry
/-- one reads on; what of it is only told -/
theorem BZ.z {N : Int → Int} {σ τ : RS} {z z' : ZS} {F K : List FrZ} (h : BZ N σ z F K) (e : WeR σ τ) (p : gI τ 18 = gI σ 18) (pa : ∀ k, 19 ≤ k → k ≤ 24 → aI τ k = aI σ k) (e2 : z'.2 = z.2) (ek : zK z'.1 = zK z.1) : BZ N τ z' F K := by sorry
theorem BZ.s1 {N : Int → Int} {k : Nat} {σ τ : RS} {z z' : ZS} {F K : List FrZ} (h : BZ N σ z F K) (e : S1 k σ τ) (hk : k ≠ 2 ∧ k ≠ 18 ∧ k ≠ 42 ∧ k ≠ 49 ∧ k ≠ 62 ∧ k ≠ 36) (l : aL τ = aL σ) (e2 : z'.2 = z.2) (ek : zK z'.1 = zK z.1) : BZ N τ z' F K := by sorry
theorem kK_acc {s : SpC} : zK (accY s) = zK s := kK_2 acc2
theorem kK_rai {n : Int} {s : SpC} : zK (raiY n s) = zK s := by sorry
theorem kK_xp {c : Int} {s : SpC} : zK (xpY c s) = zK s := by sorry
theorem BZ.tk {N : Int → Int} {σ τ : RS} {z : ZS} {F K : List FrZ} (h : BZ N σ z F K) (e : S1 14 σ τ) (l : aL τ = aL σ) : BZ N τ (accM z) F K := h.s1 e (by decide) l rfl kK_acc
theorem BZ.xp {N : Int → Int} {σ τ : RS} {z : ZS} {F K : List FrZ} {d : Int} (h : BZ N σ z F K) (e : S1 14 σ τ) (l : aL τ = aL σ) : BZ N τ (xpM d z) F K := h.s1 e (by decide) l rfl kK_xp
/-- an exp -/
theorem BZ.ex {N : Int → Int} {σ τ : RS} {n : Nat} {z : ZS} {F K : List FrZ} (h : BZ N σ z F K) (e : KR σ τ) (l : aL τ = aL σ) (p : PcM id τ (eM N n z)) : BZ N τ (eM N n z) F K := by sorry
/-- told of S's -/
theorem BZ.se {N : Int → Int} {σ : RS} {z : ZS} {F K : List FrZ} {i : Nat} {f : SrZ → SrZ} (h : BZ N σ z F K) (hf : ∀ x, (f x).1 = x.1 ∧ (f x).2.1 = x.2.1 ∧ (f x).2.2.2.2.2.2.2.2 = x.2.2.2.2.2.2.2.2) (hl : kjS z i = 6 → ∀ x, (f x).2.2.2.2.2.2.2.1 = x.2.2.2.2.2.2.2.1) : BZ N σ (seM i f z) F K := by sorry
theorem BZ.qNx {N : Int → Int} {σ : RS} {z : ZS} {F K : List FrZ} {i : Nat} {v : Int} (h : BZ N σ z F K) : BZ N σ (seM i (sNx v) z) F K := h.se (fun _ => ⟨rfl, rfl, rfl⟩) (fun _ _ => rfl)
theorem BZ.qBd {N : Int → Int} {σ : RS} {z : ZS} {F K : List FrZ} {i : Nat} {v : Int} (h : BZ N σ z F K) : BZ N σ (seM i (sBd v) z) F K := h.se (fun _ => ⟨rfl, rfl, rfl⟩) (fun _ _ => rfl)
theorem BZ.qOt {N : Int → Int} {σ : RS} {z : ZS} {F K : List FrZ} {i : Nat} {v : Int} (h : BZ N σ z F K) : BZ N σ (seM i (sOt v) z) F K := h.se (fun _ => ⟨rfl, rfl, rfl⟩) (fun _ _ => rfl)
theorem BZ.qLs {N : Int → Int} {σ : RS} {z : ZS} {F K : List FrZ} {i : Nat} {v : Int} (h : BZ N σ z F K) : BZ N σ (seM i (sLs v) z) F K := h.se (fun _ => ⟨rfl, rfl, rfl⟩) (fun _ _ => rfl)
theorem BZ.qEx {N : Int → Int} {σ : RS} {z : ZS} {F K : List FrZ} {i : Nat} {v : Int} (h : BZ N σ z F K) : BZ N σ (seM i (sEx v) z) F K := h.se (fun _ => ⟨rfl, rfl, rfl⟩) (fun _ _ => rfl)
theorem BZ.qLk {N : Int → Int} {σ : RS} {z : ZS} {F K : List FrZ} {i : Nat} {v : Int} (h : BZ N σ z F K) (hk : ¬ kjS z i = 6) : BZ N σ (seM i (sLk v) z) F K := h.se (fun _ => ⟨rfl, rfl, rfl⟩) (fun q => absurd q hk)
theorem BZ.be {N : Int → Int} {σ : RS} {z : ZS} {F K : List FrZ} {k lv : Int} (h : BZ N σ z F K) : BZ N σ (beM k lv z) F K := by sorry
theorem BZ.nx {N : Int → Int} {σ : RS} {z : ZS} {F K : List FrZ} {l : Int} {j : Nat} (h : BZ N σ z F K) : BZ N σ (nxM l j z) F K := by sorry
/-- an exp of an S; a condition -/
theorem BZ.exq {N : Int → Int} {σ τ : RS} {j n : Nat} {z : ZS} {F K : List FrZ} (h : BZ N σ z F K) (e : KR σ τ) (l : aL τ = aL σ) (p : PcM id τ (eM N n z)) : BZ N τ (exS N j n z) F K := (h.ex e l p).qEx
theorem BZ.cd {N : Int → Int} {σ τ : RS} {j n : Nat} {z : ZS} {F K : List FrZ} (h : BZ N σ z F K) (e : KR σ τ) (l : aL τ = aL σ) (p : PcM id τ (cdM N 0 n z)) : BZ N τ (cdM N j n z) F K := by sorry
/-- a code of an S: b: what was put there afterwards -/
theorem PcM.sb {th : Int → Int} {σ τ : RS} {z : ZS} {op a t b : Int32} {x : Int × Int × Int × Int × Int} (h : PcM th σ z) (e : EmZ σ op a 0 t t t τ) (h1 : op.toInt = x.1) (h2 : a.toInt = th x.2.1) (h3 : b.toInt = x.2.2.1) (h4 : t.toInt = x.2.2.2.1) : PcM th (sA τ 21 (upd (aI τ 21) (gI σ 18).toNatClampNeg b)) (z.1, .inr x :: z.2.1, z.2.2) := by sorry
theorem PcM.co {th : Int → Int} {σ τ : RS} {z : ZS} {op a t : Int32} {x : Int × Int × Int × Int × Int} (h : PcM th σ z) (e : EmZ σ op a 0 t t t τ) (h1 : op.toInt = x.1) (h2 : a.toInt = th x.2.1) (h3 : 0 = x.2.2.1) (h4 : t.toInt = x.2.2.2.1) : PcM th τ (z.1, .inr x :: z.2.1, z.2.2) := by sorry
theorem WeR.a {σ τ : RS} {k : Nat} {f : Nat → Int32} (h : WeR σ τ) (hk : 19 ≤ k ∧ k ≤ 30) : WeR σ (sA τ k f) := by sorry
theorem BZ.co {N : Int → Int} {σ τ : RS} {z : ZS} {F K : List FrZ} {op a t : Int32} {x : Int × Int × Int × Int × Int} (h : BZ N σ z F K) (e : EmZ σ op a 0 t t t τ) (l : aL τ = aL σ) (h1 : op.toInt = x.1) (h2 : a.toInt = x.2.1) (h3 : 0 = x.2.2.1) (h4 : t.toInt = x.2.2.2.1) (h5 : ¬ x.1 = 51) : BZ N τ (z.1, .inr x :: z.2.1, z.2.2) F K := by sorry
theorem BZ.sb {N : Int → Int} {σ τ : RS} {z : ZS} {F K : List FrZ} {op a t b : Int32} {x : Int × Int × Int × Int × Int} (h : BZ N σ z F K) (e : EmZ σ op a 0 t t t τ) (l : aL τ = aL σ) (h1 : op.toInt = x.1) (h2 : a.toInt = x.2.1) (h3 : b.toInt = x.2.2.1) (h4 : t.toInt = x.2.2.2.1) (h5 : ¬ x.1 = 51) : BZ N (sA τ 21 (upd (aI τ 21) (gI σ 18).toNatClampNeg b)) (z.1, .inr x :: z.2.1, z.2.2) F K := by sorry
def bI (k : Nat) : Bool := k == 2 || k == 18 || k == 42 || k == 49 || k == 62 || k == 36
def bA (k : Nat) : Bool := k == 3 || k == 5 || k == 8 || k == 10 || (Nat.ble 19 k && Nat.ble k 24) || k == 37 || k == 47 || k == 48 || k == 60 || k == 63 || k == 64 || k == 65
theorem BZ.i {N : Int → Int} {σ : RS} {z : ZS} {F K : List FrZ} {k : Nat} {v : Int32} (h : BZ N σ z F K) (hk : bI k = false) : BZ N (sI σ k v) z F K := by sorry
theorem BZ.a {N : Int → Int} {σ : RS} {z : ZS} {F K : List FrZ} {k : Nat} {f : Nat → Int32} (h : BZ N σ z F K) (hk : bA k = false) : BZ N (sA σ k f) z F K := by sorry
/-- one thing more -/
theorem BZ.th {N : Int → Int} {σ τ : RS} {z : ZS} {F K : List FrZ} {t : Int32} (h : BZ N σ z F K) (e : ThZ σ t τ) (l : aL τ = aL σ) : BZ N τ (thM z) F K := by sorry
theorem BZ.f' {N : Int → Int} {σ0 σ : RS} {z0 z : ZS} {F : List FrZ} {kd lv k : Int} {x : List Int} (h0 : BZ N σ0 z0 F F) (h : BZ N σ z F F) (sg0 : SgZ z0 z) (hlt : snM z0 < snM z) (A : (reS z (snM z0)).1 = (kd, zAt z0.1, lv, z0.2.2.2.1.2) ∧ (reS z (snM z0)).2.1 = z0.2.2.2.1.1 ∧ tjS z (snM z0) = (tnM z0 : Int)) (e1 : z.2.2.2.1 = z0.2.2.2.1) (et : tnM z = tnM z0 + 1) (hu : (hdF F).1 = 7 → snM z0 = (hdF F).2 + 1) (hk : 1 ≤ k ∧ k ≤ 8 ∨ k = 12) (hkd : kd = kdF k) (h7 : k = 7 → ljS z (snM z0) = fiS z (snM z0)) : BZ N σ (arM (snM z0) z) F (frB k z0 x :: F) := by sorry
theorem BZ.fr {N : Int → Int} {σ0 σ : RS} {z0 z : ZS} {F : List FrZ} {kd lv k : Int} {x : List Int} (h0 : BZ N σ0 z0 F F) (h : BZ N σ z F F) (sg : SgZ (beM kd lv z0) z) (e1 : z.2.2.2.1 = z0.2.2.2.1) (et : tnM z = tnM z0 + 1) (hu : (hdF F).1 = 7 → snM z0 = (hdF F).2 + 1) (hk : 1 ≤ k ∧ k ≤ 8 ∨ k = 12) (hkd : kd = kdF k) (h7 : k = 7 → ljS z (snM z0) = fiS z (snM z0)) : BZ N σ (arM (snM z0) z) F (frB k z0 x :: F) := by sorry
/-- a label begins: its NAME is told at once -/
theorem SgZ.bl {z : ZS} {k lv v : Int} : SgZ z (seM (snM z) (sLk v) (beM k lv z)) := by sorry
theorem BZ.bl {N : Int → Int} {σ : RS} {z : ZS} {F K : List FrZ} {k lv v : Int} (h : BZ N σ z F K) : BZ N σ (seM (snM z) (sLk v) (beM k lv z)) F K := by sorry
theorem R_bl {z : ZS} {k lv v : Int} : reS (seM (snM z) (sLk v) (beM k lv z)) (snM z) = ((k, zAt z.1, lv, z.2.2.2.1.2), z.2.2.2.1.1, (-1, -1, -1, -1, -1, v, (tnM z : Int))) := by sorry
/-! frames are opened and left -/
theorem BZ.own {N : Int → Int} {σ : RS} {z : ZS} {F : List FrZ} {j : Nat} {c : Nat × Nat} {x : List Int} {out : List (Int × Int)} {k lv : Int} (h : BZ N σ z F ((12, j, c, x, out) :: F)) (hk : k = 9 ∨ k = 10 ∨ k = 11) (hs : ¬ k = 10 → z.2.2.2.1.1 = out) : BZ N σ (arM (snM z) (beM 92 lv z)) F ((k, j, c, [-1, -1, -1] ++ [(snM z : Int)], out) :: F) := by sorry
/-- open -/
def OfZ (σ : RS) (s k p : Int32) (τ : RS) : Prop := (∀ j, j ≠ 17 → j ≠ 62 → gI τ j = gI σ j) ∧ gI τ 62 = gI σ 62 + 1 ∧ (aI τ 63 = upd (aI σ 63) (nT (gI σ 62)) s ∧ aI τ 64 = upd (aI σ 64) (nT (gI σ 62)) k ∧ aI τ 65 = upd (aI σ 65) (nT (gI σ 62)) p) ∧ (∀ j, j < 63 ∨ 65 < j → aI τ j = aI σ j) ∧ (0 ≤ gI σ 62 ∧ gI σ 62 < 80)
theorem BZ.op {N : Int → Int} {σ τ : RS} {z : ZS} {F : List FrZ} {a : FrZ} {s k p : Int32} (h : BZ N σ z F (a :: F)) (e : OfZ σ s k p τ) (l : aL τ = aL σ) (hs : s.toInt = a.1) (hk : k.toInt = (a.2.2.1.2 : Int)) (h0 : ¬ a.1 = 0 → p.toInt = (a.2.2.1.1 : Int) ∧ itN z.2.1 a.2.2.1.1 = some (.inr (20, 0, 0, fiS z a.2.1, -1)) ∧ (aI σ 60 a.2.2.1.2).toInt = fiS z a.2.1) (h7 : LbF σ z a) (h9 : a.1 = 9 → ∀ c x, itN z.2.1 c = some (.inr x) → x.1 = 51 → ¬ x.2.1 = (a.2.2.1.2 : Int)) : BZ N τ z (a :: F) (a :: F) := by sorry
/-- leave -/
def LvZ (σ : RS) (k t : Int32) (τ : RS) : Prop := (∀ j, gI τ j = gI σ j) ∧ (∀ j, j ≠ 48 → aI τ j = aI σ j) ∧ ∀ v, v < nT (gI σ 42) → aI τ 48 v = if aI σ 47 v = k ∧ aI σ 48 v < 0 then t else aI σ 48 v
theorem nT_600 {x : Int32} (h : 0 ≤ x ∧ x ≤ 600) : nT x ≤ 600 := by sorry
theorem BZ.lv {N : Int → Int} {σ τ : RS} {z : ZS} {F K : List FrZ} {a : FrZ} {k t : Int32} (h : BZ N σ z F (a :: K)) (e : LvZ σ k t τ) (l : aL τ = aL σ) (hs : scF a.1 = true) (hk : k.toInt = nuF a) (h0 : 0 ≤ t.toInt) : BZ N τ (veM t.toInt a.2.2.2.2 z) F (a :: K) ∧ KnZ (fun v => (aI τ 47 v).toInt) K a.2.2.2.2 := by sorry
/-- a frame is left -/
theorem BZ.po {N : Int → Int} {σ : RS} {z : ZS} {F : List FrZ} {a : FrZ} (h : BZ N σ z (a :: F) (a :: F)) (h9 : ¬ 9 ≤ a.1 ∨ a.1 = 12) (h0 : 0 < gI σ 62) (hk : KnZ (fun v => (aI σ 47 v).toInt) F z.2.2.2.1.1) : BZ N (sI σ 62 (gI σ 62 - 1)) (unM a.2.1 z) F F := by sorry
/-- one that keeps no variables of its own -/
theorem BZ.kn {N : Int → Int} {σ : RS} {z : ZS} {F K : List FrZ} {a : FrZ} (h : BZ N σ z F (a :: K)) (hs : scF a.1 = false) : KnZ (fun v => (aI σ 47 v).toInt) K z.2.2.2.1.1 := by sorry
/-- a row of try's is left: the try S stands around -/
theorem BZ.p9 {N : Int → Int} {σ : RS} {z : ZS} {F : List FrZ} {a : FrZ} {x : List Int} (h : BZ N σ z (a :: F) (a :: F)) (h9 : 9 ≤ a.1 ∧ a.1 ≤ 11) (h0 : 0 < gI σ 62) (hk : KnZ (fun v => (aI σ 47 v).toInt) F a.2.2.2.2) (hz : z.2.2.2.1.1 = a.2.2.2.2) : BZ N (sI σ 62 (gI σ 62 - 1)) (unM (owF a) z) F ((12, a.2.1, a.2.2.1, x, a.2.2.2.2) :: F) := by sorry
/-- the try S ends -/
theorem BZ.pe {N : Int → Int} {σ : RS} {z : ZS} {F : List FrZ} {j : Nat} {c : Nat × Nat} {x : List Int} {out : List (Int × Int)} (h : BZ N σ z F ((12, j, c, x, out) :: F)) (hz : z.2.2.2.1.1 = out) : BZ N σ (unM j z) F F := by sorry
/-- what a row's frame tells of its parts counts for nothing here -/
theorem AcZ.pa {z : ZS} {a : FrZ} {j : Nat} {F : List FrZ} {i : Int} {m : Nat} (h : AcZ z (a :: F) i m) : AcZ z (paF a j :: F) i m := by sorry
theorem BZ.pa {N : Int → Int} {σ : RS} {z : ZS} {F : List FrZ} {a : FrZ} {j : Nat} (h : BZ N σ z (a :: F) (a :: F)) : BZ N σ z (paF a j :: F) (paF a j :: F) := by sorry
/-- nor of a frame that is no row of try's -/
theorem BZ.xx {N : Int → Int} {σ : RS} {z : ZS} {F K : List FrZ} {k : Int} {j : Nat} {c : Nat × Nat} {x y : List Int} {out : List (Int × Int)} (h : BZ N σ z F ((k, j, c, x, out) :: K)) (hk : ¬ (9 ≤ k ∧ k ≤ 11)) : BZ N σ z F ((k, j, c, y, out) :: K) := by sorry
theorem ZRx.frm {σ : RS} {z : ZS} {F K : List FrZ} (h : ZRx σ z F K) : frR σ = F.map (·.1) := by sorry
theorem ZRx.cons {σ : RS} {z : ZS} {F K : List FrZ} (h : ZRx σ z F K) (p : 0 < gI σ 62) : ∃ a G, F = a :: G := by sorry
theorem ZRx.top {σ : RS} {z : ZS} {a : FrZ} {F K : List FrZ} (h : ZRx σ z (a :: F) K) (p : 0 < gI σ 62) : (aI σ 63 (gI σ 62 - 1).toNatClampNeg).toInt = a.1 ∧ (aI σ 64 (gI σ 62 - 1).toNatClampNeg).toInt = (a.2.2.1.2 : Int) ∧ (¬ a.1 = 0 → (aI σ 65 (gI σ 62 - 1).toNatClampNeg).toInt = (a.2.2.1.1 : Int) ∧ itN z.2.1 a.2.2.1.1 = some (.inr (20, 0, 0, fiS z a.2.1, -1)) ∧ (aI σ 60 a.2.2.1.2).toInt = fiS z a.2.1) := by sorry
/-- the reference's frame is left first -/
theorem BZ.pf {N : Int → Int} {σ : RS} {z : ZS} {F K : List FrZ} {a : FrZ} (h : BZ N σ z (a :: F) K) (h0 : 0 < gI σ 62) (ha : ∃ i b, b ≤ snM z ∧ AcZ z F i b) (ft : FtZ F (tnM z)) : BZ N (sI σ 62 (gI σ 62 - 1)) z F K := by sorry
theorem BZ.pg {N : Int → Int} {σ : RS} {z : ZS} {F : List FrZ} {a : FrZ} (h : BZ N σ z (a :: F) (a :: F)) (h0 : 0 < gI σ 62) : BZ N (sI σ 62 (gI σ 62 - 1)) z F (a :: F) := by sorry
/-- its variables have ended: what is around it stands around -/
theorem BZ.pk {N : Int → Int} {σ : RS} {z : ZS} {F : List FrZ} {a : FrZ} (h : BZ N σ z F (a :: F)) (hk : KnZ (fun v => (aI σ 47 v).toInt) F z.2.2.2.1.1) : BZ N σ (unM a.2.1 z) F F := by sorry
/-- if: its else begins -/
theorem BZ.fs {N : Int → Int} {σ : RS} {z : ZS} {F : List FrZ} {j : Nat} {c : Nat × Nat} {x y : List Int} {out : List (Int × Int)} {i : Nat} (h : BZ N σ z ((2, j, c, x, out) :: F) ((2, j, c, x, out) :: F)) (hi : i = F.length) : BZ N (sA σ 63 (upd (aI σ 63) i 3)) z ((3, j, c, y, out) :: F) ((3, j, c, y, out) :: F) := by sorry
theorem fi_se {z : ZS} {j i : Nat} {v : Int} : fiS (seM i (sBd v) z) j = fiS z j := by sorry
theorem fi_bd {z : ZS} {j jb : Nat} : fiS (bdM j jb z) j = fiS z j := fi_se
theorem ar_id {y : ZS} {j : Int} (h : y.2.2.2.1.2 = j) : arM j y = y := by sorry
/-- catch -/
theorem BZ.ca {N : Int → Int} {σ τ : RS} {z : ZS} {F K : List FrZ} {a t : Int32} {k : Nat} (h : BZ N σ z F K) (e : EmZ σ 51 a 0 t t t τ) (l : aL τ = aL σ) (ha : a.toInt = (k : Int)) (ht : t.toInt = zAt z.1) (hk : ∀ b ∈ F, b.2.2.1.2 < k) : BZ N τ (caM k z) F K := by sorry
theorem FtZ.lt : ∀ {F : List FrZ} {m : Nat}, FtZ F m → ∀ b ∈ F, b.2.2.1.2 < m := by sorry
/-! variables; what a piece tells -/
theorem kK_dcl {ty f h : Int} {s : SpC} : zK (dclY ty f h s) = zK s := by sorry
theorem BZ.va {N : Int → Int} {σ τ : RS} {z : ZS} {F K : List FrZ} {ty f k : Int32} {ty' f' : Int} (h : BZ N σ z F K) (e : VaR σ τ ty f) (e7 : aI τ 47 = upd (aI σ 47) (nT (gI σ 42)) k) (e8 : aI τ 48 = upd (aI σ 48) (nT (gI σ 42)) (-2)) (l : aL τ = aL σ) (hv : (zVs z.1).length = nT (gI σ 42)) (hsc : ∃ a ∈ K, scF a.1 = true) (hk : k.toInt = sfF K) : BZ N τ (dcM N ty' f' 1 z) F K := by sorry
theorem KtR.va {σ τ : RS} {z : ZS} {ty f : Int32} {N : Int → Int} {ty' f' g : Int} (h : KtR σ z) (e : VaR σ τ ty f) : KtR τ (dcM N ty' f' g z) := h.z rfl rfl (fun a h1 h2 => e.2.2.2.2 a (by omega))
theorem KtR.i {σ : RS} {z : ZS} {k : Nat} {v : Int32} (h : KtR σ z) : KtR (sI σ k v) z := h.z rfl rfl (fun _ _ _ => rfl)
theorem KtR.a {σ : RS} {z : ZS} {k : Nat} {f : Nat → Int32} (h : KtR σ z) (hk : k < 51 ∨ 61 < k) : KtR (sA σ k f) z := h.z rfl rfl (fun _ _ _ => aI_ne (by omega))
theorem KtR.s1 {k : Nat} {σ τ : RS} {z z' : ZS} (h : KtR σ z) (e : S1 k σ τ) (e2 : z'.2 = z.2) : KtR τ z' := by sorry
theorem KtR.tk {σ τ : RS} {z : ZS} (h : KtR σ z) (e : S1 14 σ τ) : KtR τ (accM z) := h.s1 e rfl
theorem KtR.xp {σ τ : RS} {z : ZS} {d : Int} (h : KtR σ z) (e : S1 14 σ τ) : KtR τ (xpM d z) := h.s1 e rfl
theorem KtR.kr {σ τ : RS} {z z' : ZS} (h : KtR σ z) (k : KR σ τ) (e1 : XsR z.2.1 z'.2.1) (e2 : tnM z' = tnM z) : KtR τ z' := h.w e1 e2 (fun a h1 h2 => k.1.2 a (xA_f (by omega)))
theorem KtR.exq {σ τ : RS} {N : Int → Int} {j n : Nat} {z : ZS} (h : KtR σ z) (k : KR σ τ) : KtR τ (exS N j n z) := by sorry
theorem KtR.cd {σ τ : RS} {N : Int → Int} {j n : Nat} {z : ZS} (h : KtR σ z) (k : KR σ τ) : KtR τ (cdM N j n z) := by sorry
theorem emK {σ τ : RS} {op a b t f l : Int32} (e : EmZ σ op a b t f l τ) : ∀ a, 51 ≤ a → a ≤ 61 → aI τ a = aI σ a := fun a _ _ => e.1.2.2.2.2.1 a (by omega)
theorem sg_cd {N : Int → Int} {j n : Nat} {z : ZS} : SgZ z (cdM N j n z) := by sorry
theorem ig_cd {N : Int → Int} {j n : Nat} {z : ZS} : z.2.1 <:+ (cdM N j n z).2.1 := ig_e (xpM 0 z)
theorem k4_cd {N : Int → Int} {j n : Nat} {z : ZS} : (cdM N j n z).2.2.2 = z.2.2.2 := by sorry
/-- whether nothing is read of the row on top -/
def bF : List FrZ → Int
  | [] => 0
  | a :: _ => if a.2.2.2.1.getD 0 0 < 0 then 1 else 0
/-- the frame on top is a label's: its S comes now -/
def LuZ (z : ZS) (F : List FrZ) : Prop := (hdF F).1 = 7 → snM z = (hdF F).2 + 1
def StZ (N : Int → Int) (τ : RS) (Φ : ZS) (w : Option Value) : Prop := (w = some (.int 0) ∧ FlR τ Φ.1) ∨ (w = some (.int 1) ∧ ∃ (z : ZS) (n : Nat) (F : List FrZ), SR τ z.1 n ∧ FgR τ (bF F) ∧ BZ N τ z F F ∧ KtR τ z ∧ WfF F.tail ∧ LuZ z F ∧ 1 ≤ zAt z.1 ∧ pcM N F n z = Φ)
theorem StZ.o {N : Int → Int} {τ : RS} {Φ : ZS} {T : SpC} (h : Φ.1 = T) (q : StQ τ T (some (.int 0))) : StZ N τ Φ (some (.int 0)) := by sorry
theorem FgR.ny {σ : RS} {b b' k : Int} {G : List Int} (h : FgR σ b) (f : frR σ = k :: G) (hk : ¬ k = 8) (hb : b' = 0 ∨ b' = 1) : FgR σ b' := by sorry
theorem toI_n {x : Int32} (h : 0 ≤ x) : x.toInt = (nT x : Int) := by sorry
theorem BZ.k49 {N : Int → Int} {σ : RS} {z : ZS} {F K : List FrZ} (h : BZ N σ z F K) : (gI σ 49).toInt = (tnM z : Int) := by sorry
theorem BZ.c18 {N : Int → Int} {σ : RS} {z : ZS} {F K : List FrZ} (h : BZ N σ z F K) : nT (gI σ 18) = cnM z := h.1.1.2
theorem BZ.frm {N : Int → Int} {σ : RS} {z : ZS} {F K : List FrZ} (h : BZ N σ z F K) : frR σ = F.map (·.1) := h.1.frm
theorem lf_sst {N : Int → Int} {σ : RS} {z : ZS} {F K : List FrZ} {n : Nat} (h : BZ N σ z F K) (hw : WfF F) : (sfM N F n (stM N n z)).1 = sfY (frR σ) n (stY n z.1) := by sorry
theorem lf_sfb {N : Int → Int} {σ : RS} {z : ZS} {F K : List FrZ} {n : Nat} (h : BZ N σ z F K) (hw : WfF F) : (sfM N F n z).1 = sfY (frR σ) n z.1 := by sorry
theorem em18 {σ τ : RS} {op a b t f l : Int32} {N : Int → Int} {z : ZS} {F K : List FrZ} (e : EmZ σ op a b t f l τ) (h : BZ N σ z F K) : (gI σ 18).toInt = (cnM z : Int) := by sorry
/-- the steps with n instead of n + 1 -/
theorem sm_if' {N : Int → Int} {F : List FrZ} {n : Nat} {z : ZS} (hn : 1 ≤ n) (hc : codY z.1 = 56) : sfM N F n (stM N n z) = sfM N (frB 2 z [] :: F) (n - 1) (stM N (n - 1) (ifB N n z)) := by sorry
theorem sm_wh' {N : Int → Int} {F : List FrZ} {n : Nat} {z : ZS} (hn : 1 ≤ n) (hc : codY z.1 = 58) : sfM N F n (stM N n z) = sfM N (frB 4 z [] :: F) (n - 1) (stM N (n - 1) (whB N n z)) := by sorry
theorem sm_do' {N : Int → Int} {F : List FrZ} {n : Nat} {z : ZS} (hn : 1 ≤ n) (hc : codY z.1 = 59) : sfM N F n (stM N n z) = sfM N (frB 5 z [] :: F) (n - 1) (stM N (n - 1) (doB n z)) := by sorry
theorem sm_fo' {N : Int → Int} {F : List FrZ} {n : Nat} {z z1 : ZS} (hn : 1 ≤ n) (hc : codY z.1 = 60) (h1 : foB N (snM z) (tnM z) n (accM (bgH 60 n z)) = z1) : sfM N F n (stM N n z) = sfM N (frB 6 z [(snM z1 : Int)] :: F) (n - 1) (stM N (n - 1) z1) := by sorry
theorem sm_sw' {N : Int → Int} {F : List FrZ} {n : Nat} {z : ZS} (hn : 2 ≤ n) (hc : codY z.1 = 61) : sfM N F n (stM N n z) = pcM N (frB 8 z ([-1, -1, -1] ++ []) :: F) (n - 1) (swB N n z) := by sorry
theorem sm_tr' {N : Int → Int} {F : List FrZ} {n : Nat} {z : ZS} (hn : 2 ≤ n) (hc : codY z.1 = 68) : sfM N F n (stM N n z) = pcM N (frB 9 z ([-1, -1, -1] ++ [(snM z : Int) + 1]) :: F) (n - 1) (bbM n (trB n z)) := by sorry
theorem sm_bl' {N : Int → Int} {F : List FrZ} {n : Nat} {z : ZS} (hn : 2 ≤ n) (hc : codY z.1 = 2) : sfM N F n (stM N n z) = pcM N (frB 1 z ([-1, -1, -1] ++ []) :: F) (n - 1) (accM (arM (snM z) (bgH 2 n z))) := by sorry
theorem sm_la' {N : Int → Int} {F : List FrZ} {n : Nat} {z : ZS} (hn : 1 ≤ n) (hc : codY z.1 = 80) (hb : cobY z.1 = 6) : sfM N F n (stM N n z) = sfM N (frB 7 z [] :: F) (n - 1) (stM N (n - 1) (laB n z)) := by sorry
theorem sm_em' {N : Int → Int} {n : Nat} {z : ZS} (hn : 1 ≤ n) (hc : codY z.1 = 4) : stM N n z = emM n z := by sorry
theorem sm_ju' {N : Int → Int} {n : Nat} {z : ZS} (hn : 1 ≤ n) (hc : codY z.1 = 64 ∨ codY z.1 = 65) : stM N n z = juM N (codY z.1) n z := by sorry
theorem sm_gi' {N : Int → Int} {n : Nat} {z : ZS} (hn : 1 ≤ n) (hc : codY z.1 = 66 ∨ codY z.1 = 67) : stM N n z = giM N (codY z.1) n z := by sorry
theorem sm_xs' {N : Int → Int} {n : Nat} {z : ZS} (hn : 1 ≤ n) (h : ¬ codY z.1 = 56 ∧ ¬ codY z.1 = 58 ∧ ¬ codY z.1 = 59 ∧ ¬ codY z.1 = 60 ∧ ¬ codY z.1 = 61 ∧ ¬ codY z.1 = 68 ∧ ¬ codY z.1 = 2 ∧ ¬ codY z.1 = 4 ∧ ¬ codY z.1 = 64 ∧ ¬ codY z.1 = 65 ∧ ¬ codY z.1 = 66 ∧ ¬ codY z.1 = 67) (hb : ¬ (codY z.1 = 80 ∧ cobY z.1 = 6)) : stM N n z = xsM N n z := by sorry
theorem GpY.a1 {S T : SpC} (g : GpY S T) (h5 : zAt S ≤ 500) (h : 1 ≤ zAt S) : 1 ≤ zAt T := by sorry
theorem ZRx.nil {σ : RS} {z : ZS} {F K : List FrZ} (h : ZRx σ z F K) (p : gI σ 62 ≤ 0) : F = [] := by sorry
theorem FgR.bf {σ : RS} {a : FrZ} {F : List FrZ} {G : List Int} (h : FgR σ 0) (f : frR σ = a.1 :: G) (hw : a.1 = 8 → 0 ≤ a.2.2.2.1.getD 0 0) : FgR σ (bF (a :: F)) := by sorry
theorem nx_2 {l : Int} {j : Nat} {z : ZS} : (nxM l j z).2.1 = z.2.1 ∧ tnM (nxM l j z) = tnM z := by sorry
/-! from an S's beginning on -/
theorem nT_q {x : Int32} {n : Nat} (h : x.toInt = n) : x.toNatClampNeg = n := by sorry
/-- z0: ahead of it; zb: it has begun -/
def PgZ (z0 zb z : ZS) : Prop := SgZ zb z ∧ (coM 20 0 0 (zAt z0.1) z0).2.1 <:+ z.2.1
theorem PgZ.rf {z0 zb : ZS} (h : zb.2.1 = (coM 20 0 0 (zAt z0.1) z0).2.1) : PgZ z0 zb zb := ⟨SgZ.rf, by rw [h]; exact List.suffix_rfl⟩
theorem PgZ.t {z0 zb z z' : ZS} (h : PgZ z0 zb z) (s : SgZ z z') (i : z.2.1 <:+ z'.2.1) : PgZ z0 zb z' := ⟨h.1.tr s, h.2.trans i⟩
theorem PgZ.e {z0 zb z z' : ZS} (h : PgZ z0 zb z) (e1 : z'.2.1 = z.2.1) (e2 : z'.2.2.1 = z.2.2.1) : PgZ z0 zb z' := h.t (SgZ.e e2) (by rw [e1]; exact List.suffix_rfl)
theorem PgZ.co {z0 zb z : ZS} {x : ItZ} (h : PgZ z0 zb z) : PgZ z0 zb (z.1, x :: z.2.1, z.2.2) := h.t (SgZ.e rfl) (List.suffix_cons _ _)
theorem sg_ex {N : Int → Int} {j n : Nat} {z : ZS} : SgZ z (exS N j n z) := by sorry
theorem PgZ.ex {N : Int → Int} {j n : Nat} {z0 zb z : ZS} (h : PgZ z0 zb z) : PgZ z0 zb (exS N j n z) := h.t sg_ex (ig_e z)
theorem PgZ.cd {N : Int → Int} {j n : Nat} {z0 zb z : ZS} (h : PgZ z0 zb z) : PgZ z0 zb (cdM N j n z) := h.t sg_cd ig_cd
theorem PgZ.se {z0 zb z : ZS} {i : Nat} {f : SrZ → SrZ} (h : PgZ z0 zb z) (hf : ∀ x, (f x).1 = x.1 ∧ (f x).2.1 = x.2.1 ∧ (f x).2.2.2.2.2.2.2.2 = x.2.2.2.2.2.2.2.2) (hl : kjS z i = 6 → ∀ x, (f x).2.2.2.2.2.2.2.1 = x.2.2.2.2.2.2.2.1) : PgZ z0 zb (seM i f z) := h.t (SgZ.se hf hl) List.suffix_rfl
theorem PgZ.be {z0 zb z : ZS} {k lv : Int} (h : PgZ z0 zb z) : PgZ z0 zb (beM k lv z) := h.t SgZ.be List.suffix_rfl
theorem itN_0 {x : ItZ} {l : List ItZ} : itN (x :: l) l.length = some x := by sorry
theorem PgZ.st {z0 zb z : ZS} (h : PgZ z0 zb z) : itN z.2.1 (cnM z0) = some (.inr (20, 0, 0, zAt z0.1, -1)) := itN_g h.2 itN_0
theorem PgZ.fi {z0 zb z : ZS} (h : PgZ z0 zb z) (hs : snM z0 < snM zb) (e : fiS zb (snM z0) = zAt z0.1) : fiS z (snM z0) = zAt z0.1 := by sorry
theorem fi_be {z : ZS} {k lv : Int} : fiS (beM k lv z) (snM z) = zAt z.1 := by sorry
theorem kj_be {z : ZS} {k lv : Int} : kjS (beM k lv z) (snM z) = k := by sorry
theorem PgZ.fb {z0 z1 z : ZS} {k lv : Int} (h : PgZ z0 (beM k lv z1) z) (e1 : snM z1 = snM z0) (e2 : zAt z1.1 = zAt z0.1) : fiS z (snM z0) = zAt z0.1 := by sorry
theorem PgZ.fh {z0 z1 z : ZS} {k lv : Int} (h : PgZ z0 (thM (beM k lv z1)) z) (e1 : snM z1 = snM z0) (e2 : zAt z1.1 = zAt z0.1) : fiS z (snM z0) = zAt z0.1 := by sorry
theorem BZ.tok {N : Int → Int} {σ : RS} {z : ZS} {F K : List FrZ} {c : Nat} {a b t e : Int} {s : Int32} (h : BZ N σ z F K) (hc : itN z.2.1 c = some (.inr (20, a, b, t, e))) (hs : s.toInt = (c : Int)) : (aI σ 22 s.toNatClampNeg).toInt = t := by sorry
theorem BZ.pcm {N : Int → Int} {σ : RS} {z : ZS} {F K : List FrZ} (h : BZ N σ z F K) : PcM id σ z := h.1.1
theorem BZ.tl {N : Int → Int} {σ : RS} {z : ZS} {F K : List FrZ} (h : BZ N σ z F K) : TlZ σ z.1 := h.2.1.1
theorem KtR.gh {σ : RS} {z z' : ZS} (h : KtR σ z) (e1 : z'.2.1 = z.2.1) (e2 : tnM z' = tnM z) : KtR σ z' := h.z e1 e2 (fun _ _ _ => rfl)
theorem KtR.ek {σ τ : RS} {z : ZS} {x : Int × Int × Int × Int × Int} {k : Nat} (h : KtR σ z) (q : ∀ a, 51 ≤ a → a ≤ 61 → aI τ a = aI σ a) (hk : k < tnM z) (hx : x.2.1 = (k : Int)) (h5 : ¬ x.1 = 50 ∧ ¬ x.1 = 41 ∧ ¬ x.1 = 51) (hs : ∀ a, a < 60 → sqZ a x.1 = false) : KtR τ (z.1, .inr x :: z.2.1, z.2.2) := h.em q (fun _ => TcR.k h hk hx h5) hs
theorem KtR.es {σ τ : RS} {z : ZS} {x : Int × Int × Int × Int × Int} {A k : Nat} {op a b t f l s : Int32} (h : KtR σ z) (e : EmZ σ op a b t f l τ) (hA : 52 ≤ A ∧ A ≤ 59) (hk : k < tnM z) (hs32 : s.toInt = (k : Int)) (hx : x.2.1 = (k : Int)) (h5 : ¬ x.1 = 50 ∧ ¬ x.1 = 41 ∧ ¬ x.1 = 51) (hc : (gI σ 18).toInt = (cnM z : Int)) (hs : ∀ a, a < 60 → (sqZ a x.1 = true ↔ a = A)) : KtR (sA τ A (upd (aI τ A) s.toNatClampNeg (gI σ 18))) (z.1, .inr x :: z.2.1, z.2.2) := by sorry
theorem KtR.et {σ τ : RS} {z : ZS} {x : Int × Int × Int × Int × Int} {A k : Nat} {op a b t f l s : Int32} {g : Nat → Int32} (h : KtR σ z) (e : EmZ σ op a b t f l τ) (hA : 52 ≤ A ∧ A ≤ 59) (hk : k < tnM z) (hs32 : s.toInt = (k : Int)) (hx : x.2.1 = (k : Int)) (h5 : ¬ x.1 = 50 ∧ ¬ x.1 = 41 ∧ ¬ x.1 = 51) (hc : (gI σ 18).toInt = (cnM z : Int)) (hs : ∀ a, a < 60 → (sqZ a x.1 = true ↔ a = A)) : KtR (sA (sA τ 21 g) A (upd (aI τ A) s.toNatClampNeg (gI σ 18))) (z.1, .inr x :: z.2.1, z.2.2) := by sorry
theorem PcM.sx {th : Int → Int} {σ τ : RS} {z : ZS} {op a t b : Int32} {x : XrZ} (h : PcM th σ z) (e : EmZ σ op a 0 t t t τ) (m : cmZ op.toInt a.toInt b.toInt t.toInt t.toInt t.toInt x) : PcM th (sA τ 21 (upd (aI τ 21) (gI σ 18).toNatClampNeg b)) (puM x z) := by sorry
/-- a variable's first value -/
theorem BZ.sto {N : Int → Int} {σ τ : RS} {z : ZS} {F K : List FrZ} {a t : Int32} {v j st : Int} (h : BZ N σ z F K) (e : EmZ σ 22 a 0 t t t τ) (l : aL τ = aL σ) (ha : a.toInt = v) : BZ N (sA τ 21 (upd (aI τ 21) (gI σ 18).toNatClampNeg 1)) (puM (stoZ v j st (xnM z) z.1) z) F K := by sorry
/-- from t on -/
def PhZ (t z : ZS) : Prop := SgZ t z ∧ t.2.1 <:+ z.2.1
theorem PhZ.rf {t : ZS} : PhZ t t := ⟨SgZ.rf, List.suffix_rfl⟩
theorem PhZ.t {t z z' : ZS} (h : PhZ t z) (s : SgZ z z') (i : z.2.1 <:+ z'.2.1) : PhZ t z' := ⟨h.1.tr s, h.2.trans i⟩
theorem PhZ.e {t z z' : ZS} (h : PhZ t z) (e1 : z'.2.1 = z.2.1) (e2 : z'.2.2.1 = z.2.2.1) : PhZ t z' := h.t (SgZ.e e2) (by rw [e1]; exact List.suffix_rfl)
theorem PhZ.co {t z : ZS} {x : ItZ} (h : PhZ t z) : PhZ t (z.1, x :: z.2.1, z.2.2) := h.t (SgZ.e rfl) (List.suffix_cons _ _)
theorem PhZ.ex {N : Int → Int} {j n : Nat} {t z : ZS} (h : PhZ t z) : PhZ t (exS N j n z) := h.t sg_ex (ig_e z)
theorem PhZ.cd {N : Int → Int} {j n : Nat} {t z : ZS} (h : PhZ t z) : PhZ t (cdM N j n z) := h.t sg_cd ig_cd
theorem PhZ.bd {t z : ZS} {j jb : Nat} (h : PhZ t z) : PhZ t (bdM j jb z) := by sorry
theorem PhZ.ot {t z : ZS} {j : Nat} {v : Int} (h : PhZ t z) : PhZ t (unM j (seM j (sOt v) z)) := by sorry
theorem PhZ.fi {t z : ZS} {j : Nat} (h : PhZ t z) (hj : j < snM t) : fiS z j = fiS t j := by sorry
theorem SR.lv {e : Nat} {σ τ : RS} {s : SpC} {n : Nat} {k t : Int32} (h : SRx e σ s n) (q : LvZ σ k t τ) : SRx e τ s n := by sorry
theorem FgR.lv {σ τ : RS} {b : Int} {k t : Int32} (h : FgR σ b) (q : LvZ σ k t τ) : FgR τ b := by sorry
theorem frR_lv {σ τ : RS} {k t : Int32} (q : LvZ σ k t τ) : frR τ = frR σ := frR_c (q.2.1 63 (by decide)) (q.1 62)
theorem TcR.t50 {σ : RS} {z : ZS} {x : Int × Int × Int × Int × Int} {k : Nat} (hk : k < tnM z) (hx : x.2.1 = (k : Int)) (e : (aI σ 51 k).toInt = (z.2.1.length : Int)) (h5 : ¬ x.1 = 41 ∧ ¬ x.1 = 51) : TcR σ (tnM z) z.2.1.length x := by sorry
theorem TcR.t41 {σ : RS} {z : ZS} {x : Int × Int × Int × Int × Int} {k : Nat} (h : KtR σ z) (hk : k < tnM z) (hx : x.2.1 = (k : Int)) (e : (aI σ 60 k).toInt = x.2.2.2.1) (h5 : ¬ x.1 = 50 ∧ ¬ x.1 = 51) : TcR σ (tnM z) z.2.1.length x := by sorry
theorem PgZ.kb {z0 z1 z : ZS} {k lv : Int} (h : PgZ z0 (beM k lv z1) z) (e1 : snM z1 = snM z0) : kjS z (snM z0) = k := by sorry
/-- return, throw, break, continue: what they lay -/
theorem gi_6x {N : Int → Int} {n : Nat} {z : ZS} (h : ¬ codY (accY z.1) = 4) : giM N 66 n z = enM (snM z) (cnM z) (xpM 4 (cxM 48 1 ((cnM (exS N (snM z) n (accM (bgM 66 n z))) : Int) - 1) (zAt z.1) (seM (snM z) (sLk (((zMs (exS N (snM z) n (accM (bgM 66 n z))).1).length : Int) - 1)) (exS N (snM z) n (accM (bgM 66 n z)))))) := by sorry
theorem gi_6e {N : Int → Int} {n : Nat} {z : ZS} (h : codY (accY z.1) = 4) : giM N 66 n z = enM (snM z) (cnM z) (xpM 4 (coM 48 0 (-2) (zAt z.1) (seM (snM z) (sLk (((zMs (accM (bgM 66 n z)).1).length : Int) - 1)) (accM (bgM 66 n z))))) := by sorry
theorem gi_7 {N : Int → Int} {n : Nat} {z : ZS} : giM N 67 n z = enM (snM z) (cnM z) (xpM 4 (cxM 49 1 ((cnM (exS N (snM z) n (accM (bgM 67 n z))) : Int) - 1) (zAt z.1) (exS N (snM z) n (accM (bgM 67 n z))))) := by sorry
theorem ju_y {N : Int → Int} {k : Int} {n : Nat} {z : ZS} (h : codY (accY z.1) = 80) : juM N k n z = enM (snM z) (cnM z) (xpM 4 (accM (coM (k - 18) (tqM N (decide (k = 65)) (zAt (accY z.1)) (accM (bgM k n z))) 0 (zAt (accY z.1)) (seM (snM z) (sLk (zAt (accY z.1))) (accM (bgM k n z)))))) := by sorry
theorem ju_n {N : Int → Int} {k : Int} {n : Nat} {z : ZS} (h : ¬ codY (accY z.1) = 80) : juM N k n z = enM (snM z) (cnM z) (xpM 4 (coM (k - 18) (tqM N (decide (k = 65)) (-1) (accM (bgM k n z))) 0 (zAt z.1) (accM (bgM k n z)))) := by sorry
theorem tg_u {N : Int → Int} {z : ZS} {on : Bool} {t : Int} {u u' : Int × Int} {F : List FrZ} (h : t < 0) : tgF N z on t u F = tgF N z on t u' F := by sorry
theorem tg_n0 {N : Int → Int} {z : ZS} {on : Bool} {t : Int} {u : Int × Int} {a : FrZ} {F : List FrZ} (h : t < 0) (q : ¬ (a.1 = 4 ∨ a.1 = 5 ∨ a.1 = 6 ∨ (on = false ∧ a.1 = 8))) : tgF N z on t u (a :: F) = tgF N z on t u F := by sorry
theorem tg_n1 {N : Int → Int} {z : ZS} {on : Bool} {t : Int} {u : Int × Int} {a : FrZ} {F : List FrZ} (h : t < 0) (q : a.1 = 4 ∨ a.1 = 5 ∨ a.1 = 6 ∨ (on = false ∧ a.1 = 8)) : tgF N z on t u (a :: F) = (a.2.2.1.2 : Int) := by sorry
/-! exps of for; variables that are told -/
theorem fx1_1 {N : Int → Int} {n : Nat} {z : ZS} : (fx1M N n z).1 = eY n z.1 := by sorry
theorem cod_fZ {s : SpC} (h : ¬ zFt s = 0) : codY s = -1 := by sorry
theorem fxl_f {N : Int → Int} {n k j : Nat} {z : ZS} (h : ¬ zFt z.1 = 0) : fxlM N n k j z = z := by sorry
theorem fxl_fu {N : Int → Int} {n : Nat} : ∀ (k j : Nat) (z : ZS), zAt z.1 ≤ 500 → 501 - zAt z.1 ≤ k → fxlM N n k j z = fxlM N n (k + 1) j z := by sorry
theorem fxl_one {N : Int → Int} {n j : Nat} {z : ZS} (h0 : 0 ≤ zAt z.1) (h : zAt z.1 ≤ 500) (hc : codY z.1 = 5) : fxlM N n 501 j z = fxlM N n 501 (snM (accM z)) (nxM (j : Int) (snM (accM z)) (fx1M N n (accM z))) := by sorry
theorem fxl_no {N : Int → Int} {n k j : Nat} {z : ZS} (hc : ¬ codY z.1 = 5) : fxlM N n k j z = z := by sorry
theorem PhZ.fx1 {N : Int → Int} {n : Nat} {z0 z : ZS} (h : PhZ z0 z) : PhZ z0 (fx1M N n z) := by sorry
theorem PhZ.nx {z0 z : ZS} {j : Nat} {v : Int} (h : PhZ z0 z) : PhZ z0 (seM j (sNx v) z) := by sorry
theorem PhZ.nq {z0 z : ZS} {j : Nat} {l : Int} (h : PhZ z0 z) : PhZ z0 (nxM l j z) := by sorry
theorem PhZ.fxl {N : Int → Int} {n : Nat} {z0 : ZS} : ∀ (k j : Nat) (z : ZS), PhZ z0 z → PhZ z0 (fxlM N n k j z) := by sorry
theorem PhZ.fx {N : Int → Int} {n : Nat} {z : ZS} : PhZ z (fxM N n z) := PhZ.fxl 501 _ _ (PhZ.fx1 PhZ.rf)
theorem tn_ex {N : Int → Int} {j n : Nat} {z : ZS} : (exS N j n z).2.2.2 = z.2.2.2 := by sorry
theorem tn_fx1 {N : Int → Int} {n : Nat} {z : ZS} : (fx1M N n z).2.2.2 = z.2.2.2 := by sorry
theorem tn_fxl {N : Int → Int} {n : Nat} : ∀ (k j : Nat) (z : ZS), (fxlM N n k j z).2.2.2 = z.2.2.2 := by sorry
theorem tn_fx {N : Int → Int} {n : Nat} {z : ZS} : (fxM N n z).2.2.2 = z.2.2.2 := by sorry
theorem vaM_y {N : Int → Int} {j n : Nat} {z : ZS} (h : codY z.1 = 71) : vaM N j n z = va1M N j n 1 (tyvY (accY z.1)) (typM (accM z)) := if_pos h
theorem vaM_n {N : Int → Int} {j n : Nat} {z : ZS} (h : ¬ codY z.1 = 71) : vaM N j n z = va1M N j n 0 (tyvY z.1) (typM z) := if_neg h
theorem va2_yM {N : Int → Int} {j n : Nat} {f v t : Int} {z : ZS} (h : f = 1 ∨ codY z.1 = 8) : va2M N j n f v t z = puM (stoZ v (fiS (exS N j n (xpM 8 (coM 22 v 2 t z))) j) (xnM (coM 22 v 2 t z)) (xnM (exS N j n (xpM 8 (coM 22 v 2 t z)))) (exS N j n (xpM 8 (coM 22 v 2 t z))).1) (exS N j n (xpM 8 (coM 22 v 2 t z))) := if_pos h
theorem va2_nM {N : Int → Int} {j n : Nat} {f v t : Int} {z : ZS} (h : ¬ (f = 1 ∨ codY z.1 = 8)) : va2M N j n f v t z = coM 22 v 0 t z := if_neg h
theorem PhZ.va2 {N : Int → Int} {j n : Nat} {f v t : Int} {z0 z : ZS} (h : PhZ z0 z) : PhZ z0 (va2M N j n f v t z) := by sorry
theorem PhZ.va1 {N : Int → Int} {j n : Nat} {f ty : Int} {z0 z : ZS} (h : PhZ z0 z) (hk : ¬ kjS z j = 6) : PhZ z0 (va1M N j n f ty z) := by sorry
theorem PhZ.va {N : Int → Int} {j n : Nat} {z : ZS} (hk : ¬ kjS z j = 6) : PhZ z (vaM N j n z) := by sorry
theorem tn_va2 {N : Int → Int} {j n : Nat} {f v t : Int} {z : ZS} : (va2M N j n f v t z).2.2.2 = z.2.2.2 := by sorry
theorem tn_va {N : Int → Int} {j n : Nat} {z : ZS} : tnM (vaM N j n z) = tnM z := by sorry
theorem ar_va {N : Int → Int} {j n : Nat} {z : ZS} : (vaM N j n z).2.2.2.1.2 = z.2.2.2.1.2 := by sorry
theorem kK_typ {s : SpC} : zK (typY s) = zK s := kK_2 (p2_typ s)
theorem BZ.ty {N : Int → Int} {σ τ : RS} {z : ZS} {F K : List FrZ} (h : BZ N σ z F K) (e : S1 14 σ τ) (l : aL τ = aL σ) : BZ N τ (typM z) F K := h.s1 e (by decide) l rfl kK_typ
theorem KtR.ty {σ τ : RS} {z : ZS} (h : KtR σ z) (e : S1 14 σ τ) : KtR τ (typM z) := h.s1 e rfl
theorem KtR.sto {σ τ : RS} {z : ZS} {x : XrZ} (h : KtR σ z) (q : ∀ a, 51 ≤ a → a ≤ 61 → aI τ a = aI σ a) : KtR τ (puM x z) := h.w XsR.pu rfl q
theorem fo1_tM {N : Int → Int} {j n : Nat} {z : ZS} {c : Int} (e : codY z.1 = c) (h : c = 71 ∨ (50 ≤ c ∧ c ≤ 54)) : fo1M N j n z = seM j (sOt (snM z)) (vaM N (snM z) n (beM 93 (lvN n) z)) := if_pos (by rw [e]; exact h)
theorem fo1_eM {N : Int → Int} {j n : Nat} {z : ZS} {c : Int} (e : codY z.1 = c) (h : c = 4) : fo1M N j n z = z := by sorry
theorem fo1_xM {N : Int → Int} {j n : Nat} {z : ZS} {c : Int} (e : codY z.1 = c) (h : ¬ (c = 71 ∨ (50 ≤ c ∧ c ≤ 54))) (h4 : ¬ c = 4) : fo1M N j n z = seM j (sOt (snM z)) (fxM N n z) := by sorry
theorem fo2_eM {N : Int → Int} {j k n : Nat} {z : ZS} {c : Int} (e : codY z.1 = c) (h : c = 4) : fo2M N j k n z = coM 33 k 0 (fiS z j) z := if_pos (by rw [e]; exact h)
theorem fo2_xM {N : Int → Int} {j k n : Nat} {z : ZS} {c : Int} (e : codY z.1 = c) (h : ¬ c = 4) : fo2M N j k n z = cxM 33 k 1 (fiS (exS N j n z) j) (exS N j n z) := if_neg (by rw [e]; exact h)
theorem fo3_eM {N : Int → Int} {j n : Nat} {z : ZS} {c : Int} (e : codY z.1 = c) (h : c = 1) : fo3M N j n z = z := if_pos (by rw [e]; exact h)
theorem fo3_xM {N : Int → Int} {j n : Nat} {z : ZS} {c : Int} (e : codY z.1 = c) (h : ¬ c = 1) : fo3M N j n z = seM j (sLs (snM z)) (fxM N n z) := if_neg (by rw [e]; exact h)
/-! rows: what they lay -/
theorem cs_y {N : Int → Int} {js : Int} {n : Nat} {z : ZS} (h : codY z.1 = 62) : csM N js n z = xpM 6 (cxM 38 js ((cnM (exS N (snM z) n (accM (beM 62 (lvN n) z))) : Int) - 1) (zAt z.1) (exS N (snM z) n (accM (beM 62 (lvN n) z)))) := if_pos h
theorem cs_n {N : Int → Int} {js : Int} {n : Nat} {z : ZS} (h : ¬ codY z.1 = 62) : csM N js n z = xpM 6 (coM 39 js 0 (zAt z.1) (accM (beM (codY z.1) (lvN n) z))) := if_neg h
/-- behind a row of try's -/
def ctF (N : Int → Int) (a : FrZ) (F : List FrZ) (n : Nat) (z : ZS) : ZS :=
  if a.1 = 9 then sfM N F (n + 1) (trE a.2.1 a.2.2.1.2 a.2.2.1.1 (tr3M (rwM N n) a.2.1 a.2.2.1.2 (n + 1) (tr2M N (rwM N n) a.2.1 a.2.2.1.2 (n + 1) (tr1M (seM a.2.1 (sBd (a.2.2.2.1.getD 3 0)) z)))))
  else if a.1 = 10 then sfM N F (n + 1) (trE a.2.1 a.2.2.1.2 a.2.2.1.1 (tr3M (rwM N n) a.2.1 a.2.2.1.2 (n + 1) (seM a.2.1 (sOt (a.2.2.2.1.getD 3 0)) z)))
  else sfM N F (n + 1) (trE a.2.1 a.2.2.1.2 a.2.2.1.1 (seM a.2.1 (sLs (a.2.2.2.1.getD 3 0)) z))
theorem cl_ctF {N : Int → Int} {a : FrZ} {F : List FrZ} {n : Nat} {z : ZS} (h : a.1 = 9 ∨ a.1 = 10 ∨ a.1 = 11) (hc : codY z.1 = 3) : clF N a F n (z, a.2.2.2.1.getD 0 0) = ctF N a F n (t9M a.2.1 a.2.2.2.1 a.2.2.2.2 z) := by sorry
theorem lf_ctF {N : Int → Int} {σ : RS} {a : FrZ} {F : List FrZ} {n : Nat} {z : ZS} (h : a.1 = 9 ∨ a.1 = 10 ∨ a.1 = 11) (hw : WfF F) : (ctF N a F n z).1 = ctY a.1 (F.map (·.1)) n z.1 := by sorry
theorem ct_9M {N : Int → Int} {j : Nat} {c : Nat × Nat} {x : List Int} {out : List (Int × Int)} {F : List FrZ} {n : Nat} {z : ZS} : ctF N (9, j, c, x, out) F n z = sfM N F (n + 1) (trE j c.2 c.1 (tr3M (rwM N n) j c.2 (n + 1) (tr2M N (rwM N n) j c.2 (n + 1) (tr1M (seM j (sBd (x.getD 3 0)) z))))) := rfl
theorem ct_10M {N : Int → Int} {j : Nat} {c : Nat × Nat} {x : List Int} {out : List (Int × Int)} {F : List FrZ} {n : Nat} {z : ZS} : ctF N (10, j, c, x, out) F n z = sfM N F (n + 1) (trE j c.2 c.1 (tr3M (rwM N n) j c.2 (n + 1) (seM j (sOt (x.getD 3 0)) z))) := rfl
theorem ct_11M {N : Int → Int} {j : Nat} {c : Nat × Nat} {x : List Int} {out : List (Int × Int)} {F : List FrZ} {n : Nat} {z : ZS} : ctF N (11, j, c, x, out) F n z = sfM N F (n + 1) (trE j c.2 c.1 (seM j (sLs (x.getD 3 0)) z)) := rfl
theorem lf_clb {N : Int → Int} {a : FrZ} {F : List FrZ} {n : Nat} {q : ZS × Int} (h : rwkY a.1) (hw : WfF F) : (clF N a F n q).1 = clY a.1 (F.map (·.1)) n q.1.1 := lf_clF h (lf_sf F hw)
theorem pa_0 {a : FrZ} {j : Nat} : 0 ≤ (paF a j).2.2.2.1.getD 0 0 := by sorry
theorem Wf_pa {a : FrZ} {j : Nat} {F : List FrZ} (h : 0 ≤ a.1 ∧ a.1 ≤ 11) (hw : WfF F) : WfF (paF a j :: F) := by sorry
theorem bF_0 {a : FrZ} {F : List FrZ} (h : 0 ≤ a.2.2.2.1.getD 0 0) : bF (a :: F) = 0 := if_neg (by omega)
theorem fr_01 {σ : RS} {s : SpC} {n e : Nat} {a : FrZ} {G : List Int} (h : SRx e σ s n) (p : frR σ = a.1 :: G) : 0 ≤ a.1 ∧ a.1 ≤ 11 := by sorry
theorem ow_9 {a : FrZ} (h : 9 ≤ a.1 ∧ a.1 ≤ 11) : owF a = (a.2.2.2.1.getD 3 0).toNat := if_pos h
theorem ow_1 {a : FrZ} (h : ¬ (9 ≤ a.1 ∧ a.1 ≤ 11)) : owF a = a.2.1 := if_neg h
theorem fi_sk {z : ZS} {j i : Nat} {v : Int} : fiS (seM i (sOt v) z) j = fiS z j := by sorry
theorem fi_sl {z : ZS} {j i : Nat} {v : Int} : fiS (seM i (sLs v) z) j = fiS z j := by sorry
/-! methods: between them, their params, their rows -/
def MZ (N : Int → Int) (σ : RS) (z : ZS) : Prop := PcM id σ z ∧ nT (gI σ 49) = tnM z ∧ EnZ (fun v => (aI σ 48 v).toInt) [] z.2.2.2.2.1 (nT (gI σ 42)) ∧ (TlZ σ z.1 ∧ NmZ N σ) ∧ (0 ≤ gI σ 49 ∧ gI σ 49 ≤ 600) ∧ KtR σ z ∧ 0 ≤ gI σ 18
/-- k: the number that its params name -/
def PZ (N : Int → Int) (σ : RS) (z : ZS) (k : Nat) : Prop := PcM id σ z ∧ (nT (gI σ 49) = tnM z ∧ k < tnM z) ∧ z.2.2.2.1.2 = -1 ∧ (∀ p ∈ z.2.2.2.1.1, 0 ≤ p.1 ∧ p.1 < (nT (gI σ 42) : Int) ∧ (aI σ 47 p.1.toNat).toInt = (k : Int)) ∧ EnZ (fun v => (aI σ 48 v).toInt) z.2.2.2.1.1 z.2.2.2.2.1 (nT (gI σ 42)) ∧ (TlZ σ z.1 ∧ NmZ N σ) ∧ (0 ≤ gI σ 49 ∧ gI σ 49 ≤ 600) ∧ KtR σ z
theorem MZ.s1 {N : Int → Int} {σ τ : RS} {z z' : ZS} (h : MZ N σ z) (e : S1 14 σ τ) (l : aL τ = aL σ) (e2 : z'.2 = z.2) (ek : zK z'.1 = zK z.1) : MZ N τ z' := by sorry
theorem PZ.s1 {N : Int → Int} {σ τ : RS} {z z' : ZS} {k : Nat} (h : PZ N σ z k) (e : S1 14 σ τ) (l : aL τ = aL σ) (e2 : z'.2 = z.2) (ek : zK z'.1 = zK z.1) : PZ N τ z' k := by sorry
/-- a method's NAME -/
theorem MZ.me {N : Int → Int} {σ τ : RS} {z : ZS} {ty t : Int32} {ty' : Int} (h : MZ N σ z) (e : ThZ (mzR σ ty) t τ) (l : aL τ = aL σ) : PZ N τ (me0M ty' z) (tnM z) := by sorry
/-- a param -/
theorem PZ.va {N : Int → Int} {σ0 σ τ : RS} {z : ZS} {k : Nat} {ty f kk : Int32} {ty' f' : Int} (h : PZ N σ0 z k) (hσ : σ = sA σ0 39 (aI σ 39)) (e : VaR σ τ ty f) (e7 : aI τ 47 = upd (aI σ 47) (nT (gI σ 42)) kk) (e8 : aI τ 48 = upd (aI σ 48) (nT (gI σ 42)) (-2)) (l : aL τ = aL σ) (hv : (zVs z.1).length = nT (gI σ0 42)) (hk : kk.toInt = (k : Int)) : PZ N τ (padY ty' (dcM N ty' f' 1 z).1, (dcM N ty' f' 1 z).2) k := by sorry
/-- its row begins -/
theorem PZ.bz {N : Int → Int} {σ : RS} {z : ZS} {k : Nat} {lv : Int} {x : List Int} {f : Nat → Int32} {v : Int32} (h : PZ N σ z k) (h62 : gI σ 62 = 0) : BZ N (sI (sA σ 41 f) 36 v) (arM (snM z) (beM 92 lv z)) [] [(0, snM z, (0, k), x, [])] := by sorry
/-- a method is read -/
theorem BZ.mz {N : Int → Int} {σ : RS} {z : ZS} (h : BZ N σ z [] []) (hK : KtR σ z) (hl : 0 < z.2.1.length) : MZ N σ z := by sorry
theorem pa1_1M {N : Int → Int} {i : Nat} {z : ZS} (h : codY z.1 = 71) : pa1M N i z = pa2M N i (tyvY (accY z.1)) 1 (typM (accM z)) := if_pos h
theorem pa1_0M {N : Int → Int} {i : Nat} {z : ZS} (h : ¬ codY z.1 = 71) : pa1M N i z = pa2M N i (tyvY z.1) 0 (typM z) := if_neg h
theorem pa2_M {N : Int → Int} {i : Nat} {ty f : Int} {z : ZS} (h : i < 6) : pa2M N i ty f z = (padY ty (dcM N ty f 1 z).1, (dcM N ty f 1 z).2) := if_pos h
theorem pal_yM {N : Int → Int} {i : Nat} {z : ZS} (hi : i < 7) (h : codY (pa1M N i z).1 = 5) : palM N (7 - i) i z = palM N (7 - (i + 1)) (i + 1) (accM (pa1M N i z)) := by sorry
theorem pal_nM {N : Int → Int} {i : Nat} {z : ZS} (hi : i < 7) (h : ¬ codY (pa1M N i z).1 = 5) : palM N (7 - i) i z = pa1M N i z := by sorry
theorem pa3_yM {N : Int → Int} {z : ZS} (h : codY z.1 = 1) : pa3M N z = z := if_pos h
theorem pa3_nM {N : Int → Int} {z : ZS} (h : ¬ codY z.1 = 1) : pa3M N z = palM N 7 0 z := if_neg h
/-- behind a method's params -/
def mbM (N : Int → Int) (m t : Int) (z : ZS) : ZS := coM 54 m 0 t (boM (rwM N 20) 21 [] z)
theorem lf_mb {N : Int → Int} {m t : Int} {z : ZS} : (mbM N m t z).1 = bdY z.1 := (lf_bo lf_rw).trans rfl
theorem mb_pc {N : Int → Int} {m t : Int} {z : ZS} {k : Nat} : mbM N m t z = pcM N [(0, snM z, (0, k), [-1, -1, -1] ++ [0, m, t], [])] 20 (xpM 2 (arM (snM z) (beM 92 (lvN 21) z))) := by sorry
theorem me_yM {N : Int → Int} {z : ZS} (h1 : (50 ≤ codY z.1 ∧ codY z.1 ≤ 54) ∨ codY z.1 = 55) (h2 : codY (accY z.1) = 80) (h3 : ¬ 10 ≤ (zMs (accY z.1)).length) (h4 : zFt (accY z.1) = 0) : meM N z = mbM N (zMs (accY z.1)).length (zAt (accY z.1)) (xpM 1 (pa3M N (xpM 0 (accM (me0M (codY z.1 - 50) (accM z)))))) := by sorry
/-- one code more, as it is laid -/
theorem PcM.b {th : Int → Int} {τ : RS} {z : ZS} {x : XrZ} {i : Nat} {v : Int32} (h : PcM th τ (puM x z)) (hi : i + 1 = nT (gI τ 18)) (hk : ¬ x.1.1 ≤ 0 ∧ ¬ x.1.1 = 15) : PcM th (sA τ 21 (upd (aI τ 21) i v)) (puM x z) := by sorry
theorem PcM.q {th : Int → Int} {τ : RS} {z : ZS} {x : XrZ} {i : Nat} {v : Int32} (h : PcM th τ (puM x z)) (hi : i + 1 = nT (gI τ 18)) (hk : x.1.1 = 8) : PcM th (sA τ 20 (upd (aI τ 20) i v)) (puM x z) := by sorry
theorem i32_sb {x y : Int32} (h0 : 0 ≤ y.toInt) (hx1 : y.toInt ≤ x.toInt) : (x - y).toInt = x.toInt - y.toInt := by sorry
theorem nT_i {x : Int32} {n : Nat} (h : x.toInt = n) : x.toNatClampNeg = n := by sorry
theorem vn_4 {x t st : Int} {l : List Int} {O : List OpZ} : vnZ ((4, x, t, st, l) :: O) = l.length + vnZ O := rfl
theorem vn_2 {x t st : Int} {l : List Int} {O : List OpZ} : vnZ ((2, x, t, st, l) :: O) = 1 + vnZ O := rfl
theorem vn_6 {x t st : Int} {l : List Int} {O : List OpZ} : vnZ ((6, x, t, st, l) :: O) = 1 + vnZ O := rfl
theorem vn_7 {x t st : Int} {l : List Int} {O : List OpZ} : vnZ ((7, x, t, st, l) :: O) = 2 + vnZ O := rfl
theorem vn_0 {k x t st : Int} {l : List Int} {O : List OpZ} (h : k = 0 ∨ k = 1 ∨ k = 3 ∨ k = 5) : vnZ ((k, x, t, st, l) :: O) = vnZ O := by sorry
/-- what waits on top is weaker -/
def rdZ (p : Int32) (O : List OpZ) : Prop := match O with
  | [] => True
  | o :: _ => o.1 = 2 → strZ o.2.1 < p.toInt
theorem sg_307 {a : Int32} {x : Int} (h : (a.toInt, x) ∈ sgT) : (a = 307 ↔ x = 21) ∧ (a = 308 ↔ x = 20) := by sorry
theorem nb_c {k x t st : Int} {l : List Int} {O : List OpZ} : nbY (osZ ((k, x, t, st, l) :: O)) = (if k = 2 then 0 else 1) + nbY (osZ O) := rfl
/-- the whole -/
def WhZ (σ : RS) (first : Int32) (τ : RS) : Prop := τ = sI (sA σ 30 (upd (aI σ 30) (nT (gI σ 31)) first)) 31 (gI σ 31 + 1)
def Pv_emitZ : UP1 := fun A1 σ => match A1 with
  | [.int op, .int a, .int token] => True
  | _ => False
def Qv_emitZ : UQ1 := fun A1 σ w τ => match A1 with
  | [.int op, .int a, .int token] => w = some (.int (gI σ 18)) ∧ EmZ σ op a 0 token token token τ
  | _ => False
def Qw_emitZ : UQ1 := fun A1 σ w τ => Pv_emitZ A1 σ → Qv_emitZ A1 σ w τ
set_option maxRecDepth 100000 in
set_option maxHeartbeats 4000000 in
theorem v_emitZ : UMet 20 (Pv_emitZ) (Qv_emitZ) := by sorry
theorem w_emitZ : UMet 20 (fun _ _ => True) Qw_emitZ := fun A1 σ _ w τ h hP => v_emitZ A1 σ hP w τ h
def Pv_emitExpZ : UP1 := fun A1 σ => match A1 with
  | [.int op, .int a, .int token, .int first, .int last] => True
  | _ => False
def Qv_emitExpZ : UQ1 := fun A1 σ w τ => match A1 with
  | [.int op, .int a, .int token, .int first, .int last] => w = some (.int (gI σ 18)) ∧ EmZ σ op a 0 token first last τ
  | _ => False
def Qw_emitExpZ : UQ1 := fun A1 σ w τ => Pv_emitExpZ A1 σ → Qv_emitExpZ A1 σ w τ
set_option maxRecDepth 100000 in
set_option maxHeartbeats 4000000 in
theorem v_emitExpZ : UMet 21 (Pv_emitExpZ) (Qv_emitExpZ) := by sorry
theorem w_emitExpZ : UMet 21 (fun _ _ => True) Qw_emitExpZ := fun A1 σ _ w τ h hP => v_emitExpZ A1 σ hP w τ h
def Pv_pushZ : UP1 := fun A1 σ => match A1 with
  | [.int sort, .int sign, .int token] => True
  | _ => False
def Qv_pushZ : UQ1 := fun A1 σ w τ => match A1 with
  | [.int sort, .int sign, .int token] => w = some (.int 1) ∧ Pu σ sort sign token τ ∧ aI τ 28 = upd (aI σ 28) (nT (gI σ 29)) 0
  | _ => False
def Qw_pushZ : UQ1 := fun A1 σ w τ => Pv_pushZ A1 σ → Qv_pushZ A1 σ w τ
set_option maxRecDepth 100000 in
set_option maxHeartbeats 4000000 in
theorem v_pushZ : UMet 25 (Pv_pushZ) (Qv_pushZ) := by sorry
theorem w_pushZ : UMet 25 (fun _ _ => True) Qw_pushZ := fun A1 σ _ w τ h hP => v_pushZ A1 σ hP w τ h
def Pv_wholeZ : UP1 := fun A1 σ => match A1 with
  | [.int first] => True
  | _ => False
def Qv_wholeZ : UQ1 := fun A1 σ w τ => match A1 with
  | [.int first] => w = none ∧ WhZ σ first τ ∧ 0 ≤ gI σ 31 ∧ gI σ 31 < 600
  | _ => False
def Qw_wholeZ : UQ1 := fun A1 σ w τ => Pv_wholeZ A1 σ → Qv_wholeZ A1 σ w τ
set_option maxRecDepth 100000 in
set_option maxHeartbeats 4000000 in
theorem v_wholeZ : UMet 26 (Pv_wholeZ) (Qv_wholeZ) := by sorry
theorem w_wholeZ : UMet 26 (fun _ _ => True) Qw_wholeZ := fun A1 σ _ w τ h hP => v_wholeZ A1 σ hP w τ h
def Pv_closeCallZ (th : Int → Int) (σ0 : RS) (z : ZS) (n : Nat) (x t st : Int) (l : List Int) (O : List OpZ) : UP1 := fun A1 σ => match A1 with
  | [] => XrR σ0 σ z.1 n ∧ n ≤ 21 ∧ codY z.1 = 1 ∧ OzZ σ ((4, x, t, st, l) :: O) ∧ (gI σ 31).toInt = vnZ ((4, x, t, st, l) :: O) ∧ PcM th σ z
  | _ => False
def Qv_closeCallZ (th : Int → Int) (σ0 : RS) (z : ZS) (n : Nat) (x t st : Int) (l : List Int) (O : List OpZ) : UQ1 := fun A1 σ w τ => match A1 with
  | [] => (w = some (.int 0) ∧ FlR τ (accY z.1)) ∨ (w = some (.int 1) ∧ XrR σ0 τ (accY z.1) (n + 1) ∧ OzZ τ O ∧ PcM th τ (accM (puM (calZ t st l z.1) z)) ∧ BhZ τ (accY z.1) O (t, st) ∧ gI τ 34 = 0)
  | _ => False
def Qw_closeCallZ : UQ1 := fun A1 σ w τ => ∀ (th : Int → Int) (σ0 : RS) (z : ZS) (n : Nat) (x t st : Int) (l : List Int) (O : List OpZ), Pv_closeCallZ th σ0 z n x t st l O A1 σ → Qv_closeCallZ th σ0 z n x t st l O A1 σ w τ
set_option maxRecDepth 100000 in
set_option maxHeartbeats 4000000 in
theorem v_closeCallZ (th : Int → Int) (σ0 : RS) (z : ZS) (n : Nat) (x t st : Int) (l : List Int) (O : List OpZ) : UMet 31 (Pv_closeCallZ th σ0 z n x t st l O) (Qv_closeCallZ th σ0 z n x t st l O) := by sorry
theorem w_closeCallZ : UMet 31 (fun _ _ => True) Qw_closeCallZ := by sorry
def Pv_reduceZ (N th : Int → Int) (σ0 : RS) (z : ZS) (n : Nat) (O : List OpZ) (r : Int × Int) : UP1 := fun A1 σ => match A1 with
  | [.int least] => XrR σ0 σ z.1 n ∧ OzZ σ O ∧ n + nbY (osZ O) ≤ 21 ∧ BhZ σ z.1 O r ∧ PcM th σ z ∧ ((20 ≤ codY z.1 ∧ codY z.1 ≤ 38) → least.toInt = strZ (codY z.1)) ∧ (¬ (20 ≤ codY z.1 ∧ codY z.1 ≤ 38) → least = 1)
  | _ => False
def Qv_reduceZ (N th : Int → Int) (σ0 : RS) (z : ZS) (n : Nat) (O : List OpZ) (r : Int × Int) : UQ1 := fun A1 σ w τ => match A1 with
  | [.int least] => w = none ∧ ∃ (m : Nat) (O' : List OpZ) (r' : Int × Int) (z' : ZS), XrR σ0 τ z.1 m ∧ z'.1 = z.1 ∧ OzZ τ O' ∧ m + nbY (osZ O') = n + nbY (osZ O) ∧ BhZ τ z.1 O' r' ∧ PcM th τ z' ∧ foM N O' [] m r' z' = foM N O [] n r z ∧ (∀ t, foY (osZ O') m t = foY (osZ O) n t) ∧ ¬ tpZ O' = 0 ∧ ¬ tpZ O' = 1 ∧ rdZ least O'
  | _ => False
def Qw_reduceZ : UQ1 := fun A1 σ w τ => ∀ (N th : Int → Int) (σ0 : RS) (z : ZS) (n : Nat) (O : List OpZ) (r : Int × Int), Pv_reduceZ N th σ0 z n O r A1 σ → Qv_reduceZ N th σ0 z n O r A1 σ w τ
set_option maxRecDepth 100000 in
set_option maxHeartbeats 4000000 in
theorem v_reduceZ (N th : Int → Int) (σ0 : RS) (z : ZS) (n : Nat) (O : List OpZ) (r : Int × Int) : UMet 32 (Pv_reduceZ N th σ0 z n O r) (Qv_reduceZ N th σ0 z n O r) := by sorry
theorem w_reduceZ : UMet 32 (fun _ _ => True) Qw_reduceZ := by sorry
def Pv_completeZ (N th : Int → Int) (σ0 : RS) (z : ZS) (n : Nat) (O : List OpZ) (r : Int × Int) : UP1 := fun A1 σ => match A1 with
  | [] => XrR σ0 σ z.1 n ∧ OzZ σ O ∧ n + nbY (osZ O) ≤ 21 ∧ BhZ σ z.1 O r ∧ PcM th σ z ∧ ¬ (20 ≤ codY z.1 ∧ codY z.1 ≤ 38) ∧ ¬ codY z.1 = 7
  | _ => False
def Qv_completeZ (N th : Int → Int) (σ0 : RS) (z : ZS) (n : Nat) (O : List OpZ) (r : Int × Int) : UQ1 := fun A1 σ w τ => match A1 with
  | [] => w = none ∧ ∃ (m : Nat) (O' : List OpZ) (r' : Int × Int) (z' : ZS), XrR σ0 τ z.1 m ∧ z'.1 = z.1 ∧ OzZ τ O' ∧ m + nbY (osZ O') = n + nbY (osZ O) ∧ BhZ τ z.1 O' r' ∧ PcM th τ z' ∧ cfM N O' m z' = foM N O [] n r z ∧ cfY (osZ O') m z.1 = foY (osZ O) n z.1 ∧ ¬ tpZ O' = 0 ∧ ¬ tpZ O' = 1 ∧ ¬ tpZ O' = 2 ∧ ¬ tpZ O' = 5 ∧ ¬ tpZ O' = 7
  | _ => False
def Qw_completeZ : UQ1 := fun A1 σ w τ => ∀ (N th : Int → Int) (σ0 : RS) (z : ZS) (n : Nat) (O : List OpZ) (r : Int × Int), Pv_completeZ N th σ0 z n O r A1 σ → Qv_completeZ N th σ0 z n O r A1 σ w τ
theorem str_1 {x : Int} (h : 20 ≤ x ∧ x ≤ 38) : 1 ≤ strZ x := by sorry
theorem rd_1 {τ : RS} {O : List OpZ} (h : rdZ 1 O) (hO : OzZ τ O) : ¬ tpZ O = 2 := by sorry
set_option maxRecDepth 100000 in
set_option maxHeartbeats 4000000 in
theorem v_completeZ (N th : Int → Int) (σ0 : RS) (z : ZS) (n : Nat) (O : List OpZ) (r : Int × Int) : UMet 33 (Pv_completeZ N th σ0 z n O r) (Qv_completeZ N th σ0 z n O r) := by sorry
theorem w_completeZ : UMet 33 (fun _ _ => True) Qw_completeZ := by sorry
theorem fa_w {b : Int32} (h : b = 0 ∨ b = 1) : b.toInt = 0 ∨ b.toInt = 1 := by sorry
/-- behind a leaf -/
theorem BhZ.leaf {τ : RS} {s : SpC} {O : List OpZ} {c f l : Int32} {st : Int} (hx31 : (gI τ 31).toInt = vnZ O) (h18 : c.toInt + 1 = (gI τ 18).toInt) (hl : l.toInt = zAt s - 1) (hw : gI τ 31 < 600) : BhZ (sI (sA (sI (sI τ 33 c) 32 l) 30 (upd (aI τ 30) (nT (gI τ 31)) f)) 31 (gI τ 31 + 1)) s O (f.toInt, st) := by sorry
theorem OzZ.leaf {τ : RS} {O : List OpZ} {c l f v : Int32} (h : OzZ τ O) (hx31 : (gI τ 31).toInt = vnZ O) : OzZ (sI (sA (sI (sI τ 33 c) 32 l) 30 (upd (aI τ 30) (nT (gI τ 31)) f)) 31 v) O := by sorry
theorem PcM.leaf {th : Int → Int} {τ : RS} {z : ZS} {c l v : Int32} {g : Nat → Int32} (h : PcM th τ z) : PcM th (sI (sA (sI (sI τ 33 c) 32 l) 30 g) 31 v) z := by sorry
theorem XrR.leaf {σ0 τ : RS} {s : SpC} {n : Nat} {c l v : Int32} {g : Nat → Int32} (h : XrR σ0 τ s n) : XrR σ0 (sI (sA (sI (sI τ 33 c) 32 l) 30 g) 31 v) s n := by sorry
theorem Em.b {σ τ : RS} {op a : Int32} (h : Em σ op a τ) : (gI σ 18).toInt + 1 = (gI τ 18).toInt := by sorry
theorem i32_s1 {x : Int32} (h0 : 0 ≤ x.toInt) : (x - 1).toInt = x.toInt - 1 := by sorry
theorem tm_y {z : ZS} (h : cobY z.1 = 8) : tmM z = -1 := if_pos h
theorem tk_y {N : Int → Int} {z : ZS} (h : cobY z.1 = 8) : tkM N z = z := if_pos h
theorem tk_n {N : Int → Int} {z : ZS} (h : ¬ cobY z.1 = 8) : tkM N z = puM (takZ (lkM N z (zAt z.1)) (xnM z) z.1) z := if_neg h
theorem sub400 {a : Int32} (h0 : 0 ≤ a.toInt) (hx1 : a.toInt ≤ 1000) : (a - 400).toInt = a.toInt - 400 := by sorry
theorem sgT_lo : ∀ p ∈ sgT, 0 ≤ p.1 ∧ p.1 ≤ 1000 := by sorry
theorem OzZ.pus {σ τ : RS} {O : List OpZ} {k x t st : Int} {l : List Int} {s g u : Int32} (h : OzZ σ O) (e : Pu σ s g u τ) (e8 : aI τ 28 = upd (aI σ 28) (nT (gI σ 29)) 0) (hs : s.toInt = k) (hg : sgZ k x g.toInt) (ht : ¬ (k = 2 ∨ k = 6 ∨ k = 7) → u.toInt = t) (h4 : k = 4 → l = []) (hv : (k = 2 ∨ k = 6 ∨ k = 7) → (aI σ 30 (vnZ O)).toInt = t) (hl : lnZ k l) (hw : wfY (k :: osZ O)) : OzZ τ ((k, x, t, st, l) :: O) := by sorry
theorem ln_no {k : Int} {l : List Int} (h : ¬ k = 2 ∧ ¬ k = 5 ∧ ¬ k = 6 ∧ ¬ k = 7) : lnZ k l := by sorry
def Pv_namedZ (N th : Int → Int) (σ0 : RS) (z : ZS) (n n0 : Nat) (O : List OpZ) : UP1 := fun A1 σ => match A1 with
  | [.int begins] => XrR σ0 σ z.1 n ∧ OzZ σ O ∧ n + nbY (osZ O) = n0 ∧ n0 ≤ 21 ∧ bgR begins (osZ O) ∧ PcM th σ z ∧ (gI σ 31).toInt = vnZ O ∧ codY z.1 = 80 ∧ gI σ 34 = 0
  | _ => False
def Qv_namedZ (N th : Int → Int) (σ0 : RS) (z : ZS) (n n0 : Nat) (O : List OpZ) : UQ1 := fun A1 σ w τ => match A1 with
  | [.int begins] => OpM N th σ0 τ (wtM N begins.toInt O n z) n0 w
  | _ => False
def Qw_namedZ : UQ1 := fun A1 σ w τ => ∀ (N th : Int → Int) (σ0 : RS) (z : ZS) (n n0 : Nat) (O : List OpZ), Pv_namedZ N th σ0 z n n0 O A1 σ → Qv_namedZ N th σ0 z n n0 O A1 σ w τ
set_option maxRecDepth 100000 in
set_option maxHeartbeats 4000000 in
theorem v_namedZ (N th : Int → Int) (σ0 : RS) (z : ZS) (n n0 : Nat) (O : List OpZ) : UMet 30 (Pv_namedZ N th σ0 z n n0 O) (Qv_namedZ N th σ0 z n n0 O) := by sorry
theorem w_namedZ : UMet 30 (fun _ _ => True) Qw_namedZ := by sorry
def Pv_operandZ (N th : Int → Int) (σ0 : RS) (z : ZS) (n n0 : Nat) (O : List OpZ) : UP1 := fun A1 σ => match A1 with
  | [.int begins] => XrR σ0 σ z.1 n ∧ OzZ σ O ∧ n + nbY (osZ O) = n0 ∧ n0 ≤ 21 ∧ bgR begins (osZ O) ∧ PcM th σ z ∧ (gI σ 31).toInt = vnZ O ∧ ahZ O z.1 ∧ TlZ σ z.1
  | _ => False
def Qv_operandZ (N th : Int → Int) (σ0 : RS) (z : ZS) (n n0 : Nat) (O : List OpZ) : UQ1 := fun A1 σ w τ => match A1 with
  | [.int begins] => OpM N th σ0 τ (wtM N begins.toInt O n z) n0 w
  | _ => False
def Qw_operandZ : UQ1 := fun A1 σ w τ => ∀ (N th : Int → Int) (σ0 : RS) (z : ZS) (n n0 : Nat) (O : List OpZ), Pv_operandZ N th σ0 z n n0 O A1 σ → Qv_operandZ N th σ0 z n n0 O A1 σ w τ
theorem PcM.lit {th : Int → Int} {σ υ : RS} {z : ZS} {x : XrZ} {op a t f l v c : Int32} (h : PcM th σ z) (e : EmZ σ op a 0 t f l υ) (m : cmZ op.toInt a.toInt v.toInt t.toInt f.toInt l.toInt x) : PcM th (sA (sI υ 33 c) 21 (upd (aI υ 21) (gI σ 18).toNatClampNeg v)) (puM x z) := by sorry
theorem BhZ.lit {τ : RS} {s : SpC} {O : List OpZ} {c f l : Int32} {st : Int} {h : Nat → Int32} (hx31 : (gI τ 31).toInt = vnZ O) (h18 : c.toInt + 1 = (gI τ 18).toInt) (hl : l.toInt = zAt s - 1) (hw : gI τ 31 < 600) : BhZ (sI (sA (sI (sA (sI τ 33 c) 21 h) 32 l) 30 (upd (aI τ 30) (nT (gI τ 31)) f)) 31 (gI τ 31 + 1)) s O (f.toInt, st) := by sorry
theorem OzZ.lit {τ : RS} {O : List OpZ} {c l f v : Int32} {h : Nat → Int32} (q : OzZ τ O) (hx31 : (gI τ 31).toInt = vnZ O) : OzZ (sI (sA (sI (sA (sI τ 33 c) 21 h) 32 l) 30 (upd (aI τ 30) (nT (gI τ 31)) f)) 31 v) O := by sorry
theorem XrR.lit {σ0 τ : RS} {s : SpC} {n : Nat} {c l v : Int32} {g h : Nat → Int32} (q : XrR σ0 τ s n) : XrR σ0 (sI (sA (sI (sA (sI τ 33 c) 21 h) 32 l) 30 g) 31 v) s n := by sorry
theorem gt_1 {O : List OpZ} {o : OpZ} (h : o.1 = 0) (h2 : o.2.1 = 35) : gtZ (o :: O) = 1 := if_pos ⟨h, h2⟩
theorem gt_p {c t st : Int} {l : List Int} {O : List OpZ} : gtZ ((0, c, t, st, l) :: O) = ngZ c := by sorry
theorem gt_0 {O : List OpZ} {o : OpZ} (h : ¬ o.1 = 0 ∨ ¬ o.2.1 = 35) : gtZ (o :: O) = 0 := if_neg (fun q => h.elim (fun z => z q.1) (fun z => z q.2))
set_option maxRecDepth 100000 in
set_option maxHeartbeats 4000000 in
theorem v_operandZ (N th : Int → Int) (σ0 : RS) (z : ZS) (n n0 : Nat) (O : List OpZ) : UMet 29 (Pv_operandZ N th σ0 z n n0 O) (Qv_operandZ N th σ0 z n n0 O) := by sorry
theorem w_operandZ : UMet 29 (fun _ _ => True) Qw_operandZ := by sorry
def BhM (N th : Int → Int) (σ0 τ : RS) (Φ : ZS) (n0 : Nat) (w : Option Value) : Prop :=
  (w = some (.int 0) ∧ FlR τ Φ.1) ∨ (w = some (.int 1) ∧ ∃ (z : ZS) (n : Nat) (O : List OpZ), XrR σ0 τ z.1 n ∧ OzZ τ O ∧ n + nbY (osZ O) = n0 ∧ PcM th τ z ∧
    ((gI τ 34 = 1 ∧ (gI τ 31).toInt = vnZ O ∧ ((gI τ 35 = 0 ∧ ahZ O z.1 ∧ wtM N 0 O n z = Φ) ∨ (gI τ 35 = 1 ∧ bgT (osZ O) ∧ wtM N 1 O n z = Φ))) ∨ (gI τ 34 = 0 ∧ O = [] ∧ z = Φ ∧ (gI τ 33).toInt + 1 = (gI τ 18).toInt)))
theorem i32_ad {x : Int32} (h : x.toInt < 2147483647) : (x + 1).toInt = x.toInt + 1 := by sorry
theorem OzZ.arg {τ : RS} {x t st v : Int} {l : List Int} {O : List OpZ} (h : OzZ τ ((4, x, t, st, l) :: O)) (hl : (l.length : Int) < 2147483647) : OzZ (sA τ 28 (upd (aI τ 28) (gI τ 29 - 1).toNatClampNeg (aI τ 28 (gI τ 29 - 1).toNatClampNeg + 1))) ((4, x, t, st, l ++ [v]) :: O) := by sorry
theorem fk_n {z : ZS} (h : ¬ codY z.1 = 20 ∧ ¬ codY z.1 = 21) : fkM z = z := if_neg (fun q => q.elim h.1 h.2)
theorem fk_y {z : ZS} (h : codY z.1 = 20 ∨ codY z.1 = 21) : fkM z = puM (frkZ (xnM z) z.1) z := if_pos h
theorem wf_2z {O : List OpZ} {o : OpZ} (h : o.1 = 2) (h0 : ¬ tpZ O = 0) (hx1 : ¬ tpZ O = 1) (hw : wfY (osZ O)) : wfY (osZ (o :: O)) := by sorry
theorem gt_k {O : List OpZ} {k x t st : Int} {l : List Int} (h : ¬ k = 0) : gtZ ((k, x, t, st, l) :: O) = 0 := gt_0 (Or.inl h)
theorem ah_k {O : List OpZ} {k x t st : Int} {l : List Int} {s : SpC} (h : ¬ k = 0) : ahZ ((k, x, t, st, l) :: O) s := fun q => absurd q h
theorem rd_wt {p : Int32} {c : Int} {O : List OpZ} (h : rdZ p O) (e : p.toInt = strZ c) : wtkZ c O := by sorry
theorem tp_oz {O : List OpZ} : tpZ O = tpY (osZ O) := rfl
def Pv_behindZ (N th : Int → Int) (σ0 : RS) (z : ZS) (n n0 : Nat) (O : List OpZ) (r : Int × Int) : UP1 := fun A1 σ => match A1 with
  | [] => XrR σ0 σ z.1 n ∧ OzZ σ O ∧ n + nbY (osZ O) = n0 ∧ n0 ≤ 21 ∧ BhZ σ z.1 O r ∧ PcM th σ z
  | _ => False
def Qv_behindZ (N th : Int → Int) (σ0 : RS) (z : ZS) (n n0 : Nat) (O : List OpZ) (r : Int × Int) : UQ1 := fun A1 σ w τ => match A1 with
  | [] => BhM N th σ0 τ (foM N O [] n r z) n0 w
  | _ => False
def Qw_behindZ : UQ1 := fun A1 σ w τ => ∀ (N th : Int → Int) (σ0 : RS) (z : ZS) (n n0 : Nat) (O : List OpZ) (r : Int × Int), Pv_behindZ N th σ0 z n n0 O r A1 σ → Qv_behindZ N th σ0 z n n0 O r A1 σ w τ
set_option maxRecDepth 100000 in
set_option maxHeartbeats 4000000 in
theorem v_behindZ (N th : Int → Int) (σ0 : RS) (z : ZS) (n n0 : Nat) (O : List OpZ) (r : Int × Int) : UMet 34 (Pv_behindZ N th σ0 z n n0 O r) (Qv_behindZ N th σ0 z n n0 O r) := by sorry
theorem w_behindZ : UMet 34 (fun _ _ => True) Qw_behindZ := by sorry
def Pv_expressionZ (N th : Int → Int) (σ0 : RS) (z : ZS) (n : Nat) : UP1 := fun A1 σ => match A1 with
  | [] => XrR σ0 σ z.1 n ∧ n ≤ 21 ∧ PcM th σ z ∧ TlZ σ z.1
  | _ => False
def Qv_expressionZ (N th : Int → Int) (σ0 : RS) (z : ZS) (n : Nat) : UQ1 := fun A1 σ w τ => match A1 with
  | [] => (w = some (.int 0) ∧ FlR τ (eM N n z).1) ∨ (w = some (.int 1) ∧ XrR σ0 τ (eM N n z).1 n ∧ PcM th τ (eM N n z) ∧ (gI τ 33).toInt + 1 = (gI τ 18).toInt)
  | _ => False
def Qw_expressionZ : UQ1 := fun A1 σ w τ => ∀ (N th : Int → Int) (σ0 : RS) (z : ZS) (n : Nat), Pv_expressionZ N th σ0 z n A1 σ → Qv_expressionZ N th σ0 z n A1 σ w τ
theorem TlZ.fr {σ τ σ0 : RS} {s s' : SpC} (h : TlZ σ s) (k : KR σ0 σ) (q : KR σ0 τ) (e : s'.2 = s.2) : TlZ τ s' := by sorry
theorem ah_t {O : List OpZ} {s : SpC} (h : bgT (osZ O)) : ahZ O s := by sorry
set_option maxRecDepth 100000 in
set_option maxHeartbeats 4000000 in
theorem v_expressionZ (N th : Int → Int) (σ0 : RS) (z : ZS) (n : Nat) : UMet 27 (Pv_expressionZ N th σ0 z n) (Qv_expressionZ N th σ0 z n) := by sorry
theorem w_expressionZ : UMet 27 (fun _ _ => True) Qw_expressionZ := by sorry
def mmP : List Nat := [12, 13, 14, 15, 16, 17, 18, 19, 20, 21, 22, 23, 24, 25, 26, 27, 28, 29, 30, 31, 32, 33, 34, 35, 36, 37, 38, 39, 40, 41, 42, 43, 44, 45, 46, 47, 48, 49, 50, 51, 52, 53, 54, 55, 56, 57, 58, 59, 60, 61, 62, 63, 64, 65, 66, 67, 68, 69]
theorem ck_P : ckL mmP evT = true := by sorry
def LfZ (σ : RS) (k t v : Int32) (f : Nat → Int32) : Prop := 0 ≤ v ∧ ∀ i, (i < nT v → f i = if aI σ 47 i = k ∧ aI σ 48 i < 0 then t else aI σ 48 i) ∧ (nT v ≤ i → f i = aI σ 48 i)
theorem LfZ.n {σ : RS} {k t v : Int32} {f : Nat → Int32} (h : LfZ σ k t v f) (hv : v < 2147483647) (hn : ¬ (aI σ 47 (nT v) = k ∧ f (nT v) < 0)) : LfZ σ k t (v + 1) f := by sorry
theorem LfZ.y {σ : RS} {k t v : Int32} {f : Nat → Int32} (h : LfZ σ k t v f) (hv : v < 2147483647) (h1 : aI σ 47 (nT v) = k) (h2 : f (nT v) < 0) : LfZ σ k t (v + 1) (upd f (nT v) t) := by sorry
theorem sc_num {t s : Int32} (h0 : 0 ≤ t.toInt) (h1 : t.toInt ≤ 600) (s0 : 9 ≤ s.toInt) (s1 : s.toInt ≤ 11) : (1000 + 3 * t + s - 9).toInt = 1000 + 3 * t.toInt + (s.toInt - 9) := by sorry
theorem nu_9 {a : FrZ} (h : 9 ≤ a.1 ∧ a.1 ≤ 11) : nuF a = 1000 + 3 * (a.2.2.1.2 : Int) + (a.1 - 9) := by sorry
theorem nu_8 {a : FrZ} (h : ¬ 9 ≤ a.1) : nuF a = (a.2.2.1.2 : Int) := by sorry
theorem top_r {T : Int32} {x : Int} (h : T.toInt = x) (hr : rwkY x) : T = 0 ∨ T = 1 ∨ T = 8 ∨ 9 ≤ T := by sorry
def Pv_thingZ : UP1 := fun A1 σ => match A1 with
  | [.int sort, .int token] => True
  | _ => False
def Qv_thingZ : UQ1 := fun A1 σ w τ => match A1 with
  | [.int sort, .int token] => w = some (.int (gI σ 49)) ∧ ThZ σ token τ
  | _ => False
def Qw_thingZ : UQ1 := fun A1 σ w τ => Pv_thingZ A1 σ → Qv_thingZ A1 σ w τ
set_option maxRecDepth 100000 in
set_option maxHeartbeats 4000000 in
theorem v_thingZ : UMet 35 (Pv_thingZ) (Qv_thingZ) := by sorry
theorem w_thingZ : UMet 35 (fun _ _ => True) Qw_thingZ := fun A1 σ _ w τ h hP => v_thingZ A1 σ hP w τ h
def Pv_leaveZ : UP1 := fun A1 σ => match A1 with
  | [.int k, .int token] => True
  | _ => False
def Qv_leaveZ : UQ1 := fun A1 σ w τ => match A1 with
  | [.int k, .int token] => w = none ∧ LvZ σ k token τ
  | _ => False
def Qw_leaveZ : UQ1 := fun A1 σ w τ => Pv_leaveZ A1 σ → Qv_leaveZ A1 σ w τ
set_option maxRecDepth 100000 in
set_option maxHeartbeats 4000000 in
theorem v_leaveZ : UMet 42 (Pv_leaveZ) (Qv_leaveZ) := by sorry
theorem w_leaveZ : UMet 42 (fun _ _ => True) Qw_leaveZ := fun A1 σ _ w τ h hP => v_leaveZ A1 σ hP w τ h
def Pv_scopeZ (z : ZS) (a : FrZ) (F K_ : List FrZ) : UP1 := fun A1 σ => match A1 with
  | [] => ZRx σ z (a :: F) K_ ∧ 0 < gI σ 62 ∧ rwkY a.1 ∧ a.2.2.1.2 ≤ 600
  | _ => False
def Qv_scopeZ (z : ZS) (a : FrZ) (F K_ : List FrZ) : UQ1 := fun A1 σ w τ => match A1 with
  | [] => σ = τ ∧ ∃ r : Int32, w = some (.int r) ∧ r.toInt = nuF a
  | _ => False
def Qw_scopeZ : UQ1 := fun A1 σ w τ => ∀ (z : ZS) (a : FrZ) (F K_ : List FrZ), Pv_scopeZ z a F K_ A1 σ → Qv_scopeZ z a F K_ A1 σ w τ
set_option maxRecDepth 100000 in
set_option maxHeartbeats 4000000 in
theorem v_scopeZ (z : ZS) (a : FrZ) (F K_ : List FrZ) : UMet 41 (Pv_scopeZ z a F K_) (Qv_scopeZ z a F K_) := by sorry
theorem w_scopeZ : UMet 41 (fun _ _ => True) Qw_scopeZ := by sorry
def Pv_sameNameZ : UP1 := fun A1 σ => match A1 with
  | [.int t, .int u] => True
  | _ => False
def Qv_sameNameZ : UQ1 := fun A1 σ w τ => match A1 with
  | [.int t, .int u] => σ = τ ∧ ((w = some (.int 1) ∧ aL σ 7 t.toNatClampNeg = aL σ 7 u.toNatClampNeg ∧ aI σ 8 t.toNatClampNeg = aI σ 8 u.toNatClampNeg ∧ aI σ 5 t.toNatClampNeg = aI σ 5 u.toNatClampNeg) ∨ (w = some (.int 0) ∧ ¬ (aL σ 7 t.toNatClampNeg = aL σ 7 u.toNatClampNeg ∧ aI σ 8 t.toNatClampNeg = aI σ 8 u.toNatClampNeg ∧ aI σ 5 t.toNatClampNeg = aI σ 5 u.toNatClampNeg)))
  | _ => False
def Qw_sameNameZ : UQ1 := fun A1 σ w τ => Pv_sameNameZ A1 σ → Qv_sameNameZ A1 σ w τ
set_option maxRecDepth 100000 in
set_option maxHeartbeats 4000000 in
theorem v_sameNameZ : UMet 63 (Pv_sameNameZ) (Qv_sameNameZ) := by sorry
theorem w_sameNameZ : UMet 63 (fun _ _ => True) Qw_sameNameZ := fun A1 σ _ w τ h hP => v_sameNameZ A1 σ hP w τ h
def Pv_named_Z (N : Int → Int) (z : ZS) (F K_ : List FrZ) : UP1 := fun A1 σ => match A1 with
  | [.int t, .int on] => ZRx σ z F K_ ∧ NmZ N σ ∧ LbZ σ z F ∧ (0 ≤ t.toInt ∧ nT t < nT (gI σ 2) ∧ nT t ≤ 500 ∧ aI σ 3 (nT t) = 1) ∧ (on = 0 ∨ on = 1) ∧ 0 ≤ gI σ 62
  | _ => False
def Qv_named_Z (N : Int → Int) (z : ZS) (F K_ : List FrZ) : UQ1 := fun A1 σ w τ => match A1 with
  | [.int t, .int on] => σ = τ ∧ ∃ r : Int32, w = some (.int r) ∧ r.toInt = tgF N z (decide (on = 1)) t.toInt (-1, -1) F
  | _ => False
def Qw_named_Z : UQ1 := fun A1 σ w τ => ∀ (N : Int → Int) (z : ZS) (F K_ : List FrZ), Pv_named_Z N z F K_ A1 σ → Qv_named_Z N z F K_ A1 σ w τ
theorem fx_at {σ : RS} {z : ZS} {a : FrZ} {F : List FrZ} {f : Int32} (h : FxR σ z (a :: F)) (hf : f.toInt = (F.length : Int)) : (aI σ 63 f.toNatClampNeg).toInt = a.1 ∧ (aI σ 64 f.toNatClampNeg).toInt = (a.2.2.1.2 : Int) ∧ (¬ a.1 = 0 → (aI σ 60 a.2.2.1.2).toInt = fiS z a.2.1) := by sorry
theorem i32_eqn {x : Int32} {n : Nat} (h : x.toInt = (n : Int)) : x.toNatClampNeg = n := nT_i h
theorem i32_pr {f : Int32} {n : Nat} (h : f.toInt = ((n + 1 : Nat) : Int)) : (f + -1).toInt = (n : Int) := by sorry
theorem i32_p0 {f : Int32} (h : f.toInt = 0) : (f + -1).toInt = -1 := by sorry
/-- the frame above -/
def UpZ (σ : RS) (u : Int × Int) (G : List FrZ) : Prop := ((G.length : Int) < (gI σ 62).toInt → u = ((aI σ 63 G.length).toInt, (aI σ 64 G.length).toInt)) ∧ (¬ (G.length : Int) < (gI σ 62).toInt → u = (-1, -1))
theorem FxR.up {σ : RS} {z : ZS} {a : FrZ} {G : List FrZ} (h : FxR σ z (a :: G)) (hl : (G.length : Int) < (gI σ 62).toInt) : UpZ σ (a.1, (a.2.2.1.2 : Int)) G := ⟨fun _ => by rw [h.1.1, h.1.2], fun q => absurd hl q⟩
theorem tg_l0 {N : Int → Int} {z : ZS} {on : Bool} {t : Int} {u : Int × Int} {a : FrZ} {F : List FrZ} (ht : 0 ≤ t) (h : ¬ (a.1 = 7 ∧ N (fiS z a.2.1) = N t)) : tgF N z on t u (a :: F) = tgF N z on t (a.1, (a.2.2.1.2 : Int)) F := by sorry
theorem tg_l1 {N : Int → Int} {z : ZS} {t : Int} {u : Int × Int} {a : FrZ} {F : List FrZ} (ht : 0 ≤ t) (h : a.1 = 7 ∧ N (fiS z a.2.1) = N t) : tgF N z false t u (a :: F) = (a.2.2.1.2 : Int) := by sorry
theorem tg_l2 {N : Int → Int} {z : ZS} {t : Int} {u : Int × Int} {a : FrZ} {F : List FrZ} (ht : 0 ≤ t) (h : a.1 = 7 ∧ N (fiS z a.2.1) = N t) : tgF N z true t u (a :: F) = if u.1 = 4 ∨ u.1 = 5 ∨ u.1 = 6 then u.2 else -2 := by sorry
set_option maxRecDepth 100000 in
set_option maxHeartbeats 4000000 in
theorem v_named_Z (N : Int → Int) (z : ZS) (F K_ : List FrZ) : UMet 64 (Pv_named_Z N z F K_) (Qv_named_Z N z F K_) := by sorry
theorem w_named_Z : UMet 64 (fun _ _ => True) Qw_named_Z := by sorry
def Pv_openZ (s : SpC) (n : Nat) : UP1 := fun A1 σ => match A1 with
  | [.int sort, .int k, .int step] => SR σ s n ∧ FgR σ 0 ∧ nT k < nT (gI σ 49) ∧ (0 ≤ sort.toInt ∧ sort.toInt ≤ 11) ∧ (sort.toInt = 0 ↔ frR σ = []) ∧ 0 < gI σ 36 ∧ (sort = 8 → nT (aI σ 51 (nT k)) ≤ nT (gI σ 18) ∧ ¬ gR σ k)
  | _ => False
def Qv_openZ (s : SpC) (n : Nat) : UQ1 := fun A1 σ w τ => match A1 with
  | [.int sort, .int k, .int step] => (w = some (.int 0) ∧ n = 1 ∧ FlR τ (raiY 3 s)) ∨ (w = some (.int 1) ∧ 2 ≤ n ∧ SR τ s (n - 1) ∧ FgR τ 1 ∧ frR τ = sort.toInt :: frR σ ∧ OfZ σ sort k step τ)
  | _ => False
def Qw_openZ : UQ1 := fun A1 σ w τ => ∀ (s : SpC) (n : Nat), Pv_openZ s n A1 σ → Qv_openZ s n A1 σ w τ
set_option maxRecDepth 100000 in
set_option maxHeartbeats 4000000 in
theorem v_openZ (s : SpC) (n : Nat) : UMet 36 (Pv_openZ s n) (Qv_openZ s n) := by sorry
theorem w_openZ : UMet 36 (fun _ _ => True) Qw_openZ := fun A1 σ _ w τ h s n hP => v_openZ s n A1 σ hP w τ h
def Pv_variableZ (s : SpC) (n : Nat) : UP1 := fun A1 σ => match A1 with
  | [.int type, .int fixed, .int k] => ShR σ s ∧ ((gI σ 17).toInt + n = 21 ∧ 1 ≤ n) ∧ codY s = 80 ∧ VvR σ s
  | _ => False
def Qv_variableZ (s : SpC) (n : Nat) : UQ1 := fun A1 σ w τ => match A1 with
  | [.int type, .int fixed, .int k] => (w = some (.int 0) ∧ FlR τ (dclY type.toInt fixed.toInt 1 s)) ∨ (w = some (.int 1) ∧ ShR τ (accY s) ∧ zAt s < 500 ∧ ¬ 60 ≤ (zVs s).length ∧ VaR σ τ type fixed ∧ aI τ 47 = upd (aI σ 47) (nT (gI σ 42)) k ∧ aI τ 48 = upd (aI σ 48) (nT (gI σ 42)) (-2))
  | _ => False
def Qw_variableZ : UQ1 := fun A1 σ w τ => ∀ (s : SpC) (n : Nat), Pv_variableZ s n A1 σ → Qv_variableZ s n A1 σ w τ
set_option maxRecDepth 100000 in
set_option maxHeartbeats 4000000 in
theorem v_variableZ (s : SpC) (n : Nat) : UMet 40 (Pv_variableZ s n) (Qv_variableZ s n) := by sorry
theorem w_variableZ : UMet 40 (fun _ _ => True) Qw_variableZ := fun A1 σ _ w τ h s n hP => v_variableZ s n A1 σ hP w τ h
def Pv_popZ (z : ZS) : UP1 := fun A1 σ => match A1 with
  | [] => PcM id σ z ∧ HdZ z.2.1 ∧ (gI σ 33).toInt + 1 = (gI σ 18).toInt
  | _ => False
def Qv_popZ (z : ZS) : UQ1 := fun A1 σ w τ => match A1 with
  | [] => w = none ∧ ∃ a t : Int32, EmZ σ 21 a 0 t t t τ ∧ a.toInt = acZ (rtM z) ∧ t.toInt = (rtM z).1.2.2.1
  | _ => False
def Qw_popZ : UQ1 := fun A1 σ w τ => ∀ (z : ZS), Pv_popZ z A1 σ → Qv_popZ z A1 σ w τ
theorem op_17 {x : XrZ} (h : x.1.1 ≤ 10) : (opkZ x = 17 ∨ opkZ x = 18 ∨ opkZ x = 4 ∨ opkZ x = 3) ↔ (x.1.1 = 9 ∨ x.1.1 = 6 ∨ x.1.1 = 10) := by sorry
set_option maxRecDepth 100000 in
set_option maxHeartbeats 4000000 in
theorem v_popZ (z : ZS) : UMet 51 (Pv_popZ z) (Qv_popZ z) := by sorry
theorem w_popZ : UMet 51 (fun _ _ => True) Qw_popZ := fun A1 σ _ w τ h z hP => v_popZ z A1 σ hP w τ h
def Pv_conditionZ (N : Int → Int) (σ0 : RS) (z : ZS) (n : Nat) : UP1 := fun A1 σ => match A1 with
  | [] => XrR σ0 σ z.1 n ∧ n ≤ 21 ∧ PcM id σ z ∧ TlZ σ z.1
  | _ => False
def Qv_conditionZ (N : Int → Int) (σ0 : RS) (z : ZS) (n : Nat) : UQ1 := fun A1 σ w τ => match A1 with
  | [] => (w = some (.int 0) ∧ FlR τ (cndY n z.1)) ∨ (w = some (.int 1) ∧ XrR σ0 τ (cndY n z.1) n ∧ PcM id τ (cdM N 0 n z) ∧ (gI τ 33).toInt + 1 = (gI τ 18).toInt)
  | _ => False
def Qw_conditionZ : UQ1 := fun A1 σ w τ => ∀ (N : Int → Int) (σ0 : RS) (z : ZS) (n : Nat), Pv_conditionZ N σ0 z n A1 σ → Qv_conditionZ N σ0 z n A1 σ w τ
set_option maxRecDepth 100000 in
set_option maxHeartbeats 4000000 in
theorem v_conditionZ (N : Int → Int) (σ0 : RS) (z : ZS) (n : Nat) : UMet 52 (Pv_conditionZ N σ0 z n) (Qv_conditionZ N σ0 z n) := by sorry
theorem w_conditionZ : UMet 52 (fun _ _ => True) Qw_conditionZ := by sorry
theorem p2_cd {n : Nat} : P2Y (cndY n) := fun s => by
  unfold cndY
  rw [p2_xp, p2_e, p2_xp]
def Pv_ifOfZ (N : Int → Int) (z : ZS) (n : Nat) (F : List FrZ) : UP1 := fun A1 σ => match A1 with
  | [] => SR σ z.1 n ∧ FgR σ 0 ∧ frR σ ≠ [] ∧ BZ N σ z F F ∧ KtR σ z ∧ WfF F ∧ LuZ z F ∧ 1 ≤ zAt z.1 ∧ codY z.1 = 56
  | _ => False
def Qv_ifOfZ (N : Int → Int) (z : ZS) (n : Nat) (F : List FrZ) : UQ1 := fun A1 σ w τ => match A1 with
  | [] => StZ N τ (sfM N F n (stM N n z)) w
  | _ => False
def Qw_ifOfZ : UQ1 := fun A1 σ w τ => ∀ (N : Int → Int) (z : ZS) (n : Nat) (F : List FrZ), Pv_ifOfZ N z n F A1 σ → Qv_ifOfZ N z n F A1 σ w τ
set_option maxRecDepth 100000 in
set_option maxHeartbeats 4000000 in
theorem v_ifOfZ (N : Int → Int) (z : ZS) (n : Nat) (F : List FrZ) : UMet 53 (Pv_ifOfZ N z n F) (Qv_ifOfZ N z n F) := by sorry
theorem w_ifOfZ : UMet 53 (fun _ _ => True) Qw_ifOfZ := by sorry
def Pv_whileOfZ (N : Int → Int) (z : ZS) (n : Nat) (F : List FrZ) : UP1 := fun A1 σ => match A1 with
  | [] => SR σ z.1 n ∧ FgR σ 0 ∧ frR σ ≠ [] ∧ BZ N σ z F F ∧ KtR σ z ∧ WfF F ∧ LuZ z F ∧ 1 ≤ zAt z.1 ∧ codY z.1 = 58
  | _ => False
def Qv_whileOfZ (N : Int → Int) (z : ZS) (n : Nat) (F : List FrZ) : UQ1 := fun A1 σ w τ => match A1 with
  | [] => StZ N τ (sfM N F n (stM N n z)) w
  | _ => False
def Qw_whileOfZ : UQ1 := fun A1 σ w τ => ∀ (N : Int → Int) (z : ZS) (n : Nat) (F : List FrZ), Pv_whileOfZ N z n F A1 σ → Qv_whileOfZ N z n F A1 σ w τ
set_option maxRecDepth 100000 in
set_option maxHeartbeats 4000000 in
theorem v_whileOfZ (N : Int → Int) (z : ZS) (n : Nat) (F : List FrZ) : UMet 54 (Pv_whileOfZ N z n F) (Qv_whileOfZ N z n F) := by sorry
theorem w_whileOfZ : UMet 54 (fun _ _ => True) Qw_whileOfZ := by sorry
def Pv_doOfZ (N : Int → Int) (z : ZS) (n : Nat) (F : List FrZ) : UP1 := fun A1 σ => match A1 with
  | [] => SR σ z.1 n ∧ FgR σ 0 ∧ frR σ ≠ [] ∧ BZ N σ z F F ∧ KtR σ z ∧ WfF F ∧ LuZ z F ∧ 1 ≤ zAt z.1 ∧ codY z.1 = 59
  | _ => False
def Qv_doOfZ (N : Int → Int) (z : ZS) (n : Nat) (F : List FrZ) : UQ1 := fun A1 σ w τ => match A1 with
  | [] => StZ N τ (sfM N F n (stM N n z)) w
  | _ => False
def Qw_doOfZ : UQ1 := fun A1 σ w τ => ∀ (N : Int → Int) (z : ZS) (n : Nat) (F : List FrZ), Pv_doOfZ N z n F A1 σ → Qv_doOfZ N z n F A1 σ w τ
set_option maxRecDepth 100000 in
set_option maxHeartbeats 4000000 in
theorem v_doOfZ (N : Int → Int) (z : ZS) (n : Nat) (F : List FrZ) : UMet 55 (Pv_doOfZ N z n F) (Qv_doOfZ N z n F) := by sorry
theorem w_doOfZ : UMet 55 (fun _ _ => True) Qw_doOfZ := by sorry
theorem fi_ot {z : ZS} {j i : Nat} {v : Int} : fiS (unM i (seM i (sOt v) z)) j = fiS z j := by sorry
def Pv_finishedZ (N : Int → Int) (z : ZS) (n : Nat) (F : List FrZ) : UP1 := fun A1 σ => match A1 with
  | [] => SR σ z.1 n ∧ FgR σ 0 ∧ BZ N σ z F F ∧ KtR σ z ∧ WfF F ∧ 1 ≤ zAt z.1
  | _ => False
def Qv_finishedZ (N : Int → Int) (z : ZS) (n : Nat) (F : List FrZ) : UQ1 := fun A1 σ w τ => match A1 with
  | [] => StZ N τ (sfM N F n z) w
  | _ => False
def Qw_finishedZ : UQ1 := fun A1 σ w τ => ∀ (N : Int → Int) (z : ZS) (n : Nat) (F : List FrZ), Pv_finishedZ N z n F A1 σ → Qv_finishedZ N z n F A1 σ w τ
set_option maxRecDepth 100000 in
set_option maxHeartbeats 4000000 in
theorem v_finishedZ (N : Int → Int) (z : ZS) (n : Nat) (F : List FrZ) : UMet 69 (Pv_finishedZ N z n F) (Qv_finishedZ N z n F) := by sorry
theorem w_finishedZ : UMet 69 (fun _ _ => True) Qw_finishedZ := by sorry
theorem BZ.f2 {N : Int → Int} {σ : RS} {z : ZS} {F K : List FrZ} (h : BZ N σ z F K) : BZ N σ (xpM 2 z) F K := h.z WeR.rf rfl (fun _ _ _ => rfl) rfl kK_xp
def Pv_closedZ (N : Int → Int) (z : ZS) (n : Nat) (F : List FrZ) (a : FrZ) : UP1 := fun A1 σ => match A1 with
  | [.int step] => SR σ z.1 n ∧ 0 < gI σ 62 ∧ BZ N σ z (a :: F) (a :: F) ∧ KtR σ z ∧ KnZ (fun v => (aI σ 47 v).toInt) F z.2.2.2.1.1 ∧ (a.1 = 1 ∨ a.1 = 8) ∧ WfF F ∧ 1 ≤ zAt z.1 ∧ step.toInt = (a.2.2.1.1 : Int)
  | _ => False
def Qv_closedZ (N : Int → Int) (z : ZS) (n : Nat) (F : List FrZ) (a : FrZ) : UQ1 := fun A1 σ w τ => match A1 with
  | [.int step] => StZ N τ (sfM N F (n + 1) (unM a.2.1 (enM a.2.1 a.2.2.1.1 z))) w
  | _ => False
def Qw_closedZ : UQ1 := fun A1 σ w τ => ∀ (N : Int → Int) (z : ZS) (n : Nat) (F : List FrZ) (a : FrZ), Pv_closedZ N z n F a A1 σ → Qv_closedZ N z n F a A1 σ w τ
set_option maxRecDepth 100000 in
set_option maxHeartbeats 4000000 in
theorem v_closedZ (N : Int → Int) (z : ZS) (n : Nat) (F : List FrZ) (a : FrZ) : UMet 61 (Pv_closedZ N z n F a) (Qv_closedZ N z n F a) := by sorry
theorem w_closedZ : UMet 61 (fun _ _ => True) Qw_closedZ := by sorry
def Pv_plainZ (N : Int → Int) (z : ZS) (n : Nat) (F : List FrZ) : UP1 := fun A1 σ => match A1 with
  | [] => SR σ z.1 n ∧ FgR σ 0 ∧ frR σ ≠ [] ∧ BZ N σ z F F ∧ KtR σ z ∧ WfF F ∧ LuZ z F ∧ 1 ≤ zAt z.1 ∧ (¬ codY z.1 = 56 ∧ ¬ codY z.1 = 58 ∧ ¬ codY z.1 = 59 ∧ ¬ codY z.1 = 60 ∧ ¬ codY z.1 = 61 ∧ ¬ codY z.1 = 68 ∧ ¬ codY z.1 = 2 ∧ ¬ codY z.1 = 64 ∧ ¬ codY z.1 = 65 ∧ ¬ codY z.1 = 66 ∧ ¬ codY z.1 = 67 ∧ ¬ (codY z.1 = 80 ∧ cobY z.1 = 6))
  | _ => False
def Qv_plainZ (N : Int → Int) (z : ZS) (n : Nat) (F : List FrZ) : UQ1 := fun A1 σ w τ => match A1 with
  | [] => StZ N τ (sfM N F n (stM N n z)) w
  | _ => False
def Qw_plainZ : UQ1 := fun A1 σ w τ => ∀ (N : Int → Int) (z : ZS) (n : Nat) (F : List FrZ), Pv_plainZ N z n F A1 σ → Qv_plainZ N z n F A1 σ w τ
set_option maxRecDepth 100000 in
set_option maxHeartbeats 4000000 in
theorem v_plainZ (N : Int → Int) (z : ZS) (n : Nat) (F : List FrZ) : UMet 50 (Pv_plainZ N z n F) (Qv_plainZ N z n F) := by sorry
theorem w_plainZ : UMet 50 (fun _ _ => True) Qw_plainZ := by sorry
def Pv_switchOfZ (N : Int → Int) (z : ZS) (n : Nat) (F : List FrZ) : UP1 := fun A1 σ => match A1 with
  | [] => SR σ z.1 n ∧ FgR σ 0 ∧ frR σ ≠ [] ∧ BZ N σ z F F ∧ KtR σ z ∧ WfF F ∧ LuZ z F ∧ 1 ≤ zAt z.1 ∧ codY z.1 = 61
  | _ => False
def Qv_switchOfZ (N : Int → Int) (z : ZS) (n : Nat) (F : List FrZ) : UQ1 := fun A1 σ w τ => match A1 with
  | [] => StZ N τ (sfM N F n (stM N n z)) w
  | _ => False
def Qw_switchOfZ : UQ1 := fun A1 σ w τ => ∀ (N : Int → Int) (z : ZS) (n : Nat) (F : List FrZ), Pv_switchOfZ N z n F A1 σ → Qv_switchOfZ N z n F A1 σ w τ
set_option maxRecDepth 100000 in
set_option maxHeartbeats 4000000 in
theorem v_switchOfZ (N : Int → Int) (z : ZS) (n : Nat) (F : List FrZ) : UMet 58 (Pv_switchOfZ N z n F) (Qv_switchOfZ N z n F) := by sorry
theorem w_switchOfZ : UMet 58 (fun _ _ => True) Qw_switchOfZ := by sorry
def Pv_tryOfZ (N : Int → Int) (z : ZS) (n : Nat) (F : List FrZ) : UP1 := fun A1 σ => match A1 with
  | [] => SR σ z.1 n ∧ FgR σ 0 ∧ frR σ ≠ [] ∧ BZ N σ z F F ∧ KtR σ z ∧ WfF F ∧ LuZ z F ∧ 1 ≤ zAt z.1 ∧ codY z.1 = 68
  | _ => False
def Qv_tryOfZ (N : Int → Int) (z : ZS) (n : Nat) (F : List FrZ) : UQ1 := fun A1 σ w τ => match A1 with
  | [] => StZ N τ (sfM N F n (stM N n z)) w
  | _ => False
def Qw_tryOfZ : UQ1 := fun A1 σ w τ => ∀ (N : Int → Int) (z : ZS) (n : Nat) (F : List FrZ), Pv_tryOfZ N z n F A1 σ → Qv_tryOfZ N z n F A1 σ w τ
set_option maxRecDepth 100000 in
set_option maxHeartbeats 4000000 in
theorem v_tryOfZ (N : Int → Int) (z : ZS) (n : Nat) (F : List FrZ) : UMet 66 (Pv_tryOfZ N z n F) (Qv_tryOfZ N z n F) := by sorry
theorem w_tryOfZ : UMet 66 (fun _ _ => True) Qw_tryOfZ := by sorry
def Pv_givesZ (N : Int → Int) (z : ZS) (n : Nat) (F : List FrZ) : UP1 := fun A1 σ => match A1 with
  | [] => SR σ z.1 n ∧ FgR σ 0 ∧ frR σ ≠ [] ∧ BZ N σ z F F ∧ KtR σ z ∧ WfF F ∧ LuZ z F ∧ 1 ≤ zAt z.1 ∧ (codY z.1 = 66 ∨ codY z.1 = 67)
  | _ => False
def Qv_givesZ (N : Int → Int) (z : ZS) (n : Nat) (F : List FrZ) : UQ1 := fun A1 σ w τ => match A1 with
  | [] => StZ N τ (sfM N F n (stM N n z)) w
  | _ => False
def Qw_givesZ : UQ1 := fun A1 σ w τ => ∀ (N : Int → Int) (z : ZS) (n : Nat) (F : List FrZ), Pv_givesZ N z n F A1 σ → Qv_givesZ N z n F A1 σ w τ
set_option maxRecDepth 100000 in
set_option maxHeartbeats 4000000 in
theorem v_givesZ (N : Int → Int) (z : ZS) (n : Nat) (F : List FrZ) : UMet 65 (Pv_givesZ N z n F) (Qv_givesZ N z n F) := by sorry
theorem w_givesZ : UMet 65 (fun _ _ => True) Qw_givesZ := by sorry
def Pv_jumpZ (N : Int → Int) (z : ZS) (n : Nat) (F : List FrZ) : UP1 := fun A1 σ => match A1 with
  | [] => SR σ z.1 n ∧ FgR σ 0 ∧ frR σ ≠ [] ∧ BZ N σ z F F ∧ KtR σ z ∧ WfF F ∧ LuZ z F ∧ 1 ≤ zAt z.1 ∧ (codY z.1 = 64 ∨ codY z.1 = 65)
  | _ => False
def Qv_jumpZ (N : Int → Int) (z : ZS) (n : Nat) (F : List FrZ) : UQ1 := fun A1 σ w τ => match A1 with
  | [] => StZ N τ (sfM N F n (stM N n z)) w
  | _ => False
def Qw_jumpZ : UQ1 := fun A1 σ w τ => ∀ (N : Int → Int) (z : ZS) (n : Nat) (F : List FrZ), Pv_jumpZ N z n F A1 σ → Qv_jumpZ N z n F A1 σ w τ
set_option maxRecDepth 100000 in
set_option maxHeartbeats 4000000 in
theorem v_jumpZ (N : Int → Int) (z : ZS) (n : Nat) (F : List FrZ) : UMet 62 (Pv_jumpZ N z n F) (Qv_jumpZ N z n F) := by sorry
theorem w_jumpZ : UMet 62 (fun _ _ => True) Qw_jumpZ := by sorry
theorem gp_varZ {n : Nat} {s : SpC} : GpY s (varY n s) := pg_var.1
theorem gp_casZ {n : Nat} {s : SpC} : GpY s (casY n s) := pg_cas.1
theorem KtR.su {σ τ : RS} {z : ZS} {x : XrZ} {op a b t f l v : Int32} (h : KtR σ z) (e : EmZ σ op a b t f l τ) : KtR (sA τ 21 (upd (aI τ 21) (gI σ 18).toNatClampNeg v)) (puM x z) := KtR.a (KtR.sto h (emK e)) (by decide)
theorem KtR.eu {σ τ : RS} {z : ZS} {x : Int × Int × Int × Int × Int} {A k : Nat} {op a b t f l s v : Int32} (h : KtR σ z) (e : EmZ σ op a b t f l τ) (hA : 52 ≤ A ∧ A ≤ 59) (hk : k < tnM z) (hs32 : s.toInt = (k : Int)) (hx : x.2.1 = (k : Int)) (h5 : ¬ x.1 = 50 ∧ ¬ x.1 = 41 ∧ ¬ x.1 = 51) (hc : (gI σ 18).toInt = (cnM z : Int)) (hs : ∀ a, a < 60 → (sqZ a x.1 = true ↔ a = A)) : KtR (sA (sA τ 21 (upd (aI τ 21) (gI σ 18).toNatClampNeg v)) A (upd (aI τ A) s.toNatClampNeg (gI σ 18))) (z.1, .inr x :: z.2.1, z.2.2) := KtR.et h e hA hk hs32 hx h5 hc hs
def Pv_expsZ (N : Int → Int) (z : ZS) (n : Nat) (F Kz : List FrZ) : UP1 := fun A1 σ => match A1 with
  | [] => SR σ z.1 n ∧ FgR σ 0 ∧ BZ N σ z F Kz ∧ KtR σ z
  | _ => False
def Qv_expsZ (N : Int → Int) (z : ZS) (n : Nat) (F Kz : List FrZ) : UQ1 := fun A1 σ w τ => match A1 with
  | [] => (w = some (.int 0) ∧ FlR τ (fexY n z.1)) ∨ (w = some (.int 1) ∧ SR τ (fexY n z.1) n ∧ FgR τ 0 ∧ frR τ = frR σ ∧ (gI τ 49 = gI σ 49 ∧ gI τ 36 = gI σ 36 ∧ aI τ 60 = aI σ 60) ∧ BZ N τ (fxM N n z) F Kz ∧ KtR τ (fxM N n z))
  | _ => False
def Qw_expsZ : UQ1 := fun A1 σ w τ => ∀ (N : Int → Int) (z : ZS) (n : Nat) (F Kz : List FrZ), Pv_expsZ N z n F Kz A1 σ → Qv_expsZ N z n F Kz A1 σ w τ
set_option maxRecDepth 100000 in
set_option maxHeartbeats 4000000 in
theorem v_expsZ (N : Int → Int) (z : ZS) (n : Nat) (F Kz : List FrZ) : UMet 56 (Pv_expsZ N z n F Kz) (Qv_expsZ N z n F Kz) := by sorry
theorem w_expsZ : UMet 56 (fun _ _ => True) Qw_expsZ := by sorry
def Pv_declarationZ (N : Int → Int) (z : ZS) (n : Nat) (F Kz : List FrZ) (j : Nat) : UP1 := fun A1 σ => match A1 with
  | [.int k] => SR σ z.1 n ∧ FgR σ 0 ∧ frR σ ≠ [] ∧ BZ N σ z F Kz ∧ KtR σ z ∧ (∃ a ∈ Kz, scF a.1 = true) ∧ k.toInt = sfF Kz ∧ ¬ kjS z j = 6
  | _ => False
def Qv_declarationZ (N : Int → Int) (z : ZS) (n : Nat) (F Kz : List FrZ) (j : Nat) : UQ1 := fun A1 σ w τ => match A1 with
  | [.int k] => (w = some (.int 0) ∧ FlR τ (varY n z.1)) ∨ (w = some (.int 1) ∧ SR τ (varY n z.1) n ∧ FgR τ 0 ∧ frR τ = frR σ ∧ (gI τ 49 = gI σ 49 ∧ gI τ 36 = gI σ 36 ∧ aI τ 60 = aI σ 60) ∧ BZ N τ (vaM N j n z) F Kz ∧ KtR τ (vaM N j n z))
  | _ => False
def Qw_declarationZ : UQ1 := fun A1 σ w τ => ∀ (N : Int → Int) (z : ZS) (n : Nat) (F Kz : List FrZ) (j : Nat), Pv_declarationZ N z n F Kz j A1 σ → Qv_declarationZ N z n F Kz j A1 σ w τ
set_option maxRecDepth 100000 in
set_option maxHeartbeats 4000000 in
theorem v_declarationZ (N : Int → Int) (z : ZS) (n : Nat) (F Kz : List FrZ) (j : Nat) : UMet 48 (Pv_declarationZ N z n F Kz j) (Qv_declarationZ N z n F Kz j) := by sorry
theorem w_declarationZ : UMet 48 (fun _ _ => True) Qw_declarationZ := by sorry
def Pv_toldZ (N : Int → Int) (z : ZS) (n : Nat) (F : List FrZ) (a : FrZ) : UP1 := fun A1 σ => match A1 with
  | [] => SR σ z.1 n ∧ FgR σ 0 ∧ frR σ ≠ [] ∧ BZ N σ z (a :: F) (a :: F) ∧ KtR σ z ∧ rwkY a.1 ∧ 0 < gI σ 62
  | _ => False
def Qv_toldZ (N : Int → Int) (z : ZS) (n : Nat) (F : List FrZ) (a : FrZ) : UQ1 := fun A1 σ w τ => match A1 with
  | [] => (w = some (.int 0) ∧ FlR τ (xpY 4 (varY n z.1))) ∨ (w = some (.int 1) ∧ SR τ (xpY 4 (varY n z.1)) n ∧ FgR τ 0 ∧ frR τ = frR σ ∧ BZ N τ (toM N n z) (a :: F) (a :: F) ∧ KtR τ (toM N n z))
  | _ => False
def Qw_toldZ : UQ1 := fun A1 σ w τ => ∀ (N : Int → Int) (z : ZS) (n : Nat) (F : List FrZ) (a : FrZ), Pv_toldZ N z n F a A1 σ → Qv_toldZ N z n F a A1 σ w τ
theorem sc_row {k : Int} (h : rwkY k) : scF k = true := by sorry
theorem sfF_row {a : FrZ} {F : List FrZ} (h : rwkY a.1) : sfF (a :: F) = nuF a := by sorry
set_option maxRecDepth 100000 in
set_option maxHeartbeats 4000000 in
theorem v_toldZ (N : Int → Int) (z : ZS) (n : Nat) (F : List FrZ) (a : FrZ) : UMet 47 (Pv_toldZ N z n F a) (Qv_toldZ N z n F a) := by sorry
theorem w_toldZ : UMet 47 (fun _ _ => True) Qw_toldZ := by sorry
def Pv_forOfZ (N : Int → Int) (z : ZS) (n : Nat) (F : List FrZ) : UP1 := fun A1 σ => match A1 with
  | [] => SR σ z.1 n ∧ FgR σ 0 ∧ frR σ ≠ [] ∧ BZ N σ z F F ∧ KtR σ z ∧ WfF F ∧ LuZ z F ∧ 1 ≤ zAt z.1 ∧ codY z.1 = 60
  | _ => False
def Qv_forOfZ (N : Int → Int) (z : ZS) (n : Nat) (F : List FrZ) : UQ1 := fun A1 σ w τ => match A1 with
  | [] => StZ N τ (sfM N F n (stM N n z)) w
  | _ => False
def Qw_forOfZ : UQ1 := fun A1 σ w τ => ∀ (N : Int → Int) (z : ZS) (n : Nat) (F : List FrZ), Pv_forOfZ N z n F A1 σ → Qv_forOfZ N z n F A1 σ w τ
set_option maxRecDepth 100000 in
set_option maxHeartbeats 4000000 in
theorem v_forOfZ (N : Int → Int) (z : ZS) (n : Nat) (F : List FrZ) : UMet 57 (Pv_forOfZ N z n F) (Qv_forOfZ N z n F) := by sorry
theorem w_forOfZ : UMet 57 (fun _ _ => True) Qw_forOfZ := by sorry
theorem sc_cat {k : Int32} {j : Nat} {c : Nat × Nat} {x : List Int} {out : List (Int × Int)} {F : List FrZ} (h0 : 0 ≤ k.toInt) (h1 : k.toInt ≤ 600) (hk : k.toInt = (c.2 : Int)) : (1000 + 3 * k + 1).toInt = sfF ((12, j, c, x, out) :: F) := by sorry
def Pv_labelZ (N : Int → Int) (z : ZS) (n : Nat) (F : List FrZ) (a : FrZ) : UP1 := fun A1 σ => match A1 with
  | [] => SR σ z.1 n ∧ 0 < gI σ 62 ∧ a.1 = 8 ∧ (codY z.1 = 62 ∨ codY z.1 = 63) ∧ BZ N σ z (a :: F) (a :: F) ∧ KtR σ z
  | _ => False
def Qv_labelZ (N : Int → Int) (z : ZS) (n : Nat) (F : List FrZ) (a : FrZ) : UQ1 := fun A1 σ w τ => match A1 with
  | [] => (w = some (.int 0) ∧ FlR τ (casY n z.1)) ∨ (w = some (.int 1) ∧ SR τ (casY n z.1) n ∧ FgR τ 0 ∧ frR τ = frR σ ∧ BZ N τ (csM N (a.2.2.1.2 : Int) n z) (a :: F) (a :: F) ∧ KtR τ (csM N (a.2.2.1.2 : Int) n z))
  | _ => False
def Qw_labelZ : UQ1 := fun A1 σ w τ => ∀ (N : Int → Int) (z : ZS) (n : Nat) (F : List FrZ) (a : FrZ), Pv_labelZ N z n F a A1 σ → Qv_labelZ N z n F a A1 σ w τ
set_option maxRecDepth 100000 in
set_option maxHeartbeats 4000000 in
theorem v_labelZ (N : Int → Int) (z : ZS) (n : Nat) (F : List FrZ) (a : FrZ) : UMet 59 (Pv_labelZ N z n F a) (Qv_labelZ N z n F a) := by sorry
theorem w_labelZ : UMet 59 (fun _ _ => True) Qw_labelZ := by sorry
def Pv_closeSwitchZ (N : Int → Int) (z : ZS) (n : Nat) (F : List FrZ) (a : FrZ) : UP1 := fun A1 σ => match A1 with
  | [] => SR σ z.1 n ∧ 0 < gI σ 62 ∧ a.1 = 8 ∧ codY z.1 = 3 ∧ BZ N σ z (a :: F) (a :: F) ∧ KtR σ z ∧ WfF F ∧ 1 ≤ zAt z.1
  | _ => False
def Qv_closeSwitchZ (N : Int → Int) (z : ZS) (n : Nat) (F : List FrZ) (a : FrZ) : UQ1 := fun A1 σ w τ => match A1 with
  | [] => StZ N τ (clF N a F n (z, a.2.2.2.1.getD 0 0)) w
  | _ => False
def Qw_closeSwitchZ : UQ1 := fun A1 σ w τ => ∀ (N : Int → Int) (z : ZS) (n : Nat) (F : List FrZ) (a : FrZ), Pv_closeSwitchZ N z n F a A1 σ → Qv_closeSwitchZ N z n F a A1 σ w τ
set_option maxRecDepth 100000 in
set_option maxHeartbeats 4000000 in
theorem v_closeSwitchZ (N : Int → Int) (z : ZS) (n : Nat) (F : List FrZ) (a : FrZ) : UMet 60 (Pv_closeSwitchZ N z n F a) (Qv_closeSwitchZ N z n F a) := by sorry
theorem w_closeSwitchZ : UMet 60 (fun _ _ => True) Qw_closeSwitchZ := by sorry
def Pv_closeTryZ (N : Int → Int) (z : ZS) (n : Nat) (F : List FrZ) (a : FrZ) : UP1 := fun A1 σ => match A1 with
  | [.int sort, .int k, .int step] => SR σ z.1 n ∧ 0 < gI σ 62 ∧ a.1 = sort.toInt ∧ (sort = 9 ∨ sort = 10 ∨ sort = 11) ∧ k.toInt = (a.2.2.1.2 : Int) ∧ step.toInt = (a.2.2.1.1 : Int) ∧ BZ N σ z (a :: F) (a :: F) ∧ KtR σ z ∧ KnZ (fun v => (aI σ 47 v).toInt) F a.2.2.2.2 ∧ z.2.2.2.1.1 = a.2.2.2.2 ∧ WfF F ∧ 1 ≤ zAt z.1
  | _ => False
def Qv_closeTryZ (N : Int → Int) (z : ZS) (n : Nat) (F : List FrZ) (a : FrZ) : UQ1 := fun A1 σ w τ => match A1 with
  | [.int sort, .int k, .int step] => StZ N τ (ctF N a F n (unM (owF a) z)) w
  | _ => False
def Qw_closeTryZ : UQ1 := fun A1 σ w τ => ∀ (N : Int → Int) (z : ZS) (n : Nat) (F : List FrZ) (a : FrZ), Pv_closeTryZ N z n F a A1 σ → Qv_closeTryZ N z n F a A1 σ w τ
set_option maxRecDepth 100000 in
set_option maxHeartbeats 4000000 in
theorem v_closeTryZ (N : Int → Int) (z : ZS) (n : Nat) (F : List FrZ) (a : FrZ) : UMet 68 (Pv_closeTryZ N z n F a) (Qv_closeTryZ N z n F a) := by sorry
theorem w_closeTryZ : UMet 68 (fun _ _ => True) Qw_closeTryZ := by sorry
def Pv_closeRowZ (N : Int → Int) (z : ZS) (n : Nat) (F : List FrZ) (a : FrZ) : UP1 := fun A1 σ => match A1 with
  | [.int sort] => SR σ z.1 n ∧ 0 < gI σ 62 ∧ a.1 = sort.toInt ∧ (sort = 0 ∨ sort = 1 ∨ sort = 9 ∨ sort = 10 ∨ sort = 11) ∧ codY z.1 = 3 ∧ BZ N σ z (a :: F) (a :: F) ∧ KtR σ z ∧ WfF F ∧ 1 ≤ zAt z.1
  | _ => False
def Qv_closeRowZ (N : Int → Int) (z : ZS) (n : Nat) (F : List FrZ) (a : FrZ) : UQ1 := fun A1 σ w τ => match A1 with
  | [.int sort] => StZ N τ (clF N a F n (z, a.2.2.2.1.getD 0 0)) w
  | _ => False
def Qw_closeRowZ : UQ1 := fun A1 σ w τ => ∀ (N : Int → Int) (z : ZS) (n : Nat) (F : List FrZ) (a : FrZ), Pv_closeRowZ N z n F a A1 σ → Qv_closeRowZ N z n F a A1 σ w τ
set_option maxRecDepth 100000 in
set_option maxHeartbeats 4000000 in
theorem v_closeRowZ (N : Int → Int) (z : ZS) (n : Nat) (F : List FrZ) (a : FrZ) : UMet 67 (Pv_closeRowZ N z n F a) (Qv_closeRowZ N z n F a) := by sorry
theorem w_closeRowZ : UMet 67 (fun _ _ => True) Qw_closeRowZ := by sorry
def Pv_statementZ (N : Int → Int) (z : ZS) (n : Nat) (F : List FrZ) : UP1 := fun A1 σ => match A1 with
  | [] => SR σ z.1 n ∧ FgR σ 0 ∧ frR σ ≠ [] ∧ BZ N σ z F F ∧ KtR σ z ∧ WfF F ∧ LuZ z F ∧ 1 ≤ zAt z.1
  | _ => False
def Qv_statementZ (N : Int → Int) (z : ZS) (n : Nat) (F : List FrZ) : UQ1 := fun A1 σ w τ => match A1 with
  | [] => StZ N τ (sfM N F n (stM N n z)) w
  | _ => False
def Qw_statementZ : UQ1 := fun A1 σ w τ => ∀ (N : Int → Int) (z : ZS) (n : Nat) (F : List FrZ), Pv_statementZ N z n F A1 σ → Qv_statementZ N z n F A1 σ w τ
set_option maxRecDepth 100000 in
set_option maxHeartbeats 4000000 in
theorem v_statementZ (N : Int → Int) (z : ZS) (n : Nat) (F : List FrZ) : UMet 49 (Pv_statementZ N z n F) (Qv_statementZ N z n F) := by sorry
theorem w_statementZ : UMet 49 (fun _ _ => True) Qw_statementZ := by sorry
def Pv_pieceZ (N : Int → Int) (z : ZS) (n : Nat) (F : List FrZ) : UP1 := fun A1 σ => match A1 with
  | [] => SR σ z.1 n ∧ FgR σ (bF F) ∧ 0 < gI σ 62 ∧ BZ N σ z F F ∧ KtR σ z ∧ WfF F.tail ∧ LuZ z F ∧ 1 ≤ zAt z.1
  | _ => False
def Qv_pieceZ (N : Int → Int) (z : ZS) (n : Nat) (F : List FrZ) : UQ1 := fun A1 σ w τ => match A1 with
  | [] => StZ N τ (pcM N F n z) w
  | _ => False
def Qw_pieceZ : UQ1 := fun A1 σ w τ => ∀ (N : Int → Int) (z : ZS) (n : Nat) (F : List FrZ), Pv_pieceZ N z n F A1 σ → Qv_pieceZ N z n F A1 σ w τ
set_option maxRecDepth 100000 in
set_option maxHeartbeats 4000000 in
theorem v_pieceZ (N : Int → Int) (z : ZS) (n : Nat) (F : List FrZ) : UMet 44 (Pv_pieceZ N z n F) (Qv_pieceZ N z n F) := by sorry
theorem w_pieceZ : UMet 44 (fun _ _ => True) Qw_pieceZ := by sorry
/-! clear: no ERROR is told then -/
abbrev Qp_clear0 (_y : Unit) : CqC := fun As σ w τ => match As with
  | [.inr (.inr (some p0))] => fIC τ p0 217 = 0
  | _ => True
theorem p_clear0 (y : Unit) : PbC KX6_clear [(237, P_Jx4a65c_clear_da8c8, Q_Jx4a65c_clear_da8c8)] [] (fun As σ => P_X6_clear As σ ∧ Pp_clear y As σ) (Qp_clear0 y) := by sorry
abbrev U_clear0 : CqC := fun As σ w τ => ∀ y, Pp_clear y As σ → Qp_clear0 y As σ w τ
theorem n_clear0 (l : Launch) : CMetC l 11 117 P_X6_clear (fun As σ w τ => (Q_X6_clear As σ w τ ∧ U_clear As σ w τ) ∧ U_clear0 As σ w τ) := by sorry

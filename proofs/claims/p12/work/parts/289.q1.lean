/-! the class's reader: what it lays -/
def opA (A : Nat → Nat) (x : Int) : Option Nat := if x < 0 then none else some (A x.toNat)
theorem opA_n {A : Nat → Nat} {x : Int} (h : x < 0) : opA A x = none := if_pos h
theorem opA_s {A : Nat → Nat} {x : Int} (h : 0 ≤ x) : opA A x = some (A x.toNat) := if_neg (by omega)
theorem opA_k {A : Nat → Nat} {n : Nat} : opA A (n : Int) = some (A n) := (opA_s (Int.natCast_nonneg n)).trans (by rw [Int.toNat_natCast])
theorem opA_c {A A' : Nat → Nat} {n : Nat} {x : Int} (h : ∀ i, i < n → A' i = A i) (hx : x < (n : Int)) : opA A' x = opA A x := by
  unfold opA
  by_cases q : x < 0
  · rw [if_pos q, if_pos q]
  · rw [if_neg q, if_neg q, h x.toNat (by omega)]
/-- exp number i -/
def xgZ : List ItZ → Nat → XrZ
  | [], _ => recZ 0 0 0 0 0 0 0 0 0 0 0 0 []
  | .inl x :: l, i => if i = xcZ l then x else xgZ l i
  | .inr _ :: l, i => xgZ l i
def xth (z : ZS) (i : Nat) : XrZ := xgZ z.2.1 i
theorem xth_n {x : XrZ} {z : ZS} : xth (puM x z) (xnM z) = x := if_pos rfl
theorem xth_o {x : XrZ} {z : ZS} {i : Nat} (h : i < xnM z) : xth (puM x z) i = xth z i := if_neg (Nat.ne_of_lt h)
/-- variables known, as bits -/
def KbC (x : Int64) (l : List (Int × Int)) : Prop := ∀ v : Nat, v < 64 → (x.toBitVec.getLsbD v = true ↔ ∃ k, ((v : Int), k) ∈ l)
/-- what an exp's object holds, but its last token, its number and its next -/
def XbC (A : Nat → Nat) (σ : CsC) (x : XrZ) (o : Nat) : Prop := ((fIC σ o 60).toInt = x.1.1 ∧ (fIC σ o 61).toInt = x.1.2.1 ∧ (fIC σ o 62).toInt = x.1.2.2.1 ∧ (fIC σ o 63).toInt = x.2.2.1.1) ∧ ((fIC σ o 66).toInt = x.2.1.1 ∧ (fIC σ o 67).toInt = x.2.1.2.1 ∧ (fIC σ o 69).toInt = x.2.1.2.2) ∧ (fRC σ o 72 = opA A x.2.2.1.2.1 ∧ fRC σ o 73 = opA A x.2.2.1.2.2.1 ∧ fRC σ o 74 = opA A x.2.2.1.2.2.2.1 ∧ fRC σ o 76 = opA A x.2.2.1.2.2.2.2)
/-- TYPE, CONSTANT, value as they are read -/
def tyX (x : XrZ) : Int := if x.1.1 = 1 then (if x.1.2.1 = 83 then 2 else 0) else -1
def coX (x : XrZ) : Int := if x.1.1 = 0 ∨ x.1.1 = 1 then 1 else 0
def vaX (N : Int → Int) (x : XrZ) : Int := if x.1.1 = 0 ∨ x.1.1 = 1 then (if x.1.2.1 = 72 then 1 else if x.1.2.1 = 73 then 0 else N x.1.2.2.1) else 0
def XiC (N : Int → Int) (σ : CsC) (x : XrZ) (o : Nat) : Prop := (fIC σ o 68).toInt = tyX x ∧ (fIC σ o 70).toInt = coX x ∧ (fLC σ o 71).toInt = vaX N x
/-- an exp in the list -/
def XoC (N : Int → Int) (A : Nat → Nat) (σ : CsC) (x : XrZ) (i o : Nat) : Prop := XbC A σ x o ∧ XiC N σ x o ∧ (fIC σ o 64).toInt = x.1.2.2.2 ∧ (fIC σ o 65).toInt = (i : Int)
/-- arguments, one behind the other -/
def ChC (A : Nat → Nat) (σ : CsC) : List Int → Prop
  | [] => True
  | a :: l => fRC σ (A a.toNat) 75 = (match l with
    | [] => none
    | b :: _ => some (A b.toNat)) ∧ ChC A σ l
/-- what an S's object holds -/
def S0C (σ : CsC) (o : Nat) : Prop := fRC σ o 281 = none ∧ (fIC σ o 282 = 0 ∧ fIC σ o 283 = 0 ∧ fIC σ o 284 = 0) ∧ fLC σ o 287 = -1 ∧ fLC σ o 288 = -1
def SoC (A B : Nat → Nat) (σ : CsC) (x : SrZ) (o : Nat) : Prop := ((fIC σ o 270).toInt = x.1.1 ∧ (fIC σ o 271).toInt = x.1.2.1 ∧ (fIC σ o 272).toInt = x.1.2.2.1 ∧ fRC σ o 273 = opA B x.1.2.2.2) ∧ KbC (fLC σ o 274) x.2.1 ∧ (fRC σ o 275 = opA B x.2.2.1 ∧ fRC σ o 276 = opA B x.2.2.2.1 ∧ fRC σ o 277 = opA B x.2.2.2.2.1 ∧ fRC σ o 278 = opA B x.2.2.2.2.2.1 ∧ fRC σ o 279 = opA A x.2.2.2.2.2.2.1 ∧ (fIC σ o 280).toInt = x.2.2.2.2.2.2.2.1) ∧ S0C σ o
/-- a list -/
def LiC (σ : CsC) (a n : Nat) (A : Nat → Nat) : Prop := (fIC σ a 2).toInt = (n : Int) ∧ ∀ i, i < n → elC σ a i = some (A i) ∧ A i < cnC σ
/-- where all stands -/
def EnC (E : Nat → Nat) (σ : CsC) : Prop := (fRC σ (E 0) 240 = some (E 1) ∧ fRC σ (E 0) 241 = some (E 2)) ∧ (fRC σ (E 1) 211 = some (E 211) ∧ fRC σ (E 1) 212 = some (E 212) ∧ fRC σ (E 1) 213 = some (E 213) ∧ fRC σ (E 1) 214 = some (E 214)) ∧ (fRC σ (E 2) 302 = some (E 302) ∧ fRC σ (E 2) 303 = some (E 303) ∧ fRC σ (E 2) 304 = some (E 304)) ∧ (E 0 < cnC σ ∧ E 1 < cnC σ ∧ E 2 < cnC σ) ∧ (E 211 < cnC σ ∧ E 212 < cnC σ ∧ E 213 < cnC σ ∧ E 214 < cnC σ) ∧ (E 302 < cnC σ ∧ E 303 < cnC σ ∧ E 304 < cnC σ) ∧ E 302 ≠ E 303
/-- a variable's object -/
def VrC (σ : CsC) (x : Int × Int × Int × Int) (cl : Int) (o : Nat) : Prop := (fIC σ o 330).toInt = x.1 ∧ (fIC σ o 331).toInt = x.2.1 ∧ (fIC σ o 332).toInt = x.2.2.1 ∧ (fIC σ o 333).toInt = x.2.2.2 ∧ (fIC σ o 334).toInt = cl ∧ fIC σ o 335 = 0
/-- variable v of a list whose last one stands first -/
def vth (s : SpC) (v : Nat) : Int × Int × Int × Int := (zVs s).getD ((zVs s).length - 1 - v) (0, 0, 0, 0)
/-- operands of a record stand in the list -/
def oprX (x : XrZ) (n : Nat) : Prop := x.2.2.1.2.1 < (n : Int) ∧ x.2.2.1.2.2.1 < (n : Int) ∧ x.2.2.1.2.2.2.1 < (n : Int) ∧ x.2.2.1.2.2.2.2 < (n : Int)
def oprS (x : SrZ) (n m : Nat) : Prop := x.2.2.2.2.2.2.1 < (n : Int) ∧ x.1.2.2.2 < (m : Int) ∧ x.2.2.1 < (m : Int) ∧ x.2.2.2.1 < (m : Int) ∧ x.2.2.2.2.1 < (m : Int) ∧ x.2.2.2.2.2.1 < (m : Int)
theorem oprS.mo {x : SrZ} {m n k l : Nat} (h : oprS x m k) (hm : m ≤ n) (hk : k ≤ l) : oprS x n l := by unfold oprS at *; omega
theorem oprX.mo {x : XrZ} {m n : Nat} (h : oprX x m) (hm : m ≤ n) : oprX x n := by unfold oprX at *; omega
theorem XbC.ag {A A' : Nat → Nat} {σ : CsC} {x : XrZ} {o n : Nat} (h : XbC A σ x o) (hx : oprX x n) (e : ∀ i, i < n → A' i = A i) : XbC A' σ x o := by
  unfold XbC at *
  rw [opA_c e hx.1, opA_c e hx.2.1, opA_c e hx.2.2.1, opA_c e hx.2.2.2]
  exact h
theorem SoC.ag {A A' B B' : Nat → Nat} {σ : CsC} {x : SrZ} {o n m : Nat} (h : SoC A B σ x o) (hx : oprS x n m) (e : ∀ i, i < n → A' i = A i) (e2 : ∀ i, i < m → B' i = B i) : SoC A' B' σ x o := by
  unfold SoC at *
  rw [opA_c e hx.1, opA_c e2 hx.2.1, opA_c e2 hx.2.2.1, opA_c e2 hx.2.2.2.1, opA_c e2 hx.2.2.2.2.1, opA_c e2 hx.2.2.2.2.2]
  exact h
theorem ChC.ua {A A' : Nat → Nat} {σ : CsC} : ∀ {l : List Int}, (∀ a ∈ l, A' a.toNat = A a.toNat) → ChC A σ l → ChC A' σ l := by
  intro l
  induction l with
  | nil => exact fun _ h => h
  | cons a l ih =>
    intro f h
    refine ⟨?_, ih (fun b hb => f b (List.mem_cons_of_mem _ hb)) h.2⟩
    rw [f a List.mem_cons_self]
    refine h.1.trans ?_
    cases l with
    | nil => rfl
    | cons b l => exact congrArg some (f b (List.mem_cons_of_mem _ List.mem_cons_self)).symm
/-- a heap shows what is laid -/
def ZC (N : Int → Int) (E A B V : Nat → Nat) (σ : CsC) (z : ZS) : Prop :=
  EnC E σ ∧
  (((fIC σ (E 0) 242).toInt = zAt z.1 ∧ (fIC σ (E 0) 243).toInt = zFt z.1) ∧ KbC (fLC σ (E 0) 245) z.2.2.2.1.1 ∧ fRC σ (E 0) 246 = opA B z.2.2.2.1.2 ∧ z.2.2.2.1.2 < (snM z : Int)) ∧
  ((∀ j, (eIC σ (E 302) j).toInt = zK z.1 j) ∧ ∀ j : Nat, (eLC σ (E 304) j).toInt = N j) ∧
  (LiC σ (E 213) (xnM z) A ∧ LiC σ (E 214) (snM z) B ∧ LiC σ (E 212) (zVs z.1).length V ∧ LiC σ (E 211) (zMs z.1).length (fun k => E (1000 + k))) ∧
  ((∀ i, i < xnM z → XoC N A σ (xth z i) i (A i) ∧ oprX (xth z i) (xnM z)) ∧ ∀ i, i < xnM z → (∀ a ∈ (xth z i).2.2.2, (xth z i).2.2.1.1 ≤ a ∧ 0 ≤ a ∧ a < (i : Int)) ∧ ChC A σ (xth z i).2.2.2) ∧
  ((∀ j, j < snM z → SoC A B σ (reS z j) (B j) ∧ oprS (reS z j) (xnM z) (snM z)) ∧ ∀ i j, i < j → j < snM z → B i < B j) ∧
  (∀ v, v < (zVs z.1).length → VrC σ (vth z.1 v) (z.2.2.2.2.2.1 v) (V v)) ∧
  (∀ q ∈ z.2.2.2.1.1, 0 ≤ q.1 ∧ q.1 < ((zVs z.1).length : Int) ∧ q.2 = (vth z.1 q.1.toNat).1) ∧ List.Pairwise (fun a b => b.1 < a.1) z.2.2.2.1.1 ∧ (zVs z.1).length ≤ 60 ∧ ∀ i j, i < j → j < (zVs z.1).length → V i < V j
/-- fields of exps and of S's -/
def xsF (k : Nat) : Bool := (Nat.ble 60 k && Nat.ble k 77) || (Nat.ble 270 k && Nat.ble k 290)
theorem xsF_r {k : Nat} (h : xsF k = true) : (60 ≤ k ∧ k ≤ 77) ∨ (270 ≤ k ∧ k ≤ 290) := by
  unfold xsF at h
  rw [Bool.or_eq_true, Bool.and_eq_true, Bool.and_eq_true] at h
  rcases h with h | h
  · exact Or.inl ⟨Nat.le_of_ble_eq_true h.1, Nat.le_of_ble_eq_true h.2⟩
  · exact Or.inr ⟨Nat.le_of_ble_eq_true h.1, Nat.le_of_ble_eq_true h.2⟩
/-- what reading leaves alone: objects below n -/
def FzC (n m : Nat) (E A A' B B' V V' : Nat → Nat) (z z' : ZS) (σ τ : CsC) : Prop :=
  cnC σ ≤ cnC τ ∧
  (∀ o, o < n → ∀ k, xsF k = true → fIC τ o k = fIC σ o k ∧ fLC τ o k = fLC σ o k ∧ fRC τ o k = fRC σ o k) ∧
  ((xnM z ≤ xnM z' ∧ ∀ i, i < xnM z → A' i = A i ∧ xth z' i = xth z i) ∧ ∀ i, xnM z ≤ i → i < xnM z' → n ≤ A' i ∧ (m : Int) ≤ (xth z' i).2.2.1.1) ∧
  ((snM z ≤ snM z' ∧ ∀ j, j < snM z → B' j = B j ∧ (reS z' j).1 = (reS z j).1 ∧ (reS z' j).2.1 = (reS z j).2.1) ∧ ∀ j, snM z ≤ j → j < snM z' → n ≤ B' j) ∧
  ((zVs z.1).length ≤ (zVs z'.1).length ∧ ∀ v, v < (zVs z.1).length → V' v = V v ∧ vth z'.1 v = vth z.1 v) ∧
  (zAt z.1 ≤ zAt z'.1 ∧ ∀ j : Nat, (j : Int) < zAt z.1 → eIC τ (E 303) j = eIC σ (E 303) j)
theorem FzC.rf {n m : Nat} {E A B V : Nat → Nat} {z : ZS} {σ : CsC} : FzC n m E A A B B V V z z σ σ := ⟨Nat.le_refl _, fun _ _ _ _ => ⟨rfl, rfl, rfl⟩, ⟨⟨Nat.le_refl _, fun _ _ => ⟨rfl, rfl⟩⟩, fun i h1 h2 => absurd h2 (Nat.not_lt.mpr h1)⟩, ⟨⟨Nat.le_refl _, fun _ _ => ⟨rfl, rfl, rfl⟩⟩, fun i h1 h2 => absurd h2 (Nat.not_lt.mpr h1)⟩, ⟨Nat.le_refl _, fun _ _ => ⟨rfl, rfl⟩⟩, Int.le_refl _, fun _ _ => rfl⟩
theorem FzC.mo {n m n' m' : Nat} {E A A' B B' V V' : Nat → Nat} {z z' : ZS} {σ τ : CsC} (h : FzC n m E A A' B B' V V' z z' σ τ) (hn : n' ≤ n) (hm : m' ≤ m) : FzC n' m' E A A' B B' V V' z z' σ τ :=
  ⟨h.1, fun o ho => h.2.1 o (by omega), ⟨h.2.2.1.1, fun i h1 h2 => ⟨Nat.le_trans hn (h.2.2.1.2 i h1 h2).1, Int.le_trans (Int.ofNat_le.mpr hm) (h.2.2.1.2 i h1 h2).2⟩⟩, ⟨h.2.2.2.1.1, fun j h1 h2 => Nat.le_trans hn (h.2.2.2.1.2 j h1 h2)⟩, h.2.2.2.2⟩
theorem FzC.tr {n m : Nat} {E A A' A'' B B' B'' V V' V'' : Nat → Nat} {x y z : ZS} {σ τ υ : CsC} (p : FzC n m E A A' B B' V V' x y σ τ) (q : FzC n m E A' A'' B' B'' V' V'' y z τ υ) : FzC n m E A A'' B B'' V V'' x z σ υ := by
  obtain ⟨p3, p4, ⟨⟨p5, p6⟩, p7⟩, ⟨⟨p8, p9⟩, p10⟩, ⟨p11, p12⟩, p13, p14⟩ := p
  obtain ⟨q3, q4, ⟨⟨q5, q6⟩, q7⟩, ⟨⟨q8, q9⟩, q10⟩, ⟨q11, q12⟩, q13, q14⟩ := q
  refine ⟨Nat.le_trans p3 q3, fun o ho k hk => ?_, ⟨⟨Nat.le_trans p5 q5, fun i hi => ⟨(q6 i (by omega)).1.trans (p6 i hi).1, (q6 i (by omega)).2.trans (p6 i hi).2⟩⟩, fun i h1 h2 => ?_⟩, ⟨⟨Nat.le_trans p8 q8, fun j hj => ⟨(q9 j (by omega)).1.trans (p9 j hj).1, (q9 j (by omega)).2.1.trans (p9 j hj).2.1, (q9 j (by omega)).2.2.trans (p9 j hj).2.2⟩⟩, fun j h1 h2 => ?_⟩, ⟨Nat.le_trans p11 q11, fun v hv => ⟨(q12 v (by omega)).1.trans (p12 v hv).1, (q12 v (by omega)).2.trans (p12 v hv).2⟩⟩, Int.le_trans p13 q13, fun j hj => (q14 j (by omega)).trans (p14 j hj)⟩
  · have a := p4 o ho k hk
    have b := q4 o ho k hk
    exact ⟨b.1.trans a.1, b.2.1.trans a.2.1, b.2.2.trans a.2.2⟩
  · by_cases c : i < xnM y
    · rw [(q6 i c).1, (q6 i c).2]
      exact p7 i h1 c
    · exact q7 i (by omega) h2
  · by_cases c : j < snM y
    · rw [(q9 j c).1]
      exact p10 j h1 c
    · exact q10 j (by omega) h2
/-- exps' fields alone have changed, and none of a listed one -/
def XfE (σ τ : CsC) : Prop := (∀ a k, ¬ (60 ≤ k ∧ k ≤ 77) → fIC τ a k = fIC σ a k ∧ fLC τ a k = fLC σ a k ∧ fRC τ a k = fRC σ a k) ∧ (eIC τ = eIC σ ∧ eLC τ = eLC σ ∧ eRC τ = eRC σ) ∧ cnC τ = cnC σ
theorem XfE.pI {σ : CsC} {a k : Nat} {v : Int32} (h : 60 ≤ k ∧ k ≤ 77) : XfE σ (pIC σ a k v) := ⟨fun b j hj => ⟨u2C_nk (fun e => hj (e ▸ h)), rfl, rfl⟩, ⟨rfl, rfl, rfl⟩, rfl⟩
theorem XfE.pL {σ : CsC} {a k : Nat} {v : Int64} (h : 60 ≤ k ∧ k ≤ 77) : XfE σ (pLC σ a k v) := ⟨fun b j hj => ⟨rfl, u2C_nk (fun e => hj (e ▸ h)), rfl⟩, ⟨rfl, rfl, rfl⟩, rfl⟩
theorem XfE.pR {σ : CsC} {a k : Nat} {v : Option Nat} (h : 60 ≤ k ∧ k ≤ 77) : XfE σ (pRC σ a k v) := ⟨fun b j hj => ⟨rfl, rfl, u2C_nk (fun e => hj (e ▸ h))⟩, ⟨rfl, rfl, rfl⟩, rfl⟩
theorem el_cg {σ τ : CsC} {a j : Nat} (h1 : fRC τ a 1 = fRC σ a 1) (h2 : eRC τ = eRC σ) : elC τ a j = elC σ a j := by unfold elC; rw [h1, h2]
theorem LiC.cg {σ τ : CsC} {a n : Nat} {A : Nat → Nat} (h : LiC σ a n A) (h1 : fRC τ a 1 = fRC σ a 1) (h2 : eRC τ = eRC σ) (h3 : fIC τ a 2 = fIC σ a 2) (h4 : cnC σ ≤ cnC τ) : LiC τ a n A := ⟨by rw [h3]; exact h.1, fun i hi => ⟨(el_cg h1 h2).trans (h.2 i hi).1, Nat.lt_of_lt_of_le (h.2 i hi).2 h4⟩⟩
theorem SoC.cg {A B : Nat → Nat} {σ τ : CsC} {x : SrZ} {o : Nat} (h : SoC A B σ x o) (f : ∀ k, 270 ≤ k ∧ k ≤ 290 → fIC τ o k = fIC σ o k ∧ fLC τ o k = fLC σ o k ∧ fRC τ o k = fRC σ o k) : SoC A B τ x o := by
  unfold SoC S0C at *
  rw [(f 270 (by decide)).1, (f 271 (by decide)).1, (f 272 (by decide)).1, (f 273 (by decide)).2.2, (f 274 (by decide)).2.1, (f 275 (by decide)).2.2, (f 276 (by decide)).2.2, (f 277 (by decide)).2.2, (f 278 (by decide)).2.2, (f 279 (by decide)).2.2, (f 280 (by decide)).1, (f 281 (by decide)).2.2, (f 282 (by decide)).1, (f 283 (by decide)).1, (f 284 (by decide)).1, (f 287 (by decide)).2.1, (f 288 (by decide)).2.1]
  exact h
theorem XbC.cg {A : Nat → Nat} {σ τ : CsC} {x : XrZ} {o : Nat} (h : XbC A σ x o) (f : ∀ k, 60 ≤ k ∧ k ≤ 77 → fIC τ o k = fIC σ o k ∧ fLC τ o k = fLC σ o k ∧ fRC τ o k = fRC σ o k) : XbC A τ x o := by
  unfold XbC at *
  rw [(f 60 (by decide)).1, (f 61 (by decide)).1, (f 62 (by decide)).1, (f 63 (by decide)).1, (f 66 (by decide)).1, (f 67 (by decide)).1, (f 69 (by decide)).1, (f 72 (by decide)).2.2, (f 73 (by decide)).2.2, (f 74 (by decide)).2.2, (f 76 (by decide)).2.2]
  exact h
theorem XiC.cg {N : Int → Int} {σ τ : CsC} {x : XrZ} {o : Nat} (h : XiC N σ x o) (f : ∀ k, 60 ≤ k ∧ k ≤ 77 → fIC τ o k = fIC σ o k ∧ fLC τ o k = fLC σ o k ∧ fRC τ o k = fRC σ o k) : XiC N τ x o := by
  unfold XiC at *
  rw [(f 68 (by decide)).1, (f 70 (by decide)).1, (f 71 (by decide)).2.1]
  exact h
theorem XoC.cg {N : Int → Int} {A : Nat → Nat} {σ τ : CsC} {x : XrZ} {i o : Nat} (h : XoC N A σ x i o) (f : ∀ k, 60 ≤ k ∧ k ≤ 77 → fIC τ o k = fIC σ o k ∧ fLC τ o k = fLC σ o k ∧ fRC τ o k = fRC σ o k) : XoC N A τ x i o := ⟨h.1.cg f, h.2.1.cg f, by rw [(f 64 (by decide)).1]; exact h.2.2.1, by rw [(f 65 (by decide)).1]; exact h.2.2.2⟩
theorem ChC.cg {A : Nat → Nat} {σ τ : CsC} : ∀ {l : List Int}, (∀ a ∈ l, fRC τ (A a.toNat) 75 = fRC σ (A a.toNat) 75) → ChC A σ l → ChC A τ l := by
  intro l
  induction l with
  | nil => exact fun _ h => h
  | cons a l ih => exact fun f h => ⟨(f a List.mem_cons_self).trans h.1, ih (fun b hb => f b (List.mem_cons_of_mem _ hb)) h.2⟩
theorem VrC.cg {σ τ : CsC} {x : Int × Int × Int × Int} {c : Int} {o : Nat} (h : VrC σ x c o) (f : ∀ k, 330 ≤ k ∧ k ≤ 335 → fIC τ o k = fIC σ o k) : VrC τ x c o := by
  unfold VrC at *
  rw [f 330 (by decide), f 331 (by decide), f 332 (by decide), f 333 (by decide), f 334 (by decide), f 335 (by decide)]
  exact h
theorem EnC.cg {E : Nat → Nat} {σ τ : CsC} (h : EnC E σ) (f : ∀ a k, a < cnC σ → k = 211 ∨ k = 212 ∨ k = 213 ∨ k = 214 ∨ k = 240 ∨ k = 241 ∨ k = 302 ∨ k = 303 ∨ k = 304 → fRC τ a k = fRC σ a k) (hc : cnC σ ≤ cnC τ) : EnC E τ := by
  obtain ⟨⟨a1, a2⟩, ⟨b1, b2, b3, b4⟩, ⟨c1, c2, c3⟩, ⟨d1, d2, d3⟩, ⟨e1, e2, e3, e4⟩, ⟨f1, f2, f3⟩, ne⟩ := h
  exact ⟨⟨(f _ _ d1 (by decide)).trans a1, (f _ _ d1 (by decide)).trans a2⟩, ⟨(f _ _ d2 (by decide)).trans b1, (f _ _ d2 (by decide)).trans b2, (f _ _ d2 (by decide)).trans b3, (f _ _ d2 (by decide)).trans b4⟩, ⟨(f _ _ d3 (by decide)).trans c1, (f _ _ d3 (by decide)).trans c2, (f _ _ d3 (by decide)).trans c3⟩, ⟨by omega, by omega, by omega⟩, ⟨by omega, by omega, by omega, by omega⟩, ⟨by omega, by omega, by omega⟩, ne⟩
/-- an exp that is not listed changes -/
theorem ZC.xf {N : Int → Int} {E A B V : Nat → Nat} {σ τ : CsC} {z : ZS} (h : ZC N E A B V σ z) (f : XfE σ τ) (hA : ∀ i, i < xnM z → ∀ k, fIC τ (A i) k = fIC σ (A i) k ∧ fLC τ (A i) k = fLC σ (A i) k ∧ fRC τ (A i) k = fRC σ (A i) k) : ZC N E A B V τ z := by
  obtain ⟨h1, ⟨⟨h2, h3⟩, h4, h5, h6⟩, ⟨h7, h8⟩, ⟨l1, l2, l3, l4⟩, ⟨x1, x2⟩, ⟨s1, s2⟩, v1, v2, v3⟩ := h
  obtain ⟨f1, ⟨f2, f3, f4⟩, f5⟩ := f
  have hc : cnC σ ≤ cnC τ := Nat.le_of_eq f5.symm
  refine ⟨h1.cg (fun a k _ hk => (f1 a k (by omega)).2.2) hc, ⟨⟨?_, ?_⟩, ?_, ?_, h6⟩, ⟨fun j => ?_, fun j => ?_⟩, ⟨l1.cg (f1 _ 1 (by decide)).2.2 f4 (f1 _ 2 (by decide)).1 hc, l2.cg (f1 _ 1 (by decide)).2.2 f4 (f1 _ 2 (by decide)).1 hc, l3.cg (f1 _ 1 (by decide)).2.2 f4 (f1 _ 2 (by decide)).1 hc, ?_⟩, ⟨fun i hi => ⟨(x1 i hi).1.cg (fun k _ => hA i hi k), (x1 i hi).2⟩, fun i hi => ⟨(x2 i hi).1, ChC.cg (fun a ha => ?_) (x2 i hi).2⟩⟩, ⟨fun j hj => ⟨(s1 j hj).1.cg (fun k hk => f1 _ k (by omega)), (s1 j hj).2⟩, s2⟩, fun v hv => (v1 v hv).cg (fun k hk => (f1 _ k (by omega)).1), v2, v3⟩
  · rw [(f1 _ 242 (by decide)).1]; exact h2
  · rw [(f1 _ 243 (by decide)).1]; exact h3
  · rw [(f1 _ 245 (by decide)).2.1]; exact h4
  · rw [(f1 _ 246 (by decide)).2.2]; exact h5
  · rw [f2]; exact h7 j
  · rw [f3]; exact h8 j
  · exact l4.cg (f1 _ 1 (by decide)).2.2 f4 (f1 _ 2 (by decide)).1 hc
  · have q := (x2 i hi).1 a ha
    exact (hA a.toNat (by omega) 75).2.2
/-- nothing but a new object -/
theorem ZC.nw {N : Int → Int} {E A B V : Nat → Nat} {σ τ : CsC} {z : ZS} (h : ZC N E A B V σ z) (f1 : ∀ a, a < cnC σ → ∀ k, fIC τ a k = fIC σ a k ∧ fLC τ a k = fLC σ a k ∧ fRC τ a k = fRC σ a k) (f2 : eIC τ = eIC σ ∧ eLC τ = eLC σ ∧ eRC τ = eRC σ) (hc : cnC σ ≤ cnC τ) : ZC N E A B V τ z := by
  obtain ⟨h1, ⟨⟨h2, h3⟩, h4, h5, h6⟩, ⟨h7, h8⟩, ⟨l1, l2, l3, l4⟩, ⟨x1, x2⟩, ⟨s1, s2⟩, v1, v2, v3⟩ := h
  obtain ⟨f2, f3, f4⟩ := f2
  have n0 := h1.2.2.2.1.1
  obtain ⟨n1, n2, n3, n4⟩ := h1.2.2.2.2.1
  refine ⟨h1.cg (fun a k ha hk => (f1 a ha k).2.2) hc, ⟨⟨?_, ?_⟩, ?_, ?_, h6⟩, ⟨fun j => ?_, fun j => ?_⟩, ⟨l1.cg (f1 _ n3 1).2.2 f4 (f1 _ n3 2).1 hc, l2.cg (f1 _ n4 1).2.2 f4 (f1 _ n4 2).1 hc, l3.cg (f1 _ n2 1).2.2 f4 (f1 _ n2 2).1 hc, ?_⟩, ⟨fun i hi => ⟨(x1 i hi).1.cg (fun k _ => f1 _ (l1.2 i hi).2 k), (x1 i hi).2⟩, fun i hi => ⟨(x2 i hi).1, ChC.cg (fun a ha => ?_) (x2 i hi).2⟩⟩, ⟨fun j hj => ⟨(s1 j hj).1.cg (fun k hk => f1 _ (l2.2 j hj).2 k), (s1 j hj).2⟩, s2⟩, fun v hv => (v1 v hv).cg (fun k hk => (f1 _ (l3.2 v hv).2 k).1), v2, v3⟩
  · rw [(f1 _ n0 242).1]; exact h2
  · rw [(f1 _ n0 243).1]; exact h3
  · rw [(f1 _ n0 245).2.1]; exact h4
  · rw [(f1 _ n0 246).2.2]; exact h5
  · rw [f2]; exact h7 j
  · rw [f3]; exact h8 j
  · exact l4.cg (f1 _ n1 1).2.2 f4 (f1 _ n1 2).1 hc
  · have q := (x2 i hi).1 a ha
    exact (f1 _ (l1.2 a.toNat (by omega)).2 75).2.2
/-- reading goes on: the reader's place alone -/
theorem ZC.rd {N : Int → Int} {E A B V : Nat → Nat} {σ τ : CsC} {z z' : ZS} (h : ZC N E A B V σ z) (f : ∀ a k, k ≠ 242 → k ≠ 243 → k ≠ 244 → fIC τ a k = fIC σ a k) (f2 : fLC τ = fLC σ ∧ fRC τ = fRC σ) (f3 : eIC τ = eIC σ ∧ eLC τ = eLC σ ∧ eRC τ = eRC σ) (hc : cnC τ = cnC σ) (e : z'.2 = z.2) (e1 : (fIC τ (E 0) 242).toInt = zAt z'.1) (e2 : (fIC τ (E 0) 243).toInt = zFt z'.1) (e3 : z'.1.2 = z.1.2) : ZC N E A B V τ z' := by
  obtain ⟨s, r⟩ := z
  obtain ⟨s', r'⟩ := z'
  cases e
  obtain ⟨s1, s2⟩ := s
  obtain ⟨s1', s2'⟩ := s'
  cases e3
  obtain ⟨h1, ⟨⟨h2, h3⟩, h4, h5, h6⟩, ⟨h7, h8⟩, ⟨l1, l2, l3, l4⟩, ⟨x1, x2⟩, ⟨t1, t2⟩, v1, v2, v3⟩ := h
  obtain ⟨f2, f4⟩ := f2
  obtain ⟨f5, f6, f7⟩ := f3
  have hc : cnC σ ≤ cnC τ := Nat.le_of_eq hc.symm
  have fi : ∀ a k, ¬ (242 ≤ k ∧ k ≤ 244) → fIC τ a k = fIC σ a k := fun a k hk => f a k (by omega) (by omega) (by omega)
  refine ⟨h1.cg (fun a k ha hk => by rw [f4]) hc, ⟨⟨e1, e2⟩, ?_, ?_, h6⟩, ⟨fun j => ?_, fun j => ?_⟩, ⟨l1.cg (by rw [f4]) f7 (fi _ 2 (by decide)) hc, l2.cg (by rw [f4]) f7 (fi _ 2 (by decide)) hc, l3.cg (by rw [f4]) f7 (fi _ 2 (by decide)) hc, ?_⟩, ⟨fun i hi => ⟨(x1 i hi).1.cg (fun k hk => ⟨fi _ k (by omega), by rw [f2], by rw [f4]⟩), (x1 i hi).2⟩, fun i hi => ⟨(x2 i hi).1, ChC.cg (fun a ha => by rw [f4]) (x2 i hi).2⟩⟩, ⟨fun j hj => ⟨(t1 j hj).1.cg (fun k hk => ⟨fi _ k (by omega), by rw [f2], by rw [f4]⟩), (t1 j hj).2⟩, t2⟩, fun v hv => (v1 v hv).cg (fun k hk => fi _ k (by omega)), v2, v3⟩
  · rw [f2]; exact h4
  · rw [f4]; exact h5
  · rw [f5]; exact h7 j
  · rw [f6]; exact h8 j
  · exact l4.cg (by rw [f4]) f7 (fi _ 2 (by decide)) hc
/-- exps that stand in no list yet: where, what they hold, what is next of them -/
abbrev LoT : Type := List (Nat × XrZ × Option Nat)
def LsX (N : Int → Int) (A : Nat → Nat) (n0 : Nat) (σ : CsC) (z : ZS) (X : LoT) : Prop := (∀ q ∈ X, (n0 ≤ q.1 ∧ q.1 < cnC σ ∧ oprX q.2.1 (xnM z) ∧ ∀ i, i < xnM z → A i ≠ q.1) ∧ XbC A σ q.2.1 q.1 ∧ XiC N σ q.2.1 q.1 ∧ fRC σ q.1 75 = q.2.2) ∧ X.Pairwise (fun a b => a.1 ≠ b.1)
theorem LsX.nil {N : Int → Int} {A : Nat → Nat} {n0 : Nat} {σ : CsC} {z : ZS} : LsX N A n0 σ z [] := ⟨fun q h => absurd h List.not_mem_nil, List.Pairwise.nil⟩
/-- what was loose stays so, while others are read -/
theorem LsX.fz {N : Int → Int} {E A A' B B' V V' : Nat → Nat} {n0 : Nat} {σ τ : CsC} {z z' : ZS} {X : LoT} {m : Nat} (h : LsX N A n0 σ z X) (f : FzC (cnC σ) m E A A' B B' V V' z z' σ τ) : LsX N A' n0 τ z' X := by
  obtain ⟨p3, p4, ⟨⟨p5, p6⟩, p7⟩, -⟩ := f
  refine ⟨fun q hq => ?_, h.2⟩
  obtain ⟨⟨a1, a2, a7, a3⟩, a4, a5, a6⟩ := h.1 q hq
  have ff : ∀ k, 60 ≤ k ∧ k ≤ 77 → fIC τ q.1 k = fIC σ q.1 k ∧ fLC τ q.1 k = fLC σ q.1 k ∧ fRC τ q.1 k = fRC σ q.1 k := fun k hk => p4 q.1 a2 k (by unfold xsF; rw [Nat.ble_eq_true_of_le hk.1, Nat.ble_eq_true_of_le hk.2]; rfl)
  refine ⟨⟨a1, Nat.lt_of_lt_of_le a2 p3, a7.mo p5, fun i hi => ?_⟩, ?_, ?_, (ff 75 (by decide)).2.2.trans a6⟩
  · by_cases c : i < xnM z
    · rw [(p6 i c).1]; exact a3 i c
    · have := (p7 i (by omega) hi).1
      omega
  · exact (a4.ag a7 (fun i hi => (p6 i hi).1)).cg ff
  · exact a5.cg ff
theorem LsX.hd {N : Int → Int} {A : Nat → Nat} {n0 : Nat} {σ : CsC} {z : ZS} {q : Nat × XrZ × Option Nat} {X : LoT} (h : LsX N A n0 σ z (q :: X)) : ((n0 ≤ q.1 ∧ q.1 < cnC σ ∧ oprX q.2.1 (xnM z) ∧ ∀ i, i < xnM z → A i ≠ q.1) ∧ XbC A σ q.2.1 q.1 ∧ XiC N σ q.2.1 q.1 ∧ fRC σ q.1 75 = q.2.2) ∧ LsX N A n0 σ z X ∧ ∀ p ∈ X, p.1 ≠ q.1 := ⟨h.1 q List.mem_cons_self, ⟨fun p hp => h.1 p (List.mem_cons_of_mem _ hp), (List.pairwise_cons.mp h.2).2⟩, fun p hp e => (List.pairwise_cons.mp h.2).1 p hp e.symm⟩
theorem LsX.cn {N : Int → Int} {A : Nat → Nat} {n0 : Nat} {σ : CsC} {z : ZS} {q : Nat × XrZ × Option Nat} {X : LoT} (h : LsX N A n0 σ z X) (hq : (n0 ≤ q.1 ∧ q.1 < cnC σ ∧ oprX q.2.1 (xnM z) ∧ ∀ i, i < xnM z → A i ≠ q.1) ∧ XbC A σ q.2.1 q.1 ∧ XiC N σ q.2.1 q.1 ∧ fRC σ q.1 75 = q.2.2) (hn : ∀ p ∈ X, p.1 ≠ q.1) : LsX N A n0 σ z (q :: X) := ⟨fun p hp => (List.mem_cons.mp hp).elim (fun e => e ▸ hq) (fun m => h.1 p m), List.pairwise_cons.mpr ⟨fun p hp e => hn p hp e.symm, h.2⟩⟩
/-- another object's fields change -/
theorem LsX.xf {N : Int → Int} {A : Nat → Nat} {n0 : Nat} {σ τ : CsC} {z : ZS} {X : LoT} (h : LsX N A n0 σ z X) (f : ∀ q ∈ X, ∀ k, fIC τ q.1 k = fIC σ q.1 k ∧ fLC τ q.1 k = fLC σ q.1 k ∧ fRC τ q.1 k = fRC σ q.1 k) (hc : cnC σ ≤ cnC τ) : LsX N A n0 τ z X := ⟨fun q hq => by
  obtain ⟨⟨a1, a2, a7, a3⟩, a4, a5, a6⟩ := h.1 q hq
  exact ⟨⟨a1, Nat.lt_of_lt_of_le a2 hc, a7, a3⟩, a4.cg (fun k _ => f q hq k), a5.cg (fun k _ => f q hq k), (f q hq 75).2.2.trans a6⟩, h.2⟩
def upA (A : Nat → Nat) (i o : Nat) : Nat → Nat := fun j => if j = i then o else A j
theorem upA_e {A : Nat → Nat} {i o : Nat} : upA A i o i = o := if_pos rfl
theorem upA_n {A : Nat → Nat} {i o j : Nat} (h : j ≠ i) : upA A i o j = A j := if_neg h
/-- an exp comes into the list -/
def PuX (E : Nat → Nat) (o : Nat) (σ τ : CsC) : Prop := cnC σ ≤ cnC τ ∧ (∀ a, a < cnC σ → ∀ k, (a ≠ o ∨ (k ≠ 64 ∧ k ≠ 65)) → 3 ≤ k ∧ k < 900 → fIC τ a k = fIC σ a k ∧ fLC τ a k = fLC σ a k ∧ fRC τ a k = fRC σ a k) ∧ (∀ a, a < cnC σ → eIC τ a = eIC σ a ∧ eLC τ a = eLC σ a)
theorem ZC.pu {N : Int → Int} {E A B V : Nat → Nat} {σ τ : CsC} {z : ZS} {x : XrZ} {o : Nat} (h : ZC N E A B V σ z) (f : PuX E o σ τ) (hl : (o < cnC σ ∧ oprX x (xnM z) ∧ ∀ i, i < xnM z → A i ≠ o) ∧ XbC A σ x o ∧ XiC N σ x o) (e4 : (fIC τ o 64).toInt = x.1.2.2.2) (e5 : (fIC τ o 65).toInt = (xnM z : Int)) (l1 : LiC τ (E 213) (xnM z + 1) (upA A (xnM z) o)) (l2 : LiC τ (E 214) (snM z) B) (l3 : LiC τ (E 212) (zVs z.1).length V) (l4 : LiC τ (E 211) (zMs z.1).length (fun k => E (1000 + k))) (ha : (∀ a ∈ x.2.2.2, x.2.2.1.1 ≤ a ∧ 0 ≤ a ∧ a < (xnM z : Int)) ∧ ChC A σ x.2.2.2) : ZC N E (upA A (xnM z) o) B V τ (puM x z) := by
  obtain ⟨h1, ⟨⟨h2, h3⟩, h4, h5, h6⟩, ⟨h7, h8⟩, ⟨m1, m2, m3, m4⟩, ⟨x1, x2⟩, ⟨s1, s2⟩, v1, v2, v3⟩ := h
  obtain ⟨f0, f1, f2⟩ := f
  obtain ⟨⟨o1, o2, o3⟩, o4, o5⟩ := hl
  have ua : ∀ i, i < xnM z → upA A (xnM z) o i = A i := fun i hi => upA_n (by omega)
  have n0 := h1.2.2.2.1.1
  have n302 := h1.2.2.2.2.2.1.1
  have n304 := h1.2.2.2.2.2.1.2.2
  refine ⟨h1.cg (fun a k ha hk => (f1 a ha k (Or.inr (by omega)) (by omega)).2.2) f0, ⟨⟨?_, ?_⟩, ?_, ?_, h6⟩, ⟨fun j => ?_, fun j => ?_⟩, ⟨l1, l2, l3, l4⟩, ⟨fun i hi => ?_, fun i hi => ?_⟩, ⟨fun j hj => ?_, s2⟩, fun v hv => (v1 v hv).cg (fun k hk => (f1 _ (m3.2 v hv).2 k (Or.inr (by omega)) (by omega)).1), v2, v3⟩
  · rw [(f1 _ n0 242 (Or.inr (by decide)) (by decide)).1]; exact h2
  · rw [(f1 _ n0 243 (Or.inr (by decide)) (by decide)).1]; exact h3
  · rw [(f1 _ n0 245 (Or.inr (by decide)) (by decide)).2.1]; exact h4
  · rw [(f1 _ n0 246 (Or.inr (by decide)) (by decide)).2.2]; exact h5
  · rw [(f2 _ n302).1]; exact h7 j
  · rw [(f2 _ n304).2]; exact h8 j
  · have hi : i < xnM z + 1 := hi
    by_cases c : i < xnM z
    · rw [ua i c, xth_o c]
      have ha : A i < cnC σ := (m1.2 i c).2
      have hn : A i ≠ o := o3 i c
      obtain ⟨q, qo⟩ := x1 i c
      exact ⟨⟨(q.1.ag qo ua).cg (fun k hk => f1 _ ha k (Or.inl hn) (by omega)), q.2.1.cg (fun k hk => f1 _ ha k (Or.inl hn) (by omega)), by rw [(f1 _ ha 64 (Or.inl hn) (by decide)).1]; exact q.2.2.1, by rw [(f1 _ ha 65 (Or.inl hn) (by decide)).1]; exact q.2.2.2⟩, qo.mo (Nat.le_succ _)⟩
    · obtain rfl : i = xnM z := by omega
      rw [upA_e, xth_n]
      have g : ∀ k, 60 ≤ k ∧ k ≤ 77 → k ≠ 64 → k ≠ 65 → fIC τ o k = fIC σ o k ∧ fLC τ o k = fLC σ o k ∧ fRC τ o k = fRC σ o k := fun k hk a b => f1 o o1 k (Or.inr ⟨a, b⟩) (by omega)
      refine ⟨⟨?_, ?_, e4, e5⟩, o2.mo (Nat.le_succ _)⟩
      · have q := o4.ag o2 ua
        unfold XbC at *
        rw [(g 60 (by decide) (by decide) (by decide)).1, (g 61 (by decide) (by decide) (by decide)).1, (g 62 (by decide) (by decide) (by decide)).1, (g 63 (by decide) (by decide) (by decide)).1, (g 66 (by decide) (by decide) (by decide)).1, (g 67 (by decide) (by decide) (by decide)).1, (g 69 (by decide) (by decide) (by decide)).1, (g 72 (by decide) (by decide) (by decide)).2.2, (g 73 (by decide) (by decide) (by decide)).2.2, (g 74 (by decide) (by decide) (by decide)).2.2, (g 76 (by decide) (by decide) (by decide)).2.2]
        exact q
      · unfold XiC at *
        rw [(g 68 (by decide) (by decide) (by decide)).1, (g 70 (by decide) (by decide) (by decide)).1, (g 71 (by decide) (by decide) (by decide)).2.1]
        exact o5
  · have hi : i < xnM z + 1 := hi
    have fc : ∀ l : List Int, (∀ a ∈ l, 0 ≤ a ∧ a < (xnM z : Int)) → ChC A σ l → ChC (upA A (xnM z) o) τ l := by
      intro l hl hc
      refine ChC.ua (fun a ha => ua a.toNat (by have := hl a ha; omega)) (ChC.cg (fun a ha => ?_) hc)
      have q := hl a ha
      exact (f1 _ (m1.2 a.toNat (by omega)).2 75 (Or.inl (o3 _ (by omega))) (by decide)).2.2
    by_cases c : i < xnM z
    · rw [xth_o c]
      have q := x2 i c
      exact ⟨q.1, fc _ (fun a ha => by have := q.1 a ha; omega) q.2⟩
    · obtain rfl : i = xnM z := by omega
      rw [xth_n]
      exact ⟨ha.1, fc _ (fun a h9 => by have := ha.1 a h9; omega) ha.2⟩
  · exact ⟨((s1 j hj).1.ag (s1 j hj).2 ua (fun _ _ => rfl)).cg (fun k hk => f1 _ (m2.2 j hj).2 k (Or.inr (by omega)) (by omega)), (s1 j hj).2.mo (Nat.le_succ _) (Nat.le_refl _)⟩
/-- one object alone, and lists -/
def PoX (o : Nat) (σ τ : CsC) : Prop := cnC σ ≤ cnC τ ∧ (∀ a, a < cnC σ → a ≠ o → ∀ k, 3 ≤ k ∧ k < 900 → fIC τ a k = fIC σ a k ∧ fLC τ a k = fLC σ a k ∧ fRC τ a k = fRC σ a k) ∧ (∀ a, a < cnC σ → eIC τ a = eIC σ a ∧ eLC τ a = eLC σ a)
theorem PuX.po {E : Nat → Nat} {o : Nat} {σ τ : CsC} (h : PuX E o σ τ) : PoX o σ τ := ⟨h.1, fun a ha hn k hk => h.2.1 a ha k (Or.inl hn) hk, h.2.2⟩
theorem PoX.tr {o : Nat} {σ τ υ : CsC} (h : PoX o σ τ) (g : PoX o τ υ) : PoX o σ υ := ⟨Nat.le_trans h.1 g.1, fun a ha hn k hk => by
  have p := h.2.1 a ha hn k hk
  have q := g.2.1 a (Nat.lt_of_lt_of_le ha h.1) hn k hk
  exact ⟨q.1.trans p.1, q.2.1.trans p.2.1, q.2.2.trans p.2.2⟩, fun a ha => by
  have p := h.2.2 a ha
  have q := g.2.2 a (Nat.lt_of_lt_of_le ha h.1)
  exact ⟨q.1.trans p.1, q.2.trans p.2⟩⟩
theorem PoX.pI {o k : Nat} {v : Int32} {σ : CsC} : PoX o σ (pIC σ o k v) := ⟨Nat.le_refl _, fun a _ hn j _ => ⟨u2C_na hn, rfl, rfl⟩, fun _ _ => ⟨rfl, rfl⟩⟩
theorem PoX.pL {o k : Nat} {v : Int64} {σ : CsC} : PoX o σ (pLC σ o k v) := ⟨Nat.le_refl _, fun a _ hn j _ => ⟨rfl, u2C_na hn, rfl⟩, fun _ _ => ⟨rfl, rfl⟩⟩
theorem PoX.pR {o k : Nat} {v : Option Nat} {σ : CsC} : PoX o σ (pRC σ o k v) := ⟨Nat.le_refl _, fun a _ hn j _ => ⟨rfl, rfl, u2C_na hn⟩, fun _ _ => ⟨rfl, rfl⟩⟩
theorem FzC.pu {n m : Nat} {E A B V : Nat → Nat} {z : ZS} {x : XrZ} {o : Nat} {σ τ : CsC} (f : PoX o σ τ) (hn : n ≤ o) (hc : n ≤ cnC σ) (hm : (m : Int) ≤ x.2.2.1.1) (h3 : E 303 < cnC σ) : FzC n m E A (upA A (xnM z) o) B B V V z (puM x z) σ τ := by
  obtain ⟨f0, f1, f2⟩ := f
  refine ⟨f0, fun a ha k hk => f1 a (by omega) (by omega) k (by have := xsF_r hk; omega), ⟨⟨Nat.le_succ _, fun i hi => ⟨upA_n (by omega), xth_o hi⟩⟩, fun i h1 h2 => ?_⟩, ⟨⟨Nat.le_refl _, fun _ _ => ⟨rfl, rfl, rfl⟩⟩, fun i h1 h2 => absurd h2 (Nat.not_lt.mpr h1)⟩, ⟨Nat.le_refl _, fun _ _ => ⟨rfl, rfl⟩⟩, Int.le_refl _, fun j _ => by rw [(f2 _ h3).1]⟩
  have h2 : i < xnM z + 1 := h2
  obtain rfl : i = xnM z := by omega
  rw [upA_e, xth_n]
  exact ⟨hn, hm⟩
theorem LsX.pu {N : Int → Int} {A : Nat → Nat} {n0 : Nat} {σ τ : CsC} {z : ZS} {x : XrZ} {o : Nat} {X : LoT} (h : LsX N A n0 σ z X) (f : PoX o σ τ) (hn : ∀ q ∈ X, q.1 ≠ o) : LsX N (upA A (xnM z) o) n0 τ (puM x z) X := by
  obtain ⟨f0, f1, f2⟩ := f
  refine ⟨fun q hq => ?_, h.2⟩
  obtain ⟨⟨a1, a2, a7, a3⟩, a4, a5, a6⟩ := h.1 q hq
  have ff : ∀ k, 60 ≤ k ∧ k ≤ 77 → fIC τ q.1 k = fIC σ q.1 k ∧ fLC τ q.1 k = fLC σ q.1 k ∧ fRC τ q.1 k = fRC σ q.1 k := fun k hk => f1 q.1 a2 (hn q hq) k (by omega)
  refine ⟨⟨a1, Nat.lt_of_lt_of_le a2 f0, a7.mo (Nat.le_succ _), fun i hi => ?_⟩, (a4.ag a7 (fun i hi => upA_n (by omega))).cg ff, a5.cg ff, (ff 75 (by decide)).2.2.trans a6⟩
  have hi : i < xnM z + 1 := hi
  by_cases c : i = xnM z
  · rw [c, upA_e]; exact fun e => hn q hq e.symm
  · rw [upA_n c]; exact a3 i (by omega)
theorem EnC.ls {E : Nat → Nat} {σ : CsC} (h : EnC E σ) (H : HI0 σ) (t : TyC σ (E 0) 8) : (tgC σ (E 211) = 0 ∧ tgC σ (E 212) = 0 ∧ tgC σ (E 213) = 0 ∧ tgC σ (E 214) = 0) ∧ (E 211 ≠ E 212 ∧ E 211 ≠ E 213 ∧ E 211 ≠ E 214) ∧ (E 212 ≠ E 213 ∧ E 212 ≠ E 214) ∧ E 213 ≠ E 214 := by
  obtain ⟨⟨a1, a2⟩, ⟨b1, b2, b3, b4⟩, -⟩ := h
  obtain ⟨q, -, e, tq⟩ := cg240 H t
  obtain rfl : E 1 = q := Option.some.inj (a1.symm.trans e)
  obtain ⟨c1, -, e1, t1, g1⟩ := cg211 H tq
  obtain ⟨c2, -, e2, t2, g2⟩ := cg212 H tq
  obtain ⟨c3, -, e3, t3, g3⟩ := cg213 H tq
  obtain ⟨c4, -, e4, t4, g4⟩ := cg214 H tq
  obtain rfl : E 211 = c1 := Option.some.inj (b1.symm.trans e1)
  obtain rfl : E 212 = c2 := Option.some.inj (b2.symm.trans e2)
  obtain rfl : E 213 = c3 := Option.some.inj (b3.symm.trans e3)
  obtain rfl : E 214 = c4 := Option.some.inj (b4.symm.trans e4)
  refine ⟨⟨t1.2.1, t2.2.1, t3.2.1, t4.2.1⟩, ⟨fun q => ?_, fun q => ?_, fun q => ?_⟩, ⟨fun q => ?_, fun q => ?_⟩, fun q => ?_⟩
  · rw [q, g2] at g1; cases g1
  · rw [q, g3] at g1; cases g1
  · rw [q, g4] at g1; cases g1
  · rw [q, g3] at g2; cases g2
  · rw [q, g4] at g2; cases g2
  · rw [q, g4] at g3; cases g3
/-- the latest exp changes -/
theorem ZC.tp {N : Int → Int} {E A B V : Nat → Nat} {σ τ : CsC} {z : ZS} {x x' : XrZ} {l : List ItZ} (h : ZC N E A B V σ z) (ez : z.2.1 = .inl x :: l) (f : XfE σ τ) (hA : ∀ i, i < xcZ l → ∀ k, fIC τ (A i) k = fIC σ (A i) k ∧ fLC τ (A i) k = fLC σ (A i) k ∧ fRC τ (A i) k = fRC σ (A i) k) (hx : XoC N A τ x' (xcZ l) (A (xcZ l)) ∧ oprX x' (xcZ l + 1)) (ha : x'.2.2.2 = x.2.2.2 ∧ x'.2.2.1.1 = x.2.2.1.1) : ZC N E A B V τ (z.1, .inl x' :: l, z.2.2) := by
  obtain ⟨zs, it, zr⟩ := z
  cases ez
  obtain ⟨h1, ⟨⟨h2, h3⟩, h4, h5, h6⟩, ⟨h7, h8⟩, ⟨l1, l2, l3, l4⟩, ⟨x1, x2⟩, ⟨s1, s2⟩, v1, v2, v3⟩ := h
  obtain ⟨f1, ⟨f2, f3, f4⟩, f5⟩ := f
  have hc : cnC σ ≤ cnC τ := Nat.le_of_eq f5.symm
  have old : ∀ i, i < xcZ l → xth (zs, .inl x' :: l, zr) i = xth (zs, .inl x :: l, zr) i := fun i hi => (if_neg (Nat.ne_of_lt hi)).trans (if_neg (Nat.ne_of_lt hi)).symm
  have n1 : xth (zs, .inl x' :: l, zr) (xcZ l) = x' := if_pos rfl
  have n2 : xth (zs, .inl x :: l, zr) (xcZ l) = x := if_pos rfl
  have chn : ∀ q : List Int, (∀ a ∈ q, 0 ≤ a ∧ a < (xcZ l : Int)) → ChC A σ q → ChC A τ q := fun q hq hh => ChC.cg (fun a ha => (hA a.toNat (by have := hq a ha; omega) 75).2.2) hh
  refine ⟨h1.cg (fun a k _ hk => (f1 a k (by omega)).2.2) hc, ⟨⟨?_, ?_⟩, ?_, ?_, h6⟩, ⟨fun j => ?_, fun j => ?_⟩, ⟨l1.cg (f1 _ 1 (by decide)).2.2 f4 (f1 _ 2 (by decide)).1 hc, l2.cg (f1 _ 1 (by decide)).2.2 f4 (f1 _ 2 (by decide)).1 hc, l3.cg (f1 _ 1 (by decide)).2.2 f4 (f1 _ 2 (by decide)).1 hc, ?_⟩, ⟨fun i hi => ?_, fun i hi => ?_⟩, ⟨fun j hj => ⟨(s1 j hj).1.cg (fun k hk => f1 _ k (by omega)), (s1 j hj).2⟩, s2⟩, fun v hv => (v1 v hv).cg (fun k hk => (f1 _ k (by omega)).1), v2, v3⟩
  · rw [(f1 _ 242 (by decide)).1]; exact h2
  · rw [(f1 _ 243 (by decide)).1]; exact h3
  · rw [(f1 _ 245 (by decide)).2.1]; exact h4
  · rw [(f1 _ 246 (by decide)).2.2]; exact h5
  · rw [f2]; exact h7 j
  · rw [f3]; exact h8 j
  · exact l4.cg (f1 _ 1 (by decide)).2.2 f4 (f1 _ 2 (by decide)).1 hc
  · have hi : i < xcZ l + 1 := hi
    by_cases c : i < xcZ l
    · rw [old i c]
      exact ⟨(x1 i hi).1.cg (fun k _ => hA i c k), (x1 i hi).2⟩
    · obtain rfl : i = xcZ l := by omega
      rw [n1]
      exact hx
  · have hi : i < xcZ l + 1 := hi
    by_cases c : i < xcZ l
    · rw [old i c]
      have q := x2 i hi
      exact ⟨q.1, chn _ (fun a ha => by have := q.1 a ha; omega) q.2⟩
    · obtain rfl : i = xcZ l := by omega
      have q := x2 (xcZ l) hi
      rw [n2] at q
      rw [n1, ha.1, ha.2]
      exact ⟨q.1, chn _ (fun a ha => by have := q.1 a ha; omega) q.2⟩

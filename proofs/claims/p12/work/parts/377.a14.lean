/-! the reference's tables along the codes -/
def ycZ : List ItZ → Nat
  | [] => 0
  | .inl x :: l => if x.1.1 ≤ 10 then ycZ l + 1 else ycZ l
  | .inr _ :: l => ycZ l
/-- methods that have ended -/
def mdZ : List ItZ → Nat
  | [] => 0
  | .inl _ :: l => mdZ l
  | .inr y :: l => if y.1 = 54 then mdZ l + 1 else mdZ l
/-- NAMES: that stand open: thing, token -/
def lbZ : List ItZ → List (Int × Int)
  | [] => []
  | .inl _ :: l => lbZ l
  | .inr y :: l => if y.1 = 41 then (y.2.1, y.2.2.2.1) :: lbZ l else if y.1 = 42 then (lbZ l).tail else lbZ l
/-- the exp of the switch that thing k is; the code of its default -/
def swZ (k : Int) : List ItZ → Int
  | [] => -1
  | .inl _ :: l => swZ k l
  | .inr y :: l => if y.1 = 37 ∧ y.2.1 = k then y.2.2.2.2 else swZ k l
def dfZ (k : Int) : List ItZ → Int
  | [] => -2
  | .inl _ :: l => dfZ k l
  | .inr y :: l => if y.1 = 39 ∧ y.2.1 = k then (l.length : Int) else dfZ k l
/-- what NAMES mean; kd: kinds of tokens -/
def meZ (b kd : Nat → Int) (T : TbT) : List ItZ → Nat → Int
  | [], q => b q
  | .inl x :: l, q => if (x.1.1 = 2 ∨ x.1.1 = 6 ∨ x.1.1 = 9) ∧ (q : Int) = x.2.1.1 then x.2.1.2.1 else if x.1.1 = 10 ∧ (q : Int) = x.2.1.1 then 100 + (T.1 (xcZ l)).2.2.2 else meZ b kd T l q
  | .inr y :: l, q => if (y.1 = 41 ∨ ((y.1 = 46 ∨ y.1 = 47) ∧ kd y.2.2.2.1.toNat = 1)) ∧ (q : Int) = y.2.2.2.1 then 200 else meZ b kd T l q
/-- what a code of an S asks -/
def okS (C : CxT) (N : Int → Int) (T : TbT) (l : List ItZ) (y : Int × Int × Int × Int × Int) : Prop :=
  (y.1 = 21 → ¬ y.2.1 = 0) ∧ ((y.1 = 23 ∨ y.1 = 27 ∨ y.1 = 31 ∨ (y.1 = 33 ∧ ¬ y.2.2.1 = 0)) → (opT T y.2.2.2.2).1 = 0) ∧ (y.1 = 37 → 1 ≤ (opT T y.2.2.2.2).1 ∧ (opT T y.2.2.2.2).1 ≤ 3) ∧
  (y.1 = 38 → (¬ (opT T y.2.2.2.2).2.1 = 0 ∧ ftT (opT T y.2.2.2.2) (opT T (swZ y.2.1 l)).1) ∧ ∀ o x, itN l o = some (.inr x) → x.1 = 38 → x.2.1 = y.2.1 → ¬ (opT T x.2.2.2.2).2.2.1 = (opT T y.2.2.2.2).2.2.1) ∧
  (y.1 = 39 → dfZ y.2.1 l < 0) ∧ (y.1 = 41 → ∀ p ∈ lbZ l, ¬ N p.2 = N y.2.2.2.1) ∧ (y.1 = 46 ∨ y.1 = 47 → 0 ≤ y.2.1) ∧
  (y.1 = 48 → (y.2.1 = 0 → mtyT C (mdZ l) = 5) ∧ (¬ y.2.1 = 0 → ¬ mtyT C (mdZ l) = 5 ∧ ftT (opT T y.2.2.2.2) (mtyT C (mdZ l)))) ∧ (y.1 = 49 → ftT (opT T y.2.2.2.2) 3)
/-- none is told along these codes, and the tables are T -/
def OkL (C : CxT) (N : Int → Int) (T0 : TbT) : List ItZ → TbT → Prop
  | [], T => T = T0
  | .inl x :: l, T => ∃ U, OkL C N T0 l U ∧ stT C U (xcZ l) x = some T
  | .inr y :: l, T => OkL C N T0 l T ∧ okS C N T l y
theorem okl_un {C : CxT} {N : Int → Int} {T0 : TbT} : ∀ {l : List ItZ} {T U : TbT}, OkL C N T0 l T → OkL C N T0 l U → T = U := by
  intro l
  induction l with
  | nil => intro T U h g; rw [h, g]
  | cons x l ih =>
    intro T U h g
    cases x with
    | inl x =>
      obtain ⟨A, a1, a2⟩ := h
      obtain ⟨B, b1, b2⟩ := g
      rw [ih a1 b1, b2] at a2
      exact (Option.some.inj a2).symm
    | inr y => exact ih h.1 g.1
/-! the pile -/
theorem sk_un : ∀ {l : List ItZ} {S U : List Int}, SkP l S → SkP l U → S = U := by
  intro l
  induction l with
  | nil => intro S U h g; rw [h, g]
  | cons x l ih =>
    intro S U h g
    obtain ⟨A, a1, a2⟩ := h
    obtain ⟨B, b1, b2⟩ := g
    rw [a1, b1, List.append_cancel_left (ih a2 b2)]
theorem sk_rg : ∀ {l : List ItZ} {S : List Int}, SkP l S → ∀ q ∈ S, 0 ≤ q ∧ q < (xcZ l : Int) := by
  intro l
  induction l with
  | nil => intro S h q hq; rw [h] at hq; cases hq
  | cons x l ih =>
    intro S h q hq
    obtain ⟨A, a1, a2⟩ := h
    have r := ih a2
    rw [a1] at hq
    have m : (xcZ l : Int) ≤ (xcZ (x :: l) : Int) := by
      cases x with
      | inl x => show (xcZ l : Int) ≤ ((xcZ l + 1 : Nat) : Int); omega
      | inr y => exact Int.le_refl _
    rcases List.mem_append.mp hq with hq | hq
    · cases x with
      | inl x =>
        have hq : q ∈ (if x.1.1 ≤ 10 then [(xcZ l : Int)] else []) := hq
        split at hq
        · have e : q = (xcZ l : Int) := by simpa using hq
          rw [e]
          show 0 ≤ (xcZ l : Int) ∧ (xcZ l : Int) < ((xcZ l + 1 : Nat) : Int)
          omega
        · cases hq
      | inr y => cases hq
    · have := r q (List.mem_append_right _ hq)
      omega
theorem sk_sf {l l' : List ItZ} {S : List Int} (h : SkP l S) (hs : l' <:+ l) : ∃ U, SkP l' U := by
  obtain ⟨t, rfl⟩ := hs
  induction t generalizing S with
  | nil => exact ⟨S, h⟩
  | cons x t ih =>
    obtain ⟨A, a1, a2⟩ := h
    exact ih a2
theorem sk_len : ∀ {l : List ItZ} {S : List Int}, SkP l S → S.length ≤ xcZ l := by
  intro l
  induction l with
  | nil => intro S h; rw [h]; exact Nat.le_refl _
  | cons x l ih =>
    intro S h
    obtain ⟨A, a1, a2⟩ := h
    have r := ih a2
    rw [a1, List.length_append]
    rw [List.length_append] at r
    cases x with
    | inl x =>
      show (if x.1.1 ≤ 10 then [(xcZ l : Int)] else []).length + A.length ≤ xcZ l + 1
      split
      · show 1 + A.length ≤ _; omega
      · show 0 + A.length ≤ _; omega
    | inr y => show 0 + A.length ≤ xcZ l; omega
theorem xc_len : ∀ {l : List ItZ}, xcZ l ≤ l.length := by
  intro l
  induction l with
  | nil => exact Nat.le_refl _
  | cons x l ih =>
    rw [List.length_cons]
    cases x with
    | inl x => show xcZ l + 1 ≤ _; omega
    | inr y => show xcZ l ≤ _; omega
theorem yc_xc : ∀ {l : List ItZ}, ycZ l ≤ xcZ l := by
  intro l
  induction l with
  | nil => exact Nat.le_refl _
  | cons x l ih =>
    cases x with
    | inl x => show (if x.1.1 ≤ 10 then ycZ l + 1 else ycZ l) ≤ xcZ l + 1; split <;> omega
    | inr y => exact ih
/-! frames -/
def bJ (k : Nat) : Bool := k == 59 || k == 70 || k == 71 || k == 73 || (Nat.ble 75 k && Nat.ble k 78) || (Nat.ble 80 k && Nat.ble k 84) || k == 86 || k == 88 || k == 90
def JfR (σ0 σ : RS) : Prop := (∀ k, k ≠ 66 → k ≠ 67 → k ≠ 69 → k ≠ 74 → k ≠ 89 → k ≠ 91 → gI σ k = gI σ0 k) ∧ gL σ = gL σ0 ∧ (∀ k, bJ k = false → aI σ k = aI σ0 k) ∧ ∀ k, k ≠ 72 → k ≠ 79 → k ≠ 85 → k ≠ 87 → aL σ k = aL σ0 k
theorem JfR.rf {σ : RS} : JfR σ σ := ⟨fun _ _ _ _ _ _ _ => rfl, rfl, fun _ _ => rfl, fun _ _ _ _ _ => rfl⟩
theorem JfR.i {σ0 σ : RS} {k : Nat} {v : Int32} (h : JfR σ0 σ) (hk : k = 66 ∨ k = 67 ∨ k = 69 ∨ k = 74 ∨ k = 89 ∨ k = 91) : JfR σ0 (sI σ k v) := ⟨fun j a b c d e f => (by rw [gI_sI, nb_ne (by omega)] : gI (sI σ k v) j = gI σ j).trans (h.1 j a b c d e f), h.2.1, h.2.2.1, h.2.2.2⟩
theorem JfR.a {σ0 σ : RS} {k : Nat} {f : Nat → Int32} (h : JfR σ0 σ) (hk : bJ k = true) : JfR σ0 (sA σ k f) := ⟨h.1, h.2.1, fun j hj => (aI_ne (fun q => by rw [q, hk] at hj; cases hj)).trans (h.2.2.1 j hj), h.2.2.2⟩
theorem JfR.m {σ0 σ : RS} {k : Nat} {f : Nat → Int64} (h : JfR σ0 σ) (hk : k = 72 ∨ k = 79 ∨ k = 85 ∨ k = 87) : JfR σ0 (sM σ k f) := ⟨h.1, h.2.1, h.2.2.1, fun j a b c d => (mL_ne (by omega)).trans (h.2.2.2 j a b c d)⟩
theorem JfR.lie {σ0 σ : RS} {c ty su : Int32} {v : Int64} (h : JfR σ0 σ) : JfR σ0 (lieS σ c ty su v) := by
  unfold lieS
  exact (((((((((((((h.a rfl).a rfl).m (by omega)).a rfl).i (by omega)).a rfl).a rfl).m (by omega)).a rfl).a rfl).a rfl).a rfl).m (by omega)).i (by omega)
theorem JfR.fj {σ0 σ σ1 : RS} {k : Int32} (h : JfR σ0 σ) (f : FrJ σ σ1 k) : JfR σ0 σ1 := ⟨fun j a b c d e g => (f.2.1 j c).trans (h.1 j a b c d e g), f.2.2.1.trans h.2.1, fun j hj => (f.2.2.2.2 j (fun q => by rw [q] at hj; cases hj) (fun q => by rw [q] at hj; cases hj) (fun q => by rw [q] at hj; cases hj)).trans (h.2.2.1 j hj), fun j a b c d => by rw [f.2.2.2.1]; exact h.2.2.2 j a b c d⟩
/-! tables -/
def TaZ (n : Nat) (T U : TbT) : Prop := ∀ q, q < n → U.1 q = T.1 q
theorem ta_op {n : Nat} {T U : TbT} {q : Int} (h : TaZ n T U) (h0 : 0 ≤ q) (h1 : q < (n : Int)) : opT U q = opT T q := h _ (by omega)
theorem st_ta {C : CxT} {T U : TbT} {i : Nat} {x : XrZ} (h : stT C T i x = some U) : TaZ i T U := by
  unfold stT at h
  cases e : exT C T i x with
  | none => rw [e] at h; cases h
  | some r =>
    rw [e] at h
    cases h
    intro q hq
    exact if_neg (by omega)
theorem st_i {C : CxT} {T U : TbT} {i : Nat} {x : XrZ} (h : stT C T i x = some U) : exT C T i x = some (U.1 i) ∧ U.2 = vrT C T x := by
  unfold stT at h
  cases e : exT C T i x with
  | none => rw [e] at h; cases h
  | some r =>
    rw [e] at h
    cases h
    exact ⟨congrArg some (if_pos rfl).symm, rfl⟩
/-- the pile shows the tables of S -/
def JsR (σ : RS) (T : TbT) (S : List Int) : Prop := (gI σ 69).toInt = (S.length : Int) ∧ ∀ (i : Nat) (q : Int), S[i]? = some q → TeR σ (S.length - 1 - i) (opT T q)
def xeR (σ : RS) (T : TbT) (p q : Nat) (x : XrZ) : Prop := (aI σ 75 p).toInt = x.1.2.2.1 ∧ (aI σ 76 p).toInt = x.1.2.2.2 ∧ ShT (aI σ 77 p) (aI σ 78 p) (aL σ 79 p) (T.1 q)
def ceR (σ : RS) (T : TbT) (c q : Nat) (x : XrZ) : Prop := ShT (aI σ 81 c) (aI σ 84 c) (aL σ 85 c) (T.1 q) ∧
  (x.1.1 = 4 ∨ x.1.1 = 8 → (aI σ 82 c).toInt = (T.1 q).1) ∧ ((x.1.1 = 7 ∧ 22 ≤ x.1.2.1) ∨ (x.1.1 = 9 ∧ ¬ x.1.2.1 = 8) → (aI σ 82 c).toInt = (T.1 q).2.2.2) ∧
  (x.1.1 = 2 ∨ x.1.1 = 6 ∨ x.1.1 = 9 → (aI σ 83 c).toInt = x.2.1.2.1) ∧ (x.1.1 = 10 → (aI σ 83 c).toInt = (T.1 q).2.2.2)
def keR (σ : RS) (T : TbT) (c : Nat) (y : Int × Int × Int × Int × Int) : Prop :=
  ((y.1 = 23 ∨ y.1 = 27 ∨ y.1 = 31 ∨ (y.1 = 33 ∧ ¬ y.2.2.1 = 0)) → (¬ aI σ 84 c = 0 ↔ ((opT T y.2.2.2.2).1 = 0 ∧ ¬ (opT T y.2.2.2.2).2.1 = 0)) ∧ (¬ (opT T y.2.2.2.2).2.1 = 0 → aL σ 85 c = (opT T y.2.2.2.2).2.2.1)) ∧
  (y.1 = 33 ∧ y.2.2.1 = 0 → aI σ 84 c = 1 ∧ aL σ 85 c = 1) ∧ (y.1 = 38 → aI σ 84 c = 1 ∧ aL σ 85 c = (opT T y.2.2.2.2).2.2.1) ∧ (y.1 = 21 → (aI σ 82 c).toInt = (opT T y.2.2.2.2).1)
/-- whether a code takes an exp -/
def tkO (y : Int × Int × Int × Int × Int) : Prop := y.1 = 21 ∨ y.1 = 23 ∨ y.1 = 27 ∨ y.1 = 31 ∨ (y.1 = 33 ∧ ¬ y.2.2.1 = 0) ∨ y.1 = 37 ∨ y.1 = 38 ∨ (y.1 = 48 ∧ ¬ y.2.1 = 0) ∨ y.1 = 49
def JtR (σ : RS) (T : TbT) : List ItZ → Prop
  | [] => True
  | .inl x :: l => (x.1.1 ≤ 10 → xeR σ T (ycZ l) (xcZ l) x ∧ ceR σ T l.length (xcZ l) x) ∧ JtR σ T l
  | .inr y :: l => ((tkO y → 0 ≤ y.2.2.2.2 ∧ y.2.2.2.2 < (xcZ l : Int)) ∧ keR σ T l.length y) ∧ JtR σ T l
theorem JtR.fr {σ τ : RS} {T U : TbT} : ∀ {l : List ItZ}, JtR σ T l → TaZ (xcZ l) T U → (∀ p, p < ycZ l → aI τ 75 p = aI σ 75 p ∧ aI τ 76 p = aI σ 76 p ∧ aI τ 77 p = aI σ 77 p ∧ aI τ 78 p = aI σ 78 p ∧ aL τ 79 p = aL σ 79 p) → (∀ c, c < l.length → aI τ 81 c = aI σ 81 c ∧ aI τ 82 c = aI σ 82 c ∧ aI τ 83 c = aI σ 83 c ∧ aI τ 84 c = aI σ 84 c ∧ aL τ 85 c = aL σ 85 c) → JtR τ U l := by
  intro l
  induction l with
  | nil => intro _ _ _ _; trivial
  | cons x l ih =>
    intro h ta hx hc
    have c := hc l.length (by rw [List.length_cons]; omega)
    have hc' : ∀ c, c < l.length → aI τ 81 c = aI σ 81 c ∧ aI τ 82 c = aI σ 82 c ∧ aI τ 83 c = aI σ 83 c ∧ aI τ 84 c = aI σ 84 c ∧ aL τ 85 c = aL σ 85 c := fun c q => hc c (by rw [List.length_cons]; omega)
    cases x with
    | inl x =>
      have ta' : TaZ (xcZ l) T U := fun q hq => ta q (by show q < xcZ l + 1; omega)
      refine ⟨fun hk => ?_, ih h.2 ta' (fun p hp => hx p (by show p < if x.1.1 ≤ 10 then ycZ l + 1 else ycZ l; split <;> omega)) hc'⟩
      have e := hx (ycZ l) (by show ycZ l < if x.1.1 ≤ 10 then ycZ l + 1 else ycZ l; rw [if_pos hk]; omega)
      have t := ta (xcZ l) (by show xcZ l < xcZ l + 1; omega)
      obtain ⟨a, b⟩ := h.1 hk
      unfold xeR ceR at *
      rw [e.1, e.2.1, e.2.2.1, e.2.2.2.1, e.2.2.2.2, c.1, c.2.1, c.2.2.1, c.2.2.2.1, c.2.2.2.2, t]
      exact ⟨a, b⟩
    | inr y =>
      refine ⟨⟨h.1.1, ?_⟩, ih h.2 ta hx hc'⟩
      have k := h.1.2
      unfold keR at *
      rw [c.2.1, c.2.2.2.1, c.2.2.2.2]
      by_cases q : tkO y
      · have r := h.1.1 q
        rw [ta_op ta r.1 r.2]
        exact k
      · unfold tkO at q
        exact ⟨fun z => absurd z (by omega), k.2.1, fun z => absurd z (by omega), fun z => absurd z (by omega)⟩
/-- variables' CONSTANTS -/
def JvR (σ : RS) (C : CxT) (T : TbT) : Prop := ∀ v : Nat, v < C.2.2.1 → (¬ aI σ 86 v = 0 ↔ ¬ (T.2 v).1 = 0) ∧ (¬ (T.2 v).1 = 0 → aL σ 87 v = (T.2 v).2 ∧ ¬ (C.2.1 v).2 = 0)
/-- things: TYPES of switches, defaults -/
def JhR (σ : RS) (T : TbT) (n : Nat) (l : List ItZ) : Prop := ∀ k : Nat, k < n → (0 ≤ swZ k l → swZ k l < (xcZ l : Int) ∧ (aI σ 88 k).toInt = (opT T (swZ k l)).1 ∧ 1 ≤ (opT T (swZ k l)).1 ∧ (opT T (swZ k l)).1 ≤ 3) ∧ (aI σ 59 k).toInt = dfZ k l
/-- NAMES: -/
def JlR (σ : RS) (l : List ItZ) : Prop := (gI σ 91).toInt = ((lbZ l).length : Int) ∧ ∀ (i : Nat) (p : Int × Int), (lbZ l)[i]? = some p → (aI σ 90 ((lbZ l).length - 1 - i)).toInt = p.1
def JnR (b kd : Nat → Int) (σ : RS) (T : TbT) (l : List ItZ) : Prop := ∀ q : Nat, (aI σ 80 q).toInt = meZ b kd T l q
theorem me_ta {b kd : Nat → Int} {T U : TbT} : ∀ {l : List ItZ}, TaZ (xcZ l) T U → ∀ q, meZ b kd U l q = meZ b kd T l q := by
  intro l
  induction l with
  | nil => intro _ q; rfl
  | cons x l ih =>
    intro ta q
    cases x with
    | inl x =>
      have t := ta (xcZ l) (by show xcZ l < xcZ l + 1; omega)
      rw [meZ, meZ, t, ih (fun q hq => ta q (by show q < xcZ l + 1; omega))]
    | inr y => rw [meZ, meZ, ih ta]
/-- all of it, where none is told -/
def JR (b kd : Nat → Int) (σ0 σ : RS) (C : CxT) (tn : Nat) (l : List ItZ) (T : TbT) (S : List Int) : Prop :=
  (JfR σ0 σ ∧ gI σ 66 = 0 ∧ SkP l S) ∧ JsR σ T S ∧ ((gI σ 74).toInt = (ycZ l : Int) ∧ JtR σ T l) ∧ JvR σ C T ∧ JhR σ T tn l ∧ JlR σ l ∧ (gI σ 89).toInt = (mdZ l : Int) ∧ JnR b kd σ T l

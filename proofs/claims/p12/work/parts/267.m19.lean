/-! things, by the codes that name them -/
/-- a row of things that holds where such a code stands -/
def sqZ (a : Nat) (op : Int) : Bool := (a == 52 && (op == 27 || op == 33 || op == 37 || op == 30)) || (a == 53 && op == 34) || (a == 54 && op == 35) || (a == 55 && (op == 25 || op == 28 || op == 31 || op == 36 || op == 40 || op == 42 || op == 53)) || (a == 56 && (op == 24 || op == 32)) || (a == 57 && op == 51) || (a == 58 && op == 52)
/-- codes that name a thing -/
def thO (op : Int) : Bool := (decide (23 ≤ op) && decide (op ≤ 42)) || (decide (50 ≤ op) && decide (op ≤ 53))
theorem sq_th {a : Nat} {op : Int} (h : sqZ a op = true) : thO op = true := by
  unfold sqZ at h
  unfold thO
  simp only [Bool.or_eq_true, Bool.and_eq_true, beq_iff_eq, decide_eq_true_eq] at h ⊢
  omega
def pqZ (a : Nat) (k : Int) : List ItZ → Int
  | [] => -2
  | .inl _ :: l => pqZ a k l
  | .inr x :: l => if sqZ a x.1 = true ∧ x.2.1 = k then (l.length : Int) else pqZ a k l
theorem pq_x {a : Nat} {k : Int} {l l' : List ItZ} (h : XsR l l') : pqZ a k l' = pqZ a k l := by
  obtain ⟨t, rfl⟩ := h
  induction t with
  | nil => rfl
  | cons x t ih => exact ih
theorem itN_xs {l l' : List ItZ} {c : Nat} {x : Int × Int × Int × Int × Int} (h : XsR l l') (q : itN l' c = some (.inr x)) : itN l c = some (.inr x) := by
  obtain ⟨t, rfl⟩ := h
  induction t with
  | nil => exact q
  | cons y t ih =>
    have q : itN (.inl y :: (t.map Sum.inl ++ l)) c = some (.inr x) := q
    rw [itN] at q
    by_cases e : c = (t.map Sum.inl ++ l).length
    · rw [if_pos e] at q
      cases q
    · rw [if_neg e] at q
      exact ih q
theorem pq_no {a : Nat} {k : Int} : ∀ {l : List ItZ}, (∀ c x, itN l c = some (.inr x) → thO x.1 = true → x.2.1 < k) → pqZ a k l = -2 := by
  intro l
  induction l with
  | nil => intro _; rfl
  | cons y l ih =>
    intro h
    have ih := ih (fun c x q => h c x (by rw [itN_c (itN_lt q)]; exact q))
    cases y with
    | inl y => exact ih
    | inr y =>
      rw [pqZ, if_neg (fun q => ?_)]
      · exact ih
      · have a1 := h l.length y (by rw [itN, if_pos rfl]) (sq_th q.1)
        have a2 := q.2
        omega
/-- a code that names a thing -/
def TcR (σ : RS) (m c : Nat) (x : Int × Int × Int × Int × Int) : Prop := 0 ≤ x.2.1 ∧ x.2.1 < (m : Int) ∧ (aI σ 51 x.2.1.toNat).toInt ≤ (c : Int) ∧ (x.1 = 50 → (aI σ 51 x.2.1.toNat).toInt = (c : Int)) ∧ (x.1 = 41 → (aI σ 60 x.2.1.toNat).toInt = x.2.2.2.1) ∧ (x.1 = 51 → (aI σ 61 x.2.1.toNat).toInt = -2 - x.2.2.2.2)
def KtR (σ : RS) (z : ZS) : Prop := (∀ a, 52 ≤ a → a ≤ 59 → ∀ k, k < tnM z → (aI σ a k).toInt = pqZ a k z.2.1) ∧ (∀ k, k < tnM z → 0 ≤ (aI σ 51 k).toInt ∧ (aI σ 51 k).toInt ≤ (z.2.1.length : Int)) ∧ ∀ c x, itN z.2.1 c = some (.inr x) → thO x.1 = true → TcR σ (tnM z) c x
theorem XsR.len {l l' : List ItZ} (h : XsR l l') : l.length ≤ l'.length := by
  obtain ⟨t, rfl⟩ := h
  rw [List.length_append]
  omega
theorem TcR.fr {σ τ : RS} {m c : Nat} {x : Int × Int × Int × Int × Int} (h : TcR σ m c x) (e1 : aI τ 51 x.2.1.toNat = aI σ 51 x.2.1.toNat) (e2 : aI τ 60 x.2.1.toNat = aI σ 60 x.2.1.toNat) (e3 : aI τ 61 x.2.1.toNat = aI σ 61 x.2.1.toNat) : TcR τ m c x := by
  unfold TcR
  rw [e1, e2, e3]
  exact h
theorem KtR.w {σ τ : RS} {z z' : ZS} (h : KtR σ z) (e1 : XsR z.2.1 z'.2.1) (e2 : tnM z' = tnM z) (q : ∀ a, 51 ≤ a → a ≤ 61 → aI τ a = aI σ a) : KtR τ z' := by
  refine ⟨fun a h1 h2 k hk => ?_, fun k hk => ?_, fun c x hx ho => ?_⟩
  · rw [e2] at hk
    rw [q a (by omega) (by omega), pq_x e1]
    exact h.1 a h1 h2 k hk
  · rw [e2] at hk
    have a := h.2.1 k hk
    have b := e1.len
    rw [q 51 (by omega) (by omega)]
    omega
  · rw [e2]
    exact (h.2.2 c x (itN_xs e1 hx) ho).fr (by rw [q 51 (by omega) (by omega)]) (by rw [q 60 (by omega) (by omega)]) (by rw [q 61 (by omega) (by omega)])
theorem KtR.z {σ τ : RS} {z z' : ZS} (h : KtR σ z) (e1 : z'.2.1 = z.2.1) (e2 : tnM z' = tnM z) (q : ∀ a, 51 ≤ a → a ≤ 61 → aI τ a = aI σ a) : KtR τ z' := h.w (by rw [e1]; exact XsR.rf) e2 q
/-- one thing more, exactly -/
def ThZ (σ : RS) (t : Int32) (τ : RS) : Prop := Th σ τ ∧ (∀ a, 52 ≤ a → a ≤ 59 → aI τ a = upd (aI σ a) (nT (gI σ 49)) (-2)) ∧ aI τ 60 = upd (aI σ 60) (nT (gI σ 49)) t ∧ aI τ 61 = upd (aI σ 61) (nT (gI σ 49)) (-2)
theorem KtR.th {σ τ : RS} {z : ZS} {t : Int32} (h : KtR σ z) (e : ThZ σ t τ) (hn : nT (gI σ 49) = tnM z) (hc : nT (gI σ 18) = z.2.1.length) (h18 : 0 ≤ gI σ 18) : KtR τ (thM z) := by
  obtain ⟨e1, e2, e3, e4⟩ := e
  have e5 := e1.2.2.1
  have t1 : tnM (thM z) = tnM z + 1 := rfl
  refine ⟨fun a h1 h2 k hk => ?_, fun k hk => ?_, fun c x hx ho => ?_⟩
  · rw [e2 a h1 h2, hn]
    show _ = pqZ a k z.2.1
    by_cases q : k = tnM z
    · subst q
      rw [upd_eq, pq_no (fun c x hx ho => by have := (h.2.2 c x hx ho).2.1; omega)]
      rfl
    · rw [upd_ne q]
      exact h.1 a h1 h2 k (by omega)
  · rw [e5, hn]
    show _ ∧ _ ≤ (z.2.1.length : Int)
    by_cases q : k = tnM z
    · subst q
      rw [upd_eq]
      have a : (0 : Int32).toInt ≤ (gI σ 18).toInt := Int32.le_iff_toInt_le.mp h18
      have a : 0 ≤ (gI σ 18).toInt := a
      have b : (gI σ 18).toInt.toNat = z.2.1.length := hc
      omega
    · rw [upd_ne q]
      exact h.2.1 k (by omega)
  · have g := h.2.2 c x hx ho
    have ne : x.2.1.toNat ≠ tnM z := by have a := g.1; have b := g.2.1; omega
    have g' : TcR σ (tnM (thM z)) c x := ⟨g.1, by have := g.2.1; rw [t1]; omega, g.2.2⟩
    exact g'.fr (by rw [e5, hn, upd_ne ne]) (by rw [e3, hn, upd_ne ne]) (by rw [e4, hn, upd_ne ne])
/-- a code more -/
theorem KtR.em {σ τ : RS} {z : ZS} {x : Int × Int × Int × Int × Int} (h : KtR σ z) (q : ∀ a, 51 ≤ a → a ≤ 61 → aI τ a = aI σ a) (hx : thO x.1 = true → TcR σ (tnM z) z.2.1.length x) (hs : ∀ a, a < 60 → sqZ a x.1 = false) : KtR τ (z.1, .inr x :: z.2.1, z.2.2) := by
  refine ⟨fun a h1 h2 k hk => ?_, fun k hk => ?_, fun c y hy ho => ?_⟩
  · rw [q a (by omega) (by omega)]
    show _ = pqZ a k (.inr x :: z.2.1)
    rw [pqZ, if_neg (fun c => by rw [hs a (by omega)] at c; exact absurd c.1 (by decide))]
    exact h.1 a h1 h2 k hk
  · have a := h.2.1 k hk
    rw [q 51 (by omega) (by omega)]
    show _ ∧ _ ≤ ((z.2.1.length + 1 : Nat) : Int)
    omega
  · have hy : itN (.inr x :: z.2.1) c = some (.inr y) := hy
    rw [itN] at hy
    refine TcR.fr (σ := σ) ?_ (by rw [q 51 (by omega) (by omega)]) (by rw [q 60 (by omega) (by omega)]) (by rw [q 61 (by omega) (by omega)])
    by_cases e : c = z.2.1.length
    · rw [if_pos e] at hy
      cases hy
      rw [e]
      exact hx ho
    · rw [if_neg e] at hy
      exact h.2.2 c y hy ho
/-- one that names no thing -/
theorem KtR.en {σ τ : RS} {z : ZS} {x : Int × Int × Int × Int × Int} (h : KtR σ z) (q : ∀ a, 51 ≤ a → a ≤ 61 → aI τ a = aI σ a) (hx : thO x.1 = false) : KtR τ (z.1, .inr x :: z.2.1, z.2.2) := h.em q (fun c => absurd (hx.symm.trans c) (by decide)) (fun a _ => by
  cases e : sqZ a x.1 with
  | false => rfl
  | true => exact absurd (hx.symm.trans (sq_th e)) (by decide))
/-- one that names the thing k -/
theorem TcR.k {σ : RS} {z : ZS} {x : Int × Int × Int × Int × Int} {k : Nat} (h : KtR σ z) (hk : k < tnM z) (hx : x.2.1 = (k : Int)) (h5 : ¬ x.1 = 50 ∧ ¬ x.1 = 41 ∧ ¬ x.1 = 51) : TcR σ (tnM z) z.2.1.length x := by
  have e : x.2.1.toNat = k := by omega
  unfold TcR
  rw [e]
  exact ⟨by omega, by omega, (h.2.1 k hk).2, fun q => absurd q h5.1, fun q => absurd q h5.2.1, fun q => absurd q h5.2.2⟩
/-- and where it stands is kept -/
theorem KtR.st {σ τ : RS} {z : ZS} {x : Int × Int × Int × Int × Int} {A k : Nat} {v : Int32} (h : KtR σ z) (hA : 52 ≤ A ∧ A ≤ 59) (hk : k < tnM z) (hx2 : x.2.1 = (k : Int)) (q : ∀ a, 51 ≤ a → a ≤ 61 → a ≠ A → aI τ a = aI σ a) (u : aI τ A = upd (aI σ A) k v) (hv : v.toInt = (z.2.1.length : Int)) (hx : TcR σ (tnM z) z.2.1.length x) (hs : ∀ a, a < 60 → (sqZ a x.1 = true ↔ a = A)) : KtR τ (z.1, .inr x :: z.2.1, z.2.2) := by
  refine ⟨fun a h1 h2 j hj => ?_, fun j hj => ?_, fun c y hy ho => ?_⟩
  · show _ = pqZ a j (.inr x :: z.2.1)
    have hj : j < tnM z := hj
    rw [pqZ]
    by_cases e : a = A
    · subst e
      by_cases ej : j = k
      · subst ej
        rw [u, upd_eq, if_pos ⟨(hs a (by omega)).mpr rfl, hx2⟩]
        exact hv
      · rw [u, upd_ne ej, if_neg (fun c => ej (by have := c.2; omega))]
        exact h.1 a h1 h2 j hj
    · rw [q a (by omega) (by omega) e, if_neg (fun c => e ((hs a (by omega)).mp c.1))]
      exact h.1 a h1 h2 j hj
  · have a := h.2.1 j hj
    rw [q 51 (by omega) (by omega) (by omega)]
    show _ ∧ _ ≤ ((z.2.1.length + 1 : Nat) : Int)
    omega
  · have hy : itN (.inr x :: z.2.1) c = some (.inr y) := hy
    rw [itN] at hy
    refine TcR.fr (σ := σ) ?_ (by rw [q 51 (by omega) (by omega) (by omega)]) (by rw [q 60 (by omega) (by omega) (by omega)]) (by rw [q 61 (by omega) (by omega) (by omega)])
    by_cases e : c = z.2.1.length
    · rw [if_pos e] at hy
      cases hy
      rw [e]
      exact hx
    · rw [if_neg e] at hy
      exact h.2.2 c y hy ho
/-- catch: its variable, too -/
theorem KtR.ca {σ τ : RS} {z : ZS} {k : Nat} {v u : Int32} (h : KtR σ z) (hk : k < tnM z) (q : ∀ a, 51 ≤ a → a ≤ 60 → a ≠ 57 → aI τ a = aI σ a) (e7 : aI τ 57 = upd (aI σ 57) k v) (e1 : aI τ 61 = upd (aI σ 61) k u) (hv : v.toInt = (z.2.1.length : Int)) (hu : u.toInt = ((zVs z.1).length : Int)) (hn : ∀ c x, itN z.2.1 c = some (.inr x) → ¬ (x.1 = 51 ∧ x.2.1 = (k : Int))) : KtR τ (caM k z) := by
  refine ⟨fun a h1 h2 j hj => ?_, fun j hj => ?_, fun c y hy ho => ?_⟩
  · show _ = pqZ a j (.inr (51, (k : Int), 0, zAt z.1, -2 - ((zVs z.1).length : Int)) :: z.2.1)
    have hj : j < tnM z := hj
    have hs : ∀ a, a < 60 → (sqZ a 51 = true ↔ a = 57) := by decide
    rw [pqZ]
    by_cases e : a = 57
    · subst e
      by_cases ej : j = k
      · subst ej
        rw [e7, upd_eq, if_pos ⟨rfl, rfl⟩]
        exact hv
      · rw [e7, upd_ne ej, if_neg (fun c => ej (by have c2 : (k : Int) = (j : Int) := c.2; omega))]
        exact h.1 57 h1 h2 j hj
    · rw [q a (by omega) (by omega) e, if_neg (fun c => e ((hs a (by omega)).mp c.1))]
      exact h.1 a h1 h2 j hj
  · have a := h.2.1 j hj
    rw [q 51 (by omega) (by omega) (by omega)]
    show _ ∧ _ ≤ ((z.2.1.length + 1 : Nat) : Int)
    omega
  · have hy : itN (.inr (51, (k : Int), 0, zAt z.1, -2 - ((zVs z.1).length : Int)) :: z.2.1) c = some (.inr y) := hy
    have r1 := q 51 (by omega) (by omega) (by omega)
    have r2 := q 60 (by omega) (by omega) (by omega)
    rw [itN] at hy
    by_cases e : c = z.2.1.length
    · rw [if_pos e] at hy
      cases hy
      have en : ((k : Int)).toNat = k := by omega
      refine ⟨?_, ?_, ?_, fun c => absurd (show (51 : Int) = 50 from c) (by decide), fun c => absurd (show (51 : Int) = 41 from c) (by decide), fun _ => ?_⟩
      · show (0 : Int) ≤ (k : Int)
        omega
      · show (k : Int) < (tnM z : Int)
        omega
      · show (aI τ 51 ((k : Int)).toNat).toInt ≤ (c : Int)
        rw [en, r1, e]
        exact (h.2.1 k hk).2
      · show (aI τ 61 ((k : Int)).toNat).toInt = -2 - (-2 - ((zVs z.1).length : Int))
        rw [en, e1, upd_eq, hu]
        omega
    · rw [if_neg e] at hy
      have g := h.2.2 c y hy ho
      have g0 := g.1
      refine ⟨g.1, g.2.1, by rw [r1]; exact g.2.2.1, fun c => by rw [r1]; exact g.2.2.2.1 c, fun c => by rw [r2]; exact g.2.2.2.2.1 c, fun c => ?_⟩
      have nk : ¬ y.2.1.toNat = k := fun e => hn _ y hy ⟨c, by omega⟩
      rw [e1, upd_ne nk]
      exact g.2.2.2.2.2 c

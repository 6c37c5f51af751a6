/-! what each code asks is what its S asks: pieces -/
/-- all codes of S's that are laid from l to l' -/
def AlB (Φ : List ItZ → Int × Int × Int × Int × Int → Prop) (l l' : List ItZ) : Prop := ∀ y m, (.inr y :: m) <:+ l' → l.length ≤ m.length → Φ m y
section
variable {Φ : List ItZ → Int × Int × Int × Int × Int → Prop} {l l' l'' : List ItZ}
theorem alb_tr (h1 : l <:+ l') (h2 : l' <:+ l'') : AlB Φ l l'' ↔ AlB Φ l l' ∧ AlB Φ l' l'' := by
  constructor
  · intro h
    exact ⟨fun y m a b => h y m (a.trans h2) b, fun y m a b => h y m a (Nat.le_trans h1.length_le b)⟩
  · intro ⟨g1, g2⟩ y m a b
    by_cases c : l'.length ≤ m.length
    · exact g2 y m a c
    · refine g1 y m (List.suffix_of_suffix_length_le a h2 ?_) b
      rw [List.length_cons]
      omega
theorem alb_rf : AlB Φ l l := fun y m a b => by
  have := a.length_le
  rw [List.length_cons] at this
  omega
theorem alb_1 {y : Int × Int × Int × Int × Int} : AlB Φ l (.inr y :: l) ↔ Φ l y := by
  constructor
  · intro h
    exact h y l List.suffix_rfl (Nat.le_refl _)
  · intro h y' m a b
    have e := a.eq_of_length_le (by rw [List.length_cons, List.length_cons]; omega)
    obtain ⟨e1, e2⟩ := List.cons.inj e
    cases e1
    rw [e2]
    exact h
theorem alb_xs (h : XsR l l') : AlB Φ l l' := by
  obtain ⟨t, rfl⟩ := h
  intro y m a b
  exfalso
  induction t with
  | nil => exact alb_rf (Φ := fun _ _ => False) y m a b
  | cons x t ih =>
    have a : (.inr y :: m) <:+ (.inl x :: (t.map Sum.inl ++ l)) := a
    rcases List.suffix_cons_iff.mp a with e | e
    · cases e
    · exact ih e
theorem ExX.xs {r : XrZ} {lv : Int} (h : ExX lv l l' r) : XsR l l' := by
  obtain ⟨m, e, ⟨t, ht⟩, _⟩ := h
  exact ⟨r :: t, by rw [e, ht]; rfl⟩
theorem ExX.sf {r : XrZ} {lv : Int} (h : ExX lv l l' r) : l <:+ l' := h.xs.ig
theorem alb_ex {r : XrZ} {lv : Int} (h : ExX lv l l' r) : AlB Φ l l' := alb_xs h.xs
/-- one code, then more -/
theorem alb_c {y : Int × Int × Int × Int × Int} (h : (.inr y :: l) <:+ l') : AlB Φ l l' ↔ Φ l y ∧ AlB Φ (.inr y :: l) l' := by
  rw [alb_tr (List.suffix_cons _ _) h, alb_1]
/-- the last code -/
theorem alb_e {y : Int × Int × Int × Int × Int} (h : l <:+ l') : AlB Φ l (.inr y :: l') ↔ AlB Φ l l' ∧ Φ l' y := by
  rw [alb_tr h (List.suffix_cons _ _), alb_1]
/-- an exp, then more -/
theorem alb_m {r : XrZ} {lv : Int} (h : ExX lv l l' r) (g : l' <:+ l'') : AlB Φ l l'' ↔ AlB Φ l' l'' := by
  rw [alb_tr h.sf g]
  exact ⟨fun q => q.2, fun q => ⟨alb_ex h, q⟩⟩
end
/-- codes that ask nothing -/
abbrev TrO (o : Int) : Prop := o = 20 ∨ o = 22 ∨ (24 ≤ o ∧ o ≤ 26) ∨ (28 ≤ o ∧ o ≤ 30) ∨ o = 32 ∨ (34 ≤ o ∧ o ≤ 36) ∨ o = 40 ∨ o = 42 ∨ o = 45 ∨ (50 ≤ o ∧ o ≤ 54)
section
variable {C : CxT} {N : Int → Int} {T : TbT} {l : List ItZ} {a b t e : Int}
theorem ok_t {y : Int × Int × Int × Int × Int} (h : TrO y.1 ∨ (y.1 = 33 ∧ y.2.2.1 = 0)) : okS C N T l y := by
  unfold TrO at h
  refine ⟨fun q => ?_, fun q => ?_, fun q => ?_, fun q => ?_, fun q => ?_, fun q => ?_, fun q => ?_, fun q => ?_, fun q => ?_⟩ <;> exfalso <;> omega
theorem ok_21 : okS C N T l (21, a, b, t, e) ↔ ¬ a = 0 := ⟨fun h => h.1 rfl, fun h => ⟨fun _ => h, fun q => by exfalso; dsimp only at q; omega, fun q => by exfalso; dsimp only at q; omega, fun q => by exfalso; dsimp only at q; omega, fun q => by exfalso; dsimp only at q; omega, fun q => by exfalso; dsimp only at q; omega, fun q => by exfalso; dsimp only at q; omega, fun q => by exfalso; dsimp only at q; omega, fun q => by exfalso; dsimp only at q; omega⟩⟩
theorem ok_cd {o : Int} (ho : o = 23 ∨ o = 27 ∨ o = 31 ∨ (o = 33 ∧ ¬ b = 0)) : okS C N T l (o, a, b, t, e) ↔ (opT T e).1 = 0 := by
  constructor
  · exact fun h => h.2.1 ho
  · intro h
    have h2 : (23 ≤ o ∧ o ≤ 33) ∧ ¬ o = 24 := by omega
    refine ⟨fun q => ?_, fun _ => h, fun q => ?_, fun q => ?_, fun q => ?_, fun q => ?_, fun q => ?_, fun q => ?_, fun q => ?_⟩ <;> exfalso <;> (have q : _ := q; dsimp only at q; omega)
theorem ok_37 : okS C N T l (37, a, b, t, e) ↔ 1 ≤ (opT T e).1 ∧ (opT T e).1 ≤ 3 := ⟨fun h => h.2.2.1 rfl, fun h => ⟨fun q => by exfalso; dsimp only at q; omega, fun q => by exfalso; dsimp only at q; omega, fun _ => h, fun q => by exfalso; dsimp only at q; omega, fun q => by exfalso; dsimp only at q; omega, fun q => by exfalso; dsimp only at q; omega, fun q => by exfalso; dsimp only at q; omega, fun q => by exfalso; dsimp only at q; omega, fun q => by exfalso; dsimp only at q; omega⟩⟩
theorem ok_38 : okS C N T l (38, a, b, t, e) ↔ (¬ (opT T e).2.1 = 0 ∧ ftT (opT T e) (opT T (swZ a l)).1) ∧ ∀ o x, itN l o = some (.inr x) → x.1 = 38 → x.2.1 = a → ¬ (opT T x.2.2.2.2).2.2.1 = (opT T e).2.2.1 := ⟨fun h => h.2.2.2.1 rfl, fun h => ⟨fun q => by exfalso; dsimp only at q; omega, fun q => by exfalso; dsimp only at q; omega, fun q => by exfalso; dsimp only at q; omega, fun _ => h, fun q => by exfalso; dsimp only at q; omega, fun q => by exfalso; dsimp only at q; omega, fun q => by exfalso; dsimp only at q; omega, fun q => by exfalso; dsimp only at q; omega, fun q => by exfalso; dsimp only at q; omega⟩⟩
theorem ok_39 : okS C N T l (39, a, b, t, e) ↔ dfZ a l < 0 := ⟨fun h => h.2.2.2.2.1 rfl, fun h => ⟨fun q => by exfalso; dsimp only at q; omega, fun q => by exfalso; dsimp only at q; omega, fun q => by exfalso; dsimp only at q; omega, fun q => by exfalso; dsimp only at q; omega, fun _ => h, fun q => by exfalso; dsimp only at q; omega, fun q => by exfalso; dsimp only at q; omega, fun q => by exfalso; dsimp only at q; omega, fun q => by exfalso; dsimp only at q; omega⟩⟩
theorem ok_41 : okS C N T l (41, a, b, t, e) ↔ ∀ p ∈ lbZ l, ¬ N p.2 = N t := ⟨fun h => h.2.2.2.2.2.1 rfl, fun h => ⟨fun q => by exfalso; dsimp only at q; omega, fun q => by exfalso; dsimp only at q; omega, fun q => by exfalso; dsimp only at q; omega, fun q => by exfalso; dsimp only at q; omega, fun q => by exfalso; dsimp only at q; omega, fun _ => h, fun q => by exfalso; dsimp only at q; omega, fun q => by exfalso; dsimp only at q; omega, fun q => by exfalso; dsimp only at q; omega⟩⟩
theorem ok_46 {o : Int} (ho : o = 46 ∨ o = 47) : okS C N T l (o, a, b, t, e) ↔ 0 ≤ a := by
  constructor
  · exact fun h => h.2.2.2.2.2.2.1 ho
  · intro h
    refine ⟨fun q => ?_, fun q => ?_, fun q => ?_, fun q => ?_, fun q => ?_, fun q => ?_, fun _ => h, fun q => ?_, fun q => ?_⟩ <;> exfalso <;> (have q : _ := q; dsimp only at q; omega)
theorem ok_48 : okS C N T l (48, a, b, t, e) ↔ (a = 0 → mtyT C (mdZ l) = 5) ∧ (¬ a = 0 → ¬ mtyT C (mdZ l) = 5 ∧ ftT (opT T e) (mtyT C (mdZ l))) := ⟨fun h => h.2.2.2.2.2.2.2.1 rfl, fun h => ⟨fun q => by exfalso; dsimp only at q; omega, fun q => by exfalso; dsimp only at q; omega, fun q => by exfalso; dsimp only at q; omega, fun q => by exfalso; dsimp only at q; omega, fun q => by exfalso; dsimp only at q; omega, fun q => by exfalso; dsimp only at q; omega, fun q => by exfalso; dsimp only at q; omega, fun _ => h, fun q => by exfalso; dsimp only at q; omega⟩⟩
theorem ok_49 : okS C N T l (49, a, b, t, e) ↔ ftT (opT T e) 3 := ⟨fun h => h.2.2.2.2.2.2.2.2 rfl, fun h => ⟨fun q => by exfalso; dsimp only at q; omega, fun q => by exfalso; dsimp only at q; omega, fun q => by exfalso; dsimp only at q; omega, fun q => by exfalso; dsimp only at q; omega, fun q => by exfalso; dsimp only at q; omega, fun q => by exfalso; dsimp only at q; omega, fun q => by exfalso; dsimp only at q; omega, fun q => by exfalso; dsimp only at q; omega, fun _ => h⟩⟩
end
/-! what an S asks, by its kind -/
section
variable {N : Int → Int} {Z : ZS} {T : TbT} {ms : MfT} {j : Nat}
theorem skk_tr (h : kjS Z j = 2 ∨ kjS Z j = 4 ∨ kjS Z j = 68 ∨ (91 ≤ kjS Z j ∧ kjS Z j ≤ 93) ∨ kjS Z j = 62 ∨ kjS Z j = 63) : skT N Z T ms j := by
  refine ⟨fun q => ?_, fun q => ?_, fun q => ?_, fun q => ?_, fun q => ?_, fun q => ?_, fun q => ?_⟩ <;> exfalso <;> omega
theorem skk_90 (h : kjS Z j = 90 ∨ kjS Z j = 94) : skT N Z T ms j ↔ (0 ≤ xjS Z j → (xth Z (xjS Z j).toNat).1.1 = 9 ∨ (xth Z (xjS Z j).toNat).1.1 = 6 ∨ (xth Z (xjS Z j).toNat).1.1 = 10) := ⟨fun g => g.2.2.2.2.2.2 h, fun g => ⟨fun q => by exfalso; omega, fun q => by exfalso; omega, fun q => by exfalso; omega, fun q => by exfalso; omega, fun q => by exfalso; omega, fun q => by exfalso; omega, fun _ => g⟩⟩
theorem skk_cd (h : kjS Z j = 56 ∨ kjS Z j = 58 ∨ kjS Z j = 59 ∨ kjS Z j = 60) : skT N Z T ms j ↔ (0 ≤ xjS Z j → (T.1 (xjS Z j).toNat).1 = 0) := ⟨fun g => g.1 h, fun g => ⟨fun _ => g, fun q => by exfalso; omega, fun q => by exfalso; omega, fun q => by exfalso; omega, fun q => by exfalso; omega, fun q => by exfalso; omega, fun q => by exfalso; omega⟩⟩
theorem skk_61 (h : kjS Z j = 61) : skT N Z T ms j ↔ swP Z T j := ⟨fun g => g.2.1 h, fun g => ⟨fun q => by exfalso; omega, fun _ => g, fun q => by exfalso; omega, fun q => by exfalso; omega, fun q => by exfalso; omega, fun q => by exfalso; omega, fun q => by exfalso; omega⟩⟩
theorem skk_64 (h : kjS Z j = 64 ∨ kjS Z j = 65) : skT N Z T ms j ↔ 0 ≤ tjT N Z j := ⟨fun g => g.2.2.1 h, fun g => ⟨fun q => by exfalso; omega, fun q => by exfalso; omega, fun _ => g, fun q => by exfalso; omega, fun q => by exfalso; omega, fun q => by exfalso; omega, fun q => by exfalso; omega⟩⟩
theorem skk_66 (h : kjS Z j = 66) : skT N Z T ms j ↔ ∀ m, ms (ljS Z j).toNat = some m → rtT' Z T m j := ⟨fun g => g.2.2.2.1 h, fun g => ⟨fun q => by exfalso; omega, fun q => by exfalso; omega, fun q => by exfalso; omega, fun _ => g, fun q => by exfalso; omega, fun q => by exfalso; omega, fun q => by exfalso; omega⟩⟩
theorem skk_67 (h : kjS Z j = 67) : skT N Z T ms j ↔ (0 ≤ xjS Z j → ftT (T.1 (xjS Z j).toNat) 3) := ⟨fun g => g.2.2.2.2.1 h, fun g => ⟨fun q => by exfalso; omega, fun q => by exfalso; omega, fun q => by exfalso; omega, fun q => by exfalso; omega, fun _ => g, fun q => by exfalso; omega, fun q => by exfalso; omega⟩⟩
theorem skk_6 (h : kjS Z j = 6) : skT N Z T ms j ↔ lbT N Z (ljS Z j) (snM Z) (paS Z j) := ⟨fun g => g.2.2.2.2.2.1 h, fun g => ⟨fun q => by exfalso; omega, fun q => by exfalso; omega, fun q => by exfalso; omega, fun q => by exfalso; omega, fun q => by exfalso; omega, fun _ => g, fun q => by exfalso; omega⟩⟩
end
/-! records of an S -/
section
variable {Z : ZS} {j : Nat} {k t lv a b o g x lk th : Int}
theorem ReD.kj (h : ReD Z j (k, t, lv, a) (b, o, g, x, lk, th)) : kjS Z j = k := congrArg (fun v : Int × Int × Int × Int => v.1) h.1
theorem ReD.fi (h : ReD Z j (k, t, lv, a) (b, o, g, x, lk, th)) : fiS Z j = t := congrArg (fun v : Int × Int × Int × Int => v.2.1) h.1
theorem ReD.lev (h : ReD Z j (k, t, lv, a) (b, o, g, x, lk, th)) : lvS Z j = lv := congrArg (fun v : Int × Int × Int × Int => v.2.2.1) h.1
theorem ReD.pa (h : ReD Z j (k, t, lv, a) (b, o, g, x, lk, th)) : paS Z j = a := congrArg (fun v : Int × Int × Int × Int => v.2.2.2) h.1
theorem ReD.bj (h : ReD Z j (k, t, lv, a) (b, o, g, x, lk, th)) : bjS Z j = b := congrArg (fun v : Int × Int × Int × Int × Int × Int => v.1) h.2
theorem ReD.oj (h : ReD Z j (k, t, lv, a) (b, o, g, x, lk, th)) : ojS Z j = o := congrArg (fun v : Int × Int × Int × Int × Int × Int => v.2.1) h.2
theorem ReD.gj (h : ReD Z j (k, t, lv, a) (b, o, g, x, lk, th)) : gjS Z j = g := congrArg (fun v : Int × Int × Int × Int × Int × Int => v.2.2.1) h.2
theorem ReD.xj (h : ReD Z j (k, t, lv, a) (b, o, g, x, lk, th)) : xjS Z j = x := congrArg (fun v : Int × Int × Int × Int × Int × Int => v.2.2.2.1) h.2
theorem ReD.lj (h : ReD Z j (k, t, lv, a) (b, o, g, x, lk, th)) : ljS Z j = lk := congrArg (fun v : Int × Int × Int × Int × Int × Int => v.2.2.2.2.1) h.2
theorem ReD.thi (h : ReD Z j (k, t, lv, a) (b, o, g, x, lk, th)) : thS Z j = th := congrArg (fun v : Int × Int × Int × Int × Int × Int => v.2.2.2.2.2) h.2
end
/-- an exp's number -/
theorem ExX.nn {l m : List ItZ} {r : XrZ} {lv : Int} (h : ExX lv l m r) : ((xcZ m : Int) - 1).toNat = xcZ m - 1 ∧ 0 ≤ (xcZ m : Int) - 1 ∧ xcZ l ≤ xcZ m - 1 ∧ 1 ≤ xcZ m := by
  obtain ⟨m1, e, ⟨t, ht⟩, _⟩ := h
  have e1 : xcZ m = xcZ m1 + 1 := by rw [e]; rfl
  have e2 := xc_sf (l := l) (L := m1) ⟨t.map Sum.inl, ht.symm⟩
  omega
theorem ExX.at {l m L : List ItZ} {r : XrZ} {lv : Int} (h : ExX lv l m r) (g : m <:+ L) : xgZ L (xcZ m - 1) = r := by
  obtain ⟨m1, e, _⟩ := h
  rw [e] at g ⊢
  exact xg_at g

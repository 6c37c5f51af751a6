/-! fields that hang on one another -/
theorem HIC.x5 {σ : CsC} {a : Nat} (h : HIC σ) (t : TyC σ a 5) : (fIC σ a 167).toInt ≤ (fIC σ a 165).toInt := ((h.1 a t.1).2.2.2.1 t.2.1).1
theorem HIC.x5i {σ : CsC} {a r : Nat} {x : Int32} (h : HIC σ) (t : TyC σ a 5) (e1 : fRC σ a 159 = some r) (e2 : fIC σ a 160 = x) : x.toInt ≤ alC σ r := by
  subst e2
  exact ((h.1 a t.1).2.2.2.1 t.2.1).2 r e1
theorem HIC.x10 {σ : CsC} {a r : Nat} {x : Int32} (h : HIC σ) (t : TyC σ a 10) (e1 : fRC σ a 307 = some r) (e2 : fIC σ a 308 = x) : x.toInt ≤ alC σ r := by
  subst e2
  exact (h.1 a t.1).2.2.2.2.2.1 t.2.1 r e1
/-- an int field that others hang on: the object's own part is to be shown -/
theorem HIC.pIx {σ : CsC} {a k c : Nat} {v : Int32} (h : HIC σ) (t : TyC σ a c) (hf : finC k = false) (h280 : k ≠ 280) (hv : IvC k v) (hx : XaC (pIC σ a k v) a) : HIC (pIC σ a k v) := by
  have e : ExC [k] σ (pIC σ a k v) := ExC.pI (by simp) (Or.inr hf)
  refine ⟨h.1.ex e (fun b h1 h2 => absurd h2 (Nat.not_lt.mpr h1)) (fun b j hb hj => ⟨?_, Or.inl rfl⟩) (fun b hb => ?_), h.2.ex e (fun _ h1 h2 => absurd h2 (Nat.not_lt.mpr h1)) (by simp only [List.elem_eq_mem, List.mem_cons, List.not_mem_nil, or_false, decide_eq_false_iff_not]; omega)⟩
  · by_cases q : (j ≠ k ∨ b ≠ a)
    · exact Or.inl (fI_pI q)
    · have q1 : j = k := by by_cases z : j = k; exact z; exact absurd (Or.inl z) q
      have q2 : b = a := by by_cases z : b = a; exact z; exact absurd (Or.inr z) q
      subst q1 q2
      rw [fI_pIs]
      exact Or.inr hv
  · by_cases q : b = a
    · subst q; exact hx
    · exact XaC.mono h.1 e hb (fun j _ _ => fI_pI (Or.inr q)) (fun _ _ _ => rfl) (fun _ _ _ => rfl) (fun _ => rfl) (fun _ => rfl)
theorem HIC.pRx {σ : CsC} {a k c : Nat} {v : Option Nat} (h : HIC σ) (t : TyC σ a c) (hf : finC k = false) (hw : k ≠ 73 ∨ v ≠ none) (hv : RfC σ a k v) (hx : XaC (pRC σ a k v) a) : HIC (pRC σ a k v) := by
  have e : ExC [k] σ (pRC σ a k v) := ExC.pR (by simp) (Or.inr hf) (Or.inr hw)
  refine ⟨h.1.ex e (fun b h1 h2 => absurd h2 (Nat.not_lt.mpr h1)) (fun b j hb hj => ⟨Or.inl rfl, ?_⟩) (fun b hb => ?_), h.2.sm rfl (fun _ _ => rfl) (fun _ _ _ => ⟨rfl, rfl⟩)⟩
  · by_cases q : (j ≠ k ∨ b ≠ a)
    · exact Or.inl (fR_pR q)
    · have q1 : j = k := by by_cases z : j = k; exact z; exact absurd (Or.inl z) q
      have q2 : b = a := by by_cases z : b = a; exact z; exact absurd (Or.inr z) q
      subst q1 q2
      rw [fR_pRs]
      exact Or.inr hv
  · by_cases q : b = a
    · subst q; exact hx
    · exact XaC.mono h.1 e hb (fun _ _ _ => rfl) (fun j _ _ => fR_pR (Or.inr q)) (fun _ _ _ => rfl) (fun _ => rfl) (fun _ => rfl)
theorem XaC.of5 {σ : CsC} {a : Nat} (ht : tgC σ a = 5) (h : X5C σ a) : XaC σ a := by
  unfold XaC
  rw [ht]
  exact ⟨fun z => by omega, fun z => by omega, fun _ => h, fun z => by omega, fun z => by omega, fun z => by omega, fun z => by omega, fun z => by omega, fun z => by omega⟩
theorem XaC.of9 {σ : CsC} {a : Nat} (ht : tgC σ a = 9) (h : X9C σ a) : XaC σ a := by
  unfold XaC
  rw [ht]
  exact ⟨fun z => by omega, fun z => by omega, fun z => by omega, fun _ => h, fun z => by omega, fun z => by omega, fun z => by omega, fun z => by omega, fun z => by omega⟩
theorem XaC.of10 {σ : CsC} {a : Nat} (ht : tgC σ a = 10) (h : X10C σ a) : XaC σ a := by
  unfold XaC
  rw [ht]
  exact ⟨fun z => by omega, fun z => by omega, fun z => by omega, fun z => by omega, fun _ => h, fun z => by omega, fun z => by omega, fun z => by omega, fun z => by omega⟩
theorem XaC.of2 {σ : CsC} {a : Nat} (ht : tgC σ a = 2) (h : X2C σ a) : XaC σ a := by
  unfold XaC
  rw [ht]
  exact ⟨fun z => by omega, fun _ => h, fun z => by omega, fun z => by omega, fun z => by omega, fun z => by omega, fun z => by omega, fun z => by omega, fun z => by omega⟩
theorem HIC.p165 {σ : CsC} {a : Nat} {x v : Int32} (h : HIC σ) (t : TyC σ a 5) (e : fIC σ a 165 = x) (h1 : x.toInt ≤ v.toInt) (h2 : v.toInt ≤ 20000) : HIC (pIC σ a 165 v) := by
  have q0 := h.x5 t
  have q1 := ((h.1 a t.1).1 165 (by rw [t.2.1])).1.1
  have q1 : 0 ≤ (fIC σ a 165).toInt := q1
  rw [e] at q0 q1
  refine h.pIx t (by decide) (by decide) ⟨by show (0 : Int) ≤ _; omega, by show _ ≤ (20000 : Int); omega⟩ (XaC.of5 t.2.1 ⟨?_, fun r hr => ?_⟩)
  · rw [fI_pIs, fI_pI (Or.inl (by decide))]; omega
  · rw [fI_pI (Or.inl (by decide))]; exact h.x5i t hr rfl
theorem HIC.p167 {σ : CsC} {a : Nat} {x v : Int32} (h : HIC σ) (t : TyC σ a 5) (e : fIC σ a 165 = x) (h0 : 0 ≤ v.toInt) (h1 : v.toInt ≤ x.toInt) : HIC (pIC σ a 167 v) := by
  have q1 := ((h.1 a t.1).1 165 (by rw [t.2.1])).1.2
  have q1 : (fIC σ a 165).toInt ≤ 20000 := q1
  rw [e] at q1
  refine h.pIx t (by decide) (by decide) ⟨by show (0 : Int) ≤ _; omega, by show _ ≤ (20000 : Int); omega⟩ (XaC.of5 t.2.1 ⟨?_, fun r hr => ?_⟩)
  · rw [fI_pIs, fI_pI (Or.inl (by decide)), e]; exact h1
  · rw [fI_pI (Or.inl (by decide))]; exact h.x5i t hr rfl
section KR2
variable {ct : CcC} {K : CkC} {Z : Option AvC → CsC → Prop} {is : List RI} {pc d b : Nat} {q : Int} {cs : List (Int × Nat)} {ls : ClC} {st : List AvC} {σ : CsC}
theorem k_p165 {j a : Nat} {x w : Int32} (hI : HIC σ) (t : TyC σ a 5) (e : fIC σ a 165 = x) (h1 : x.toInt ≤ w.toInt) (h2 : w.toInt ≤ 20000) (h : ∀ τ, HIC τ → ExC [165] σ τ → fIC τ a 165 = w → cwpC ct K Z is (pc + 3) ls st τ) : cwpC ct K Z ((.putfield j, d, q, 165, cs) :: is) pc ls (.inl w :: .inr (.inr (some a)) :: st) σ :=
  ⟨a, rfl, kgCob (k := 165) (c := 5) (by decide) t, Or.inl (show fkC 165 = 0 by decide), h _ (hI.p165 t e h1 h2) (ExC.pI (by simp) (Or.inr (show finC 165 = false by decide))) fI_pIs⟩
theorem k_p167 {j a : Nat} {x w : Int32} (hI : HIC σ) (t : TyC σ a 5) (e : fIC σ a 165 = x) (h1 : 0 ≤ w.toInt) (h2 : w.toInt ≤ x.toInt) (h : ∀ τ, HIC τ → ExC [167] σ τ → fIC τ a 167 = w → cwpC ct K Z is (pc + 3) ls st τ) : cwpC ct K Z ((.putfield j, d, q, 167, cs) :: is) pc ls (.inl w :: .inr (.inr (some a)) :: st) σ :=
  ⟨a, rfl, kgCob (k := 167) (c := 5) (by decide) t, Or.inl (show fkC 167 = 0 by decide), h _ (hI.p167 t e h1 h2) (ExC.pI (by simp) (Or.inr (show finC 167 = false by decide))) fI_pIs⟩
end KR2
/-- how deep what is within a statement can go -/
def RkC (σ : CsC) (a n : Nat) : Prop := 60 - 2 * (fIC σ a 272).toInt ≤ (n : Int) ∧ ((fIC σ a 270).toInt = 68 ∨ (fIC σ a 270).toInt = 60 → 61 - 2 * (fIC σ a 272).toInt ≤ (n : Int))
def RowC (σ : CsC) (a n : Nat) : Prop := 61 - 2 * (fIC σ a 272).toInt ≤ (n : Int) ∨ (60 - 2 * (fIC σ a 272).toInt ≤ (n : Int) ∧ ((fIC σ a 270).toInt = 93 ∨ (fIC σ a 270).toInt = 94))
theorem RowC.rk {σ : CsC} {a n : Nat} (h : RowC σ a n) : RkC σ a n := by unfold RowC at h; unfold RkC; omega
theorem RowC.nx {σ : CsC} {a b n : Nat} (h : RowC σ a n) (x : NxC σ a b) : RowC σ b n := by unfold RowC at *; unfold NxC at x; omega
theorem RkC.ch {σ : CsC} {a b n : Nat} (h : RkC σ a (n + 1)) (x : LvC σ a b) : RkC σ b n := by unfold RkC at *; unfold LvC at x; omega
theorem RkC.row {σ : CsC} {a b n : Nat} (h : RkC σ a (n + 1)) (x : LvC σ a b) {k : Int32} (e : fIC σ a 270 = k) (hk : ¬ k.toInt = 68) : RowC σ b n := by unfold RkC at *; unfold RowC; unfold LvC at x; rw [e] at x h; omega
theorem RkC.x {M : List Nat} {σ τ : CsC} {a n : Nat} (h : RkC σ a n) (t : TyC σ a 9) (e : ExC M σ τ) : RkC τ a n := by unfold RkC at *; rw [t.fi e (k := 270) (by decide) (by decide), t.fi e (k := 272) (by decide) (by decide)]; exact h
theorem RowC.x {M : List Nat} {σ τ : CsC} {a n : Nat} (h : RowC σ a n) (t : TyC σ a 9) (e : ExC M σ τ) : RowC τ a n := by unfold RowC at *; rw [t.fi e (k := 270) (by decide) (by decide), t.fi e (k := 272) (by decide) (by decide)]; exact h
theorem RkC.no {σ : CsC} {a : Nat} (hI : HIC σ) (t : TyC σ a 9) (h : RkC σ a 0) : False := by
  have q := ((hI.1 a t.1).1 272 (by rw [t.2.1])).1.2
  have q : (fIC σ a 272).toInt ≤ 22 := q
  unfold RkC at h
  omega
theorem RkC.top {σ : CsC} {a : Nat} (hI : HIC σ) (t : TyC σ a 9) : RkC σ a 61 := by
  have q := ((hI.1 a t.1).1 272 (by rw [t.2.1])).1.1
  have q : 0 ≤ (fIC σ a 272).toInt := q
  unfold RkC
  omega
theorem CMetC.no {l : Launch} {lev μ : Nat} {P : CpC} {Q : CqC} {r : CmC} (hr : mtC[μ]? = some r) (h : ∀ As σ, ¬ P As σ) : CMetC l lev μ P Q := ⟨r, hr, fun _ _ _ σ _ As hP => absurd hP (h As σ)⟩
/-- a text and its length -/
theorem HIC.p307 {σ : CsC} {a r : Nat} {v : Int32} (h : HIC σ) (t : TyC σ a 10) (tr : TyC σ r 101) (h0 : 0 ≤ v.toInt) (h1 : v.toInt ≤ alC σ r) : HIC (pIC (pRC σ a 307 (some r)) a 308 v) ∧ ExC [307, 308] σ (pIC (pRC σ a 307 (some r)) a 308 v) := by
  have e1 : ExC [307, 308] σ (pRC σ a 307 (some r)) := ExC.pR (by decide) (Or.inr (by decide)) (Or.inr (Or.inl (by decide)))
  have e2 : ExC [307, 308] (pRC σ a 307 (some r)) (pIC (pRC σ a 307 (some r)) a 308 v) := ExC.pI (by decide) (Or.inr (by decide))
  have e := e1.tr e2
  refine ⟨⟨h.1.ex e (fun b h1 h2 => absurd h2 (Nat.not_lt.mpr h1)) (fun b j hb hj => ⟨?_, ?_⟩) (fun b hb => ?_), h.2.ex e (fun _ h1 h2 => absurd h2 (Nat.not_lt.mpr h1)) (by decide)⟩, e⟩
  · by_cases q : (j ≠ 308 ∨ b ≠ a)
    · exact Or.inl (fI_pI q)
    · have q1 : j = 308 := by by_cases z : j = 308; exact z; exact absurd (Or.inl z) q
      have q2 : b = a := by by_cases z : b = a; exact z; exact absurd (Or.inr z) q
      subst q1 q2
      rw [fI_pIs]
      exact Or.inr ⟨h0, by have := (tiC v).2; exact this⟩
  · by_cases q : (j ≠ 307 ∨ b ≠ a)
    · exact Or.inl (fR_pR q)
    · have q1 : j = 307 := by by_cases z : j = 307; exact z; exact absurd (Or.inl z) q
      have q2 : b = a := by by_cases z : b = a; exact z; exact absurd (Or.inr z) q
      subst q1 q2
      refine Or.inr ?_
      show RfC σ b 307 (fRC (pRC σ b 307 (some r)) b 307)
      rw [fR_pRs]
      exact Or.inr ⟨tr, Or.inl rfl, Or.inl rfl, fun z => absurd z (by decide), fun z => absurd z (by decide)⟩
  · by_cases q : b = a
    · subst q
      refine XaC.of10 t.2.1 (fun r' hr' => ?_)
      have hr' : fRC (pRC σ b 307 (some r)) b 307 = some r' := hr'
      rw [fR_pRs] at hr'
      cases hr'
      rw [fI_pIs]
      exact h1
    · exact XaC.mono h.1 e hb (fun j _ _ => fI_pI (Or.inr q)) (fun j _ _ => fR_pR (Or.inr q)) (fun _ _ _ => rfl) (fun _ => rfl) (fun _ => rfl)

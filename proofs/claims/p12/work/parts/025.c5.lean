/-! what holds of the heap stays -/
theorem fI_pI {σ : CsC} {a k b j : Nat} {v : Int32} (h : j ≠ k ∨ b ≠ a) : fIC (pIC σ a k v) b j = fIC σ b j := h.elim (fun q => u2C_nk q) (fun q => u2C_na q)
theorem fI_pIs {σ : CsC} {a k : Nat} {v : Int32} : fIC (pIC σ a k v) a k = v := u2C_eq
theorem fR_pR {σ : CsC} {a k b j : Nat} {v : Option Nat} (h : j ≠ k ∨ b ≠ a) : fRC (pRC σ a k v) b j = fRC σ b j := h.elim (fun q => u2C_nk q) (fun q => u2C_na q)
theorem fR_pRs {σ : CsC} {a k : Nat} {v : Option Nat} : fRC (pRC σ a k v) a k = v := u2C_eq
set_option maxRecDepth 100000 in
theorem IvC_any {k : Nat} {x : Int32} (h : 390 ≤ k) : IvC k x := by
  have e : inC k = (-2147483648, 2147483647) := by
    unfold inC
    rw [List.getD_eq_getElem?_getD, List.getElem?_eq_none (by exact h)]
    rfl
  unfold IvC
  rw [e]
  exact ⟨Int32.le_toInt x, by have := Int32.toInt_lt x; omega⟩
set_option maxRecDepth 100000 in
theorem RfC_any {σ : CsC} {a k : Nat} {o : Option Nat} (h : 390 ≤ k) : RfC σ a k o := by
  have e : rfC k = (1, 999, 9999, 0, 9999) := by
    unfold rfC
    rw [List.getD_eq_getElem?_getD, List.getElem?_eq_none (by exact h)]
    rfl
  unfold RfC
  rw [e]
  cases o with
  | none => rfl
  | some b => exact Or.inl rfl
theorem ExC.pI {M : List Nat} {σ : CsC} {a k : Nat} {v : Int32} (hm : M.elem k = true) (hf : 13 ≤ tgC σ a ∨ finC k = false) : ExC M σ (pIC σ a k v) := by
  refine ⟨Nat.le_refl _, ⟨rfl, fun _ => rfl, fun _ _ _ => ⟨rfl, rfl⟩⟩, fun b hb => ⟨⟨rfl, rfl, rfl⟩, fun ht j hj => ⟨fI_pI ?_, rfl⟩, ⟨fun ht hw => ?_, fun _ _ => rfl⟩, fun j hj => ⟨fI_pI (Or.inl (fun q => by subst q; rw [hm] at hj; cases hj)), rfl⟩⟩⟩
  · rcases hf with hf | hf
    · exact Or.inr (fun q => by subst q; omega)
    · exact Or.inl (fun q => by subst q; rw [hj] at hf; cases hf)
  · unfold WhC
    rw [fI_pI (hf.elim (fun q => Or.inr (fun z => by subst z; omega)) (fun q => Or.inl (fun z => by subst z; revert q; decide)))]
    exact hw
theorem ExC.pL {M : List Nat} {σ : CsC} {a k : Nat} {v : Int64} : ExC M σ (pLC σ a k v) := ⟨Nat.le_refl _, ⟨rfl, fun _ => rfl, fun _ _ _ => ⟨rfl, rfl⟩⟩, fun _ _ => ⟨⟨rfl, rfl, rfl⟩, fun _ _ _ => ⟨rfl, rfl⟩, ⟨fun _ h => h, fun _ _ => rfl⟩, fun _ _ => ⟨rfl, rfl⟩⟩⟩
theorem ExC.pR {M : List Nat} {σ : CsC} {a k : Nat} {v : Option Nat} (hm : M.elem k = true) (hf : 13 ≤ tgC σ a ∨ finC k = false) (hw : 13 ≤ tgC σ a ∨ k ≠ 73 ∨ v ≠ none) : ExC M σ (pRC σ a k v) := by
  refine ⟨Nat.le_refl _, ⟨rfl, fun _ => rfl, fun _ _ _ => ⟨rfl, rfl⟩⟩, fun b hb => ⟨⟨rfl, rfl, rfl⟩, fun ht j hj => ⟨rfl, fR_pR ?_⟩, ⟨fun ht hwb => ?_, fun _ _ => rfl⟩, fun j hj => ⟨rfl, fR_pR (Or.inl (fun q => by subst q; rw [hm] at hj; cases hj))⟩⟩⟩
  · rcases hf with hf | hf
    · exact Or.inr (fun q => by subst q; omega)
    · exact Or.inl (fun q => by subst q; rw [hj] at hf; cases hf)
  · intro hz
    obtain ⟨h1, h2⟩ := hz
    apply hwb
    refine ⟨h1, ?_⟩
    by_cases q : (73 ≠ k ∨ b ≠ a)
    · rw [fR_pR q] at h2; exact h2
    · have q1 : k = 73 := by by_cases z : 73 = k; exact z.symm; exact absurd (Or.inl z) q
      have q2 : b = a := by by_cases z : b = a; exact z; exact absurd (Or.inr z) q
      subst q1 q2
      rw [fR_pRs] at h2
      rcases hw with hw | hw | hw
      · omega
      · exact absurd rfl hw
      · exact absurd h2 hw
theorem ExC.qI {M : List Nat} {σ : CsC} {a : Nat} {f : Nat → Int32} (hg : prC M (tgC σ a) (ghC σ a) = false) : ExC M σ (qIC σ a f) := ⟨Nat.le_refl _, ⟨rfl, fun _ => rfl, fun b _ hb => ⟨u1C_ne (fun q => by subst q; rw [hg] at hb; cases hb), rfl⟩⟩, fun _ _ => ⟨⟨rfl, rfl, rfl⟩, fun _ _ _ => ⟨rfl, rfl⟩, ⟨fun _ h => h, fun _ _ => rfl⟩, fun _ _ => ⟨rfl, rfl⟩⟩⟩
theorem ExC.qL {M : List Nat} {σ : CsC} {a : Nat} {f : Nat → Int64} (hg : prC M (tgC σ a) (ghC σ a) = false) : ExC M σ (qLC σ a f) := ⟨Nat.le_refl _, ⟨rfl, fun _ => rfl, fun b _ hb => ⟨rfl, u1C_ne (fun q => by subst q; rw [hg] at hb; cases hb)⟩⟩, fun _ _ => ⟨⟨rfl, rfl, rfl⟩, fun _ _ _ => ⟨rfl, rfl⟩, ⟨fun _ h => h, fun _ _ => rfl⟩, fun _ _ => ⟨rfl, rfl⟩⟩⟩
theorem ExC.qR {M : List Nat} {σ : CsC} {a : Nat} {f : Nat → Option Nat} (hq : tgC σ a = 103 → M.elem 2 = true) : ExC M σ (qRC σ a f) := ⟨Nat.le_refl _, ⟨rfl, fun _ => rfl, fun _ _ _ => ⟨rfl, rfl⟩⟩, fun b _ => ⟨⟨rfl, rfl, rfl⟩, fun _ _ _ => ⟨rfl, rfl⟩, ⟨fun _ h => h, fun t z => u1C_ne (fun q => by subst q; rw [hq t] at z; cases z)⟩, fun _ _ => ⟨rfl, rfl⟩⟩⟩
theorem ExC.nO {M : List Nat} {σ : CsC} {t N g : Nat} (hm : M.elem 999 = true) : ExC M σ (nOC σ t N g) := by
  refine ⟨Nat.le_succ _, ⟨rfl, fun h => by (rw [hm] at h; cases h), fun _ _ _ => ⟨rfl, rfl⟩⟩, fun b hb => ?_⟩
  have hb : b ≠ cnC σ := by omega
  have e1 : fIC (nOC σ t N g) b = fIC σ b := u1C_ne hb
  have e3 : fRC (nOC σ t N g) b = fRC σ b := u1C_ne hb
  have e4 : (nOC σ t N g).2.1 b = σ.2.1 b := u1C_ne hb
  refine ⟨⟨by unfold tgC; rw [e4], by unfold alC; rw [e4], by unfold ghC; rw [e4]⟩, fun _ k _ => ⟨by rw [e1], by rw [e3]⟩, ⟨fun _ h => ?_, fun _ _ => rfl⟩, fun k _ => ⟨by rw [e1], by rw [e3]⟩⟩
  unfold WhC
  rw [e1, e3]
  exact h
theorem ExC.nA {M : List Nat} {σ : CsC} {t n g : Nat} (hm : M.elem 999 = true) : ExC M σ (nAC σ t n g) := by
  refine ⟨Nat.le_succ _, ⟨rfl, fun h => by (rw [hm] at h; cases h), fun b hb _ => ⟨u1C_ne (by omega), u1C_ne (by omega)⟩⟩, fun b hb => ?_⟩
  have hb : b ≠ cnC σ := by omega
  have e4 : (nAC σ t n g).2.1 b = σ.2.1 b := u1C_ne hb
  exact ⟨⟨by unfold tgC; rw [e4], by unfold alC; rw [e4], by unfold ghC; rw [e4]⟩, fun _ k _ => ⟨rfl, rfl⟩, ⟨fun _ h => h, fun _ _ => u1C_ne hb⟩, fun k _ => ⟨rfl, rfl⟩⟩
theorem HI0.ty9 {σ : CsC} {a b k : Nat} (h : HI0 σ) (ha : a < cnC σ) (ht : tgC σ a = 9) (hk : k = 275 ∨ k = 276 ∨ k = 277 ∨ k = 278) (e : fRC σ a k = some b) : TyC σ b 9 := by
  have q := ((h a ha).1 k (by rw [ht]; rcases hk with rfl | rfl | rfl | rfl <;> rfl)).2
  rw [e] at q
  rcases hk with rfl | rfl | rfl | rfl <;> exact (q.resolve_left (by decide)).1
/-- what is said of an object beside its fields' own bounds -/
theorem XaC.mono {M : List Nat} {σ τ : CsC} {a : Nat} (h : HI0 σ) (e : ExC M σ τ) (ha : a < cnC σ)
    (hI : ∀ k, [2, 160, 165, 167, 308].elem k = true → k / 30 = tgC σ a → fIC τ a k = fIC σ a k)
    (hR : ∀ k, [1, 73, 75, 159, 186, 275, 276, 277, 278, 307].elem k = true → k / 30 = tgC σ a → fRC τ a k = fRC σ a k)
    (hE : ∀ r, r < cnC σ → tgC σ r = 103 → eRC τ r = eRC σ r) (hEi : tgC σ a = 100 → eIC τ a = eIC σ a) (hEr : tgC σ a = 104 ∨ tgC σ a = 105 → eRC τ a = eRC σ a) : XaC τ a := by
  obtain ⟨⟨et, eal, eg⟩, efin, ewh, -⟩ := e.2.2 a ha
  obtain ⟨x0, x2, x5, x9, x10, x100, x104, x105, x6⟩ := (h a ha).2
  unfold XaC
  rw [et]
  refine ⟨fun ht => ?_, fun ht => ?_, fun ht => ?_, fun ht => ?_, fun ht => ?_, fun ht hg j => ?_, fun ht j b hb => ?_, fun ht j b hb => ?_, fun ht b hb => ?_⟩
  · rcases x0 ht with ⟨p1, p2⟩ | ⟨r, p1, ⟨p2, p3, p4⟩, p5, p6⟩
    · exact Or.inl ⟨by rw [hR 1 rfl (by rw [ht])]; exact p1, by rw [hI 2 rfl (by rw [ht])]; exact p2⟩
    · obtain ⟨⟨rt, ral, rg⟩, -⟩ := e.2.2 r p2
      refine Or.inr ⟨r, by rw [hR 1 rfl (by rw [ht])]; exact p1, ⟨Nat.lt_of_lt_of_le p2 e.1, rt.trans p3, rg.trans p4⟩, by rw [hI 2 rfl (by rw [ht]), ral, eg]; exact p5, fun j hj => ?_⟩
      rw [hI 2 rfl (by rw [ht])] at hj
      obtain ⟨b, q1, q2⟩ := p6 j hj
      exact ⟨b, by rw [hE r p2 p3]; exact q1, by rw [eg]; exact q2.x e⟩
  · intro b hb
    rw [hR 75 rfl (by rw [ht])] at hb
    obtain ⟨⟨q1, q2⟩, q3⟩ := x2 ht b hb
    refine ⟨⟨Nat.lt_of_lt_of_le q1 e.1, (e.2.2 b q1).1.1.trans q2⟩, fun hw => ?_⟩
    have hw' : WhC σ a := by
      unfold WhC at hw ⊢
      rw [hR 73 rfl (by rw [ht]), (efin (by omega) 60 (by decide)).1] at hw
      exact hw
    exact ⟨(q3 hw').1, (e.2.2 b q1).2.2.1.1 q2 (q3 hw').2⟩
  · obtain ⟨q1, q2⟩ := x5 ht
    refine ⟨by rw [hI 167 rfl (by rw [ht]), hI 165 rfl (by rw [ht])]; exact q1, fun r hr => ?_⟩
    rw [hR 159 rfl (by rw [ht])] at hr
    rw [hI 160 rfl (by rw [ht])]
    have q := ((h a ha).1 159 (by rw [ht])).2
    rw [hr] at q
    rw [(q.resolve_left (by decide)).1.al e]
    exact q2 r hr
  · obtain ⟨q1, q2, q3, q4⟩ := x9 ht
    have ta : TyC σ a 9 := ⟨ha, ht, fun q => by omega⟩
    refine ⟨fun b hb => ?_, fun b hb => ?_, fun b hb => ?_, fun b hb => ?_⟩
    · rw [hR 275 rfl (by rw [ht])] at hb; exact (q1 b hb).x e ta (h.ty9 ha ht (by simp) hb)
    · rw [hR 276 rfl (by rw [ht])] at hb; exact (q2 b hb).x e ta (h.ty9 ha ht (by simp) hb)
    · rw [hR 277 rfl (by rw [ht])] at hb; exact (q3 b hb).x e ta (h.ty9 ha ht (by simp) hb)
    · rw [hR 278 rfl (by rw [ht])] at hb; exact (q4 b hb).x e ta (h.ty9 ha ht (by simp) hb)
  · intro r hr
    rw [hR 307 rfl (by rw [ht])] at hr
    rw [hI 308 rfl (by rw [ht])]
    have q := ((h a ha).1 307 (by rw [ht])).2
    rw [hr] at q
    rw [(q.resolve_left (by decide)).1.al e]
    exact x10 ht r hr
  · rw [hEi ht]; exact x100 ht (by rw [← eg]; exact hg) j
  · rw [hEr (Or.inl ht)] at hb; exact (x104 ht j b hb).x e
  · rw [hEr (Or.inr ht)] at hb; exact (x105 ht j b hb).x e
  · rw [hR 186 rfl (by rw [ht])] at hb
    have q := ((h a ha).1 186 (by rw [ht])).2
    rw [hb] at q
    rw [(q.resolve_left (by decide)).1.fi e (k := 270) (by decide) (by decide)]
    exact x6 ht b hb
theorem HI0.ex {M : List Nat} {σ τ : CsC} (h : HI0 σ) (e : ExC M σ τ) (hn : ∀ a, cnC σ ≤ a → a < cnC τ → (∀ k, k / 30 = tgC τ a → IvC k (fIC τ a k) ∧ RfC τ a k (fRC τ a k)) ∧ XaC τ a)
    (hf : ∀ a k, a < cnC σ → k / 30 = tgC σ a → (fIC τ a k = fIC σ a k ∨ IvC k (fIC τ a k)) ∧ (fRC τ a k = fRC σ a k ∨ RfC σ a k (fRC τ a k))) (hx : ∀ a, a < cnC σ → XaC τ a) : HI0 τ := by
  intro a ha
  by_cases z : a < cnC σ
  · refine ⟨fun k hk => ?_, hx a z⟩
    rw [(e.2.2 a z).1.1] at hk
    obtain ⟨q1, q2⟩ := (h a z).1 k hk
    obtain ⟨p1, p2⟩ := hf a k z hk
    refine ⟨p1.elim (fun p => by rw [p]; exact q1) id, p2.elim (fun p => ?_) (fun p => RfC.x e p)⟩
    rw [p]
    exact RfC.x e q2
  · exact hn a (by omega) ha
theorem HI0.pI {σ : CsC} {a k c : Nat} {v : Int32} (h : HI0 σ) (t : TyC σ a c) (hk : [2, 160, 165, 167, 308].elem k = false) (hf : finC k = false) (hv : IvC k v) : HI0 (pIC σ a k v) := by
  have e : ExC [k] σ (pIC σ a k v) := ExC.pI (by simp) (Or.inr hf)
  refine h.ex e (fun b h1 h2 => absurd h2 (Nat.not_lt.mpr h1)) (fun b j hb hj => ⟨?_, Or.inl rfl⟩) (fun b hb => XaC.mono h e hb (fun j hj _ => fI_pI (Or.inl (fun q => by subst q; rw [hj] at hk; cases hk))) (fun _ _ _ => rfl) (fun _ _ _ => rfl) (fun _ => rfl) (fun _ => rfl))
  by_cases q : (j ≠ k ∨ b ≠ a)
  · exact Or.inl (fI_pI q)
  · have q1 : j = k := by by_cases z : j = k; exact z; exact absurd (Or.inl z) q
    have q2 : b = a := by by_cases z : b = a; exact z; exact absurd (Or.inr z) q
    subst q1 q2
    rw [fI_pIs]
    exact Or.inr hv
theorem HI0.pIr {σ : CsC} {a k : Nat} {v : Int32} (h : HI0 σ) (ht : 13 ≤ tgC σ a) : HI0 (pIC σ a k v) := by
  have e : ExC [k] σ (pIC σ a k v) := ExC.pI (by simp) (Or.inl ht)
  refine h.ex e (fun b h1 h2 => absurd h2 (Nat.not_lt.mpr h1)) (fun b j hb hj => ⟨?_, Or.inl rfl⟩) (fun b hb => XaC.mono h e hb (fun j hj hjt => fI_pI (Or.inr (fun q => ?_))) (fun _ _ _ => rfl) (fun _ _ _ => rfl) (fun _ => rfl) (fun _ => rfl))
  · by_cases q : b = a
    · subst q
      exact Or.inr (IvC_any (by omega))
    · exact Or.inl (fI_pI (Or.inr q))
  · subst q
    have : j ≤ 308 := by
      simp only [List.elem_eq_mem, List.mem_cons, List.not_mem_nil, or_false, decide_eq_true_eq] at hj
      omega
    omega
theorem HI0.pL {σ : CsC} {a k : Nat} {v : Int64} (h : HI0 σ) : HI0 (pLC σ a k v) := by
  have e : ExC [] σ (pLC σ a k v) := ExC.pL
  exact h.ex e (fun b h1 h2 => absurd h2 (Nat.not_lt.mpr h1)) (fun b j hb hj => ⟨Or.inl rfl, Or.inl rfl⟩) (fun b hb => XaC.mono h e hb (fun _ _ _ => rfl) (fun _ _ _ => rfl) (fun _ _ _ => rfl) (fun _ => rfl) (fun _ => rfl))
theorem HI0.pR {σ : CsC} {a k c : Nat} {v : Option Nat} (h : HI0 σ) (t : TyC σ a c) (hk : [1, 73, 75, 159, 186, 275, 276, 277, 278, 307].elem k = false) (hf : finC k = false) (hv : RfC σ a k v) : HI0 (pRC σ a k v) := by
  have e : ExC [k] σ (pRC σ a k v) := ExC.pR (by simp) (Or.inr hf) (Or.inr (Or.inl (fun q => by subst q; cases hk)))
  refine h.ex e (fun b h1 h2 => absurd h2 (Nat.not_lt.mpr h1)) (fun b j hb hj => ⟨Or.inl rfl, ?_⟩) (fun b hb => XaC.mono h e hb (fun _ _ _ => rfl) (fun j hj _ => fR_pR (Or.inl (fun q => by subst q; rw [hj] at hk; cases hk))) (fun _ _ _ => rfl) (fun _ => rfl) (fun _ => rfl))
  by_cases q : (j ≠ k ∨ b ≠ a)
  · exact Or.inl (fR_pR q)
  · have q1 : j = k := by by_cases z : j = k; exact z; exact absurd (Or.inl z) q
    have q2 : b = a := by by_cases z : b = a; exact z; exact absurd (Or.inr z) q
    subst q1 q2
    rw [fR_pRs]
    exact Or.inr hv
theorem HI0.pRr {σ : CsC} {a k : Nat} {v : Option Nat} (h : HI0 σ) (ht : 13 ≤ tgC σ a) : HI0 (pRC σ a k v) := by
  have e : ExC [k] σ (pRC σ a k v) := ExC.pR (by simp) (Or.inl ht) (Or.inl ht)
  refine h.ex e (fun b h1 h2 => absurd h2 (Nat.not_lt.mpr h1)) (fun b j hb hj => ⟨Or.inl rfl, ?_⟩) (fun b hb => XaC.mono h e hb (fun _ _ _ => rfl) (fun j hj hjt => fR_pR (Or.inr (fun q => ?_))) (fun _ _ _ => rfl) (fun _ => rfl) (fun _ => rfl))
  · by_cases q : b = a
    · subst q
      exact Or.inr (RfC_any (by omega))
    · exact Or.inl (fR_pR (Or.inr q))
  · subst q
    have : j ≤ 307 := by
      simp only [List.elem_eq_mem, List.mem_cons, List.not_mem_nil, or_false, decide_eq_true_eq] at hj
      omega
    omega
theorem HI0.qI {σ : CsC} {a : Nat} {f : Nat → Int32} (h : HI0 σ) (hv : ghC σ a = 1 → ∀ j, 0 ≤ (f j).toInt ∧ (f j).toInt ≤ 7500) : HI0 (qIC σ a f) := by
  have e : ExC [995, 996, 997, 998] σ (qIC σ a f) := ExC.qI prC.all
  refine h.ex e (fun b h1 h2 => absurd h2 (Nat.not_lt.mpr h1)) (fun b j hb hj => ⟨Or.inl rfl, Or.inl rfl⟩) (fun b hb => ?_)
  by_cases q : b = a
  · subst q
    obtain ⟨x0, x2, x5, x9, x10, x100, x104, x105, x6⟩ := XaC.mono (τ := σ) (M := []) h ExC.rf hb (fun _ _ _ => rfl) (fun _ _ _ => rfl) (fun _ _ _ => rfl) (fun _ => rfl) (fun _ => rfl)
    refine ⟨x0, x2, x5, x9, x10, fun _ hg j => ?_, x104, x105, x6⟩
    have e1 : eIC (qIC σ b f) b = f := u1C_eq
    rw [e1]
    exact hv hg j
  · exact XaC.mono h e hb (fun _ _ _ => rfl) (fun _ _ _ => rfl) (fun _ _ _ => rfl) (fun _ => u1C_ne q) (fun _ => rfl)
theorem HI0.qL {σ : CsC} {a : Nat} {f : Nat → Int64} (h : HI0 σ) : HI0 (qLC σ a f) := by
  have e : ExC [995, 996, 997, 998] σ (qLC σ a f) := ExC.qL prC.all
  exact h.ex e (fun b h1 h2 => absurd h2 (Nat.not_lt.mpr h1)) (fun b j hb hj => ⟨Or.inl rfl, Or.inl rfl⟩) (fun b hb => XaC.mono h e hb (fun _ _ _ => rfl) (fun _ _ _ => rfl) (fun _ _ _ => rfl) (fun _ => rfl) (fun _ => rfl))
theorem HI0.qR {σ : CsC} {a t : Nat} {f : Nat → Option Nat} (h : HI0 σ) (ht : tgC σ a = t) (h1 : t = 104 ∨ t = 105) (hv : ∀ j b, f j = some b → TyC σ b (if t = 104 then 2 else 9)) : HI0 (qRC σ a f) := by
  have e : ExC [] σ (qRC σ a f) := ExC.qR (fun z => by omega)
  refine h.ex e (fun b h1 h2 => absurd h2 (Nat.not_lt.mpr h1)) (fun b j hb hj => ⟨Or.inl rfl, Or.inl rfl⟩) (fun b hb => ?_)
  by_cases q : b = a
  · subst q
    have e1 : eRC (qRC σ b f) b = f := u1C_eq
    have e2 : tgC (qRC σ b f) b = t := ht
    unfold XaC
    rw [e2, e1]
    refine ⟨fun z => by omega, fun z => by omega, fun z => by omega, fun z => by omega, fun z => by omega, fun z => by omega, fun z j b' hb' => ?_, fun z j b' hb' => ?_, fun z => by omega⟩
    · have := hv j b' hb'; rw [if_pos z] at this; exact this
    · have := hv j b' hb'; rw [if_neg (by omega)] at this; exact this
  · exact XaC.mono h e hb (fun _ _ _ => rfl) (fun _ _ _ => rfl) (fun r _ hr => u1C_ne (fun z => by subst z; omega)) (fun _ => rfl) (fun _ => u1C_ne q)
theorem HI0.nO {σ : CsC} {t N g : Nat} (h : HI0 σ) (ht : 50 ≤ t) (ht2 : t < 100) : HI0 (nOC σ t N g) := by
  have e : ExC [999] σ (nOC σ t N g) := ExC.nO rfl
  have et : tgC (nOC σ t N g) (cnC σ) = t := by show (u1C σ.2.1 (cnC σ) (t, 0, g) (cnC σ)).1 = t; rw [u1C_eq]
  refine h.ex e (fun b h1 h2 => ?_) (fun b j hb hj => ?_) (fun b hb => ?_)
  · have hb : b = cnC σ := by have : b < cnC σ + 1 := h2; omega
    subst hb
    refine ⟨fun k hk => ⟨IvC_any (by omega), RfC_any (by omega)⟩, ?_⟩
    unfold XaC
    rw [et]
    exact ⟨fun z => by omega, fun z => by omega, fun z => by omega, fun z => by omega, fun z => by omega, fun z => by omega, fun z => by omega, fun z => by omega, fun z => by omega⟩
  · have hb : b ≠ cnC σ := by omega
    have e1 : fIC (nOC σ t N g) b = fIC σ b := u1C_ne hb
    have e3 : fRC (nOC σ t N g) b = fRC σ b := u1C_ne hb
    exact ⟨Or.inl (by rw [e1]), Or.inl (by rw [e3])⟩
  · have hb' : b ≠ cnC σ := by omega
    have e1 : fIC (nOC σ t N g) b = fIC σ b := u1C_ne hb'
    have e3 : fRC (nOC σ t N g) b = fRC σ b := u1C_ne hb'
    exact XaC.mono h e hb (fun j _ _ => by rw [e1]) (fun j _ _ => by rw [e3]) (fun _ _ _ => rfl) (fun _ => rfl) (fun _ => rfl)
theorem HI0.nA {σ : CsC} {t n g : Nat} (h : HI0 σ) (ht : 100 ≤ t) : HI0 (nAC σ t n g) := by
  have e : ExC [999] σ (nAC σ t n g) := ExC.nA rfl
  have et : tgC (nAC σ t n g) (cnC σ) = t := by show (u1C σ.2.1 (cnC σ) (t, n, g) (cnC σ)).1 = t; rw [u1C_eq]
  refine h.ex e (fun b h1 h2 => ?_) (fun b j hb hj => ⟨Or.inl rfl, Or.inl rfl⟩) (fun b hb => ?_)
  · have hb : b = cnC σ := by have : b < cnC σ + 1 := h2; omega
    subst hb
    refine ⟨fun k hk => ⟨IvC_any (by omega), RfC_any (by omega)⟩, ?_⟩
    have e1 : eIC (nAC σ t n g) (cnC σ) = fun _ => 0 := u1C_eq
    have e3 : eRC (nAC σ t n g) (cnC σ) = fun _ => none := u1C_eq
    unfold XaC
    rw [et, e1, e3]
    exact ⟨fun z => by omega, fun z => by omega, fun z => by omega, fun z => by omega, fun z => by omega, fun _ _ _ => ⟨by show (0 : Int) ≤ (0 : Int32).toInt; decide, by show (0 : Int32).toInt ≤ (7500 : Int); decide⟩, (fun _ _ _ z => by cases z), (fun _ _ _ z => by cases z), fun z => by omega⟩
  · have hb' : b ≠ cnC σ := by omega
    have e1 : eIC (nAC σ t n g) b = eIC σ b := u1C_ne hb'
    have e3 : ∀ b, b < cnC σ → eRC (nAC σ t n g) b = eRC σ b := fun b hb => u1C_ne (by omega)
    exact XaC.mono h e hb (fun _ _ _ => rfl) (fun _ _ _ => rfl) (fun r hr _ => e3 r hr) (fun _ => e1) (fun _ => e3 b hb)
theorem LbC.ex {M : List Nat} {σ τ : CsC} {x : Option Nat} (h : LbC σ x) (e : ExC M σ τ) (hn : ∀ a, cnC σ ≤ a → a < cnC τ → tgC τ a ≠ 9) (hk : M.elem 280 = false) : LbC τ x := by
  intro a ha ht hx h6
  by_cases z : a < cnC σ
  · obtain ⟨⟨et, -⟩, ef, -, em⟩ := e.2.2 a z
    rw [et] at ht
    rw [(ef (by omega) 270 (by decide)).1] at h6
    rw [(em 280 hk).1]
    exact h a z ht hx h6
  · exact absurd ht (hn a (by omega) ha)
theorem LbC.sm {σ τ : CsC} {x : Option Nat} (h : LbC σ x) (e0 : τ.1 = σ.1) (e1 : ∀ a, a < cnC σ → tgC τ a = tgC σ a) (e2 : ∀ a, a < cnC σ → tgC σ a = 9 → fIC τ a 270 = fIC σ a 270 ∧ fIC τ a 280 = fIC σ a 280) : LbC τ x := by
  intro a ha ht hx h6
  have ha : a < cnC σ := by unfold cnC at ha ⊢; rw [e0] at ha; exact ha
  rw [e1 a ha] at ht
  rw [(e2 a ha ht).1] at h6
  rw [(e2 a ha ht).2]
  exact h a ha ht hx h6
theorem HIC.pI {σ : CsC} {a k c : Nat} {v : Int32} (h : HIC σ) (t : TyC σ a c) (hk : [2, 160, 165, 167, 308, 280].elem k = false) (hf : finC k = false) (hv : IvC k v) : HIC (pIC σ a k v) :=
  ⟨h.1.pI t (by simp only [List.elem_eq_mem, List.mem_cons, List.not_mem_nil, or_false, decide_eq_false_iff_not] at hk ⊢; omega) hf hv, h.2.ex (M := [k]) (ExC.pI (by simp) (Or.inr hf)) (fun _ h1 h2 => absurd h2 (Nat.not_lt.mpr h1)) (by simp only [List.elem_eq_mem, List.mem_cons, List.not_mem_nil, or_false, decide_eq_false_iff_not] at hk ⊢; omega)⟩
theorem HIC.pIr {σ : CsC} {a k : Nat} {v : Int32} (h : HIC σ) (ht : 13 ≤ tgC σ a) : HIC (pIC σ a k v) :=
  ⟨h.1.pIr ht, h.2.sm rfl (fun _ _ => rfl) (fun b _ hb => ⟨fI_pI (Or.inr (fun q => by subst q; omega)), fI_pI (Or.inr (fun q => by subst q; omega))⟩)⟩
theorem HIC.p280 {σ : CsC} {a : Nat} {v : Int32} (h : HIC σ) (t : TyC σ a 9) (hv : IvC 280 v) (hl : (fIC σ a 270).toInt = 6 → 0 ≤ v.toInt) : HIC (pIC σ a 280 v) := by
  refine ⟨h.1.pI t (by decide) (by decide) hv, fun b hb ht hx h6 => ?_⟩
  by_cases q : b = a
  · subst q
    rw [fI_pIs]
    rw [fI_pI (Or.inl (by decide))] at h6
    exact hl h6
  · rw [fI_pI (Or.inr q)] at h6 ⊢
    exact h.2 b hb ht hx h6
theorem HIC.lb {σ : CsC} {a : Nat} {x y : Int32} (h : HIC σ) (t : TyC σ a 9) (e1 : fIC σ a 270 = x) (h6 : x.toInt = 6) (e2 : fIC σ a 280 = y) : 0 ≤ y.toInt := by
  subst e1 e2
  exact h.2 a t.1 t.2.1 (fun q => by cases q) h6
theorem HIC.pL {σ : CsC} {a k : Nat} {v : Int64} (h : HIC σ) : HIC (pLC σ a k v) := ⟨h.1.pL, h.2.sm rfl (fun _ _ => rfl) (fun _ _ _ => ⟨rfl, rfl⟩)⟩
theorem HIC.pR {σ : CsC} {a k c : Nat} {v : Option Nat} (h : HIC σ) (t : TyC σ a c) (hk : [1, 73, 75, 159, 186, 275, 276, 277, 278, 307].elem k = false) (hf : finC k = false) (hv : RfC σ a k v) : HIC (pRC σ a k v) := ⟨h.1.pR t hk hf hv, h.2.sm rfl (fun _ _ => rfl) (fun _ _ _ => ⟨rfl, rfl⟩)⟩
theorem HIC.pRr {σ : CsC} {a k : Nat} {v : Option Nat} (h : HIC σ) (ht : 13 ≤ tgC σ a) : HIC (pRC σ a k v) := ⟨h.1.pRr ht, h.2.sm rfl (fun _ _ => rfl) (fun _ _ _ => ⟨rfl, rfl⟩)⟩
theorem HIC.qI {σ : CsC} {a : Nat} {f : Nat → Int32} (h : HIC σ) (hv : ghC σ a ≠ 1) : HIC (qIC σ a f) := ⟨h.1.qI (fun q => absurd q hv), h.2.sm rfl (fun _ _ => rfl) (fun _ _ _ => ⟨rfl, rfl⟩)⟩
theorem HIC.qI1 {σ : CsC} {a c i : Nat} {v : Int32} (h : HIC σ) (t : TyC σ a 100) (hg : ghC σ a = 1) (h0 : 0 ≤ v.toInt) (h1 : v.toInt ≤ 7500) : HIC (qIC σ a (upd (eIC σ a) i v)) := ⟨h.1.qI (fun _ j => by
  unfold upd
  split
  · exact ⟨h0, h1⟩
  · exact (h.1 a t.1).2.2.2.2.2.2.1 t.2.1 hg j), h.2.sm rfl (fun _ _ => rfl) (fun _ _ _ => ⟨rfl, rfl⟩)⟩
theorem HIC.qB {σ : CsC} {a : Nat} {f : Nat → Int32} (h : HIC σ) (t : TyC σ a 101) : HIC (qIC σ a f) := by
  refine ⟨?_, h.2.sm rfl (fun _ _ => rfl) (fun _ _ _ => ⟨rfl, rfl⟩)⟩
  have e : ExC [995, 996, 997, 998] σ (qIC σ a f) := ExC.qI prC.all
  refine h.1.ex e (fun b h1 h2 => absurd h2 (Nat.not_lt.mpr h1)) (fun b j hb hj => ⟨Or.inl rfl, Or.inl rfl⟩) (fun b hb => XaC.mono h.1 e hb (fun _ _ _ => rfl) (fun _ _ _ => rfl) (fun _ _ _ => rfl) (fun ht => u1C_ne (fun q => by subst q; have := t.2.1; omega)) (fun _ => rfl))
theorem HIC.qL {σ : CsC} {a : Nat} {f : Nat → Int64} (h : HIC σ) : HIC (qLC σ a f) := ⟨h.1.qL, h.2.sm rfl (fun _ _ => rfl) (fun _ _ _ => ⟨rfl, rfl⟩)⟩
theorem HIC.qR {σ : CsC} {a t c i : Nat} {o : Option Nat} (h : HIC σ) (ht : TyC σ a t) (hc : (t = 104 ∧ c = 2) ∨ (t = 105 ∧ c = 9)) (ho : OtC σ o c) : HIC (qRC σ a (va_up (eRC σ a) i o)) := by
  refine ⟨h.1.qR ht.2.1 (by omega) (fun j b hb => ?_), h.2.sm rfl (fun _ _ => rfl) (fun _ _ _ => ⟨rfl, rfl⟩)⟩
  have hc' : (if t = 104 then 2 else 9) = c := by
    rcases hc with ⟨rfl, rfl⟩ | ⟨rfl, rfl⟩ <;> rfl
  rw [hc']
  unfold va_up at hb
  by_cases q : j = i
  · subst q
    simp at hb
    exact ho b hb
  · simp [q] at hb
    rcases hc with ⟨rfl, rfl⟩ | ⟨rfl, rfl⟩
    · exact (h.1 a ht.1).2.2.2.2.2.2.2.1 ht.2.1 j b hb
    · exact (h.1 a ht.1).2.2.2.2.2.2.2.2.1 ht.2.1 j b hb
theorem HIC.nO {σ : CsC} {t N g : Nat} (h : HIC σ) (ht : 50 ≤ t) (ht2 : t < 100) : HIC (nOC σ t N g) := ⟨h.1.nO ht ht2, h.2.ex (M := [999]) (ExC.nO rfl) (fun b h1 h2 => by
  have hb : b = cnC σ := by have : b < cnC σ + 1 := h2; omega
  subst hb
  have et : tgC (nOC σ t N g) (cnC σ) = t := by show (u1C σ.2.1 (cnC σ) (t, 0, g) (cnC σ)).1 = t; rw [u1C_eq]
  omega) rfl⟩
theorem HIC.nA {σ : CsC} {t n g : Nat} (h : HIC σ) (ht : 100 ≤ t) : HIC (nAC σ t n g) := ⟨h.1.nA ht, h.2.ex (M := [999]) (ExC.nA rfl) (fun b h1 h2 => by
  have hb : b = cnC σ := by have : b < cnC σ + 1 := h2; omega
  subst hb
  have et : tgC (nAC σ t n g) (cnC σ) = t := by show (u1C σ.2.1 (cnC σ) (t, n, g) (cnC σ)).1 = t; rw [u1C_eq]
  omega) rfl⟩

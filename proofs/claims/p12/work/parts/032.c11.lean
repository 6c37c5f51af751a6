/-! rules of reading -/
theorem HIC.pRy {σ : CsC} {a k : Nat} {v : Option Nat} (h : HIC σ) (hf : finC k = false) (hw : k ≠ 73 ∨ v ≠ none) (hv : RfC σ a k v) (hx : XaC (pRC σ a k v) a) : HIC (pRC σ a k v) := by
  have e : ExC [k] σ (pRC σ a k v) := ExC.pR (by simp) (Or.inr hf) (Or.inr hw)
  refine ⟨h.1.ex e (fun b h1 h2 => absurd h2 (Nat.not_lt.mpr h1)) (fun b j hb hj => ⟨Or.inl rfl, ?_⟩) (fun b hb => ?_), h.2.sm rfl (fun _ _ => rfl) (fun _ _ _ => ⟨rfl, rfl⟩)⟩
  · by_cases q : (j ≠ k ∨ b ≠ a)
    · exact Or.inl (fR_pR q)
    · have q1 : j = k := by by_cases z : j = k; exact z; exact absurd (Or.inl z) q
      have q2 : b = a := by by_cases z : b = a; exact z; exact absurd (Or.inr z) q
      subst q1 q2
      rw [fR_pRs]
      exact Or.inr hv
  · by_cases q : b = a
    · subst q; exact hx
    · exact XaC.mono h.1 e hb (fun _ _ _ => rfl) (fun j _ _ => fR_pR (Or.inr q)) (fun _ _ _ => rfl) (fun _ => rfl) (fun _ => rfl)
theorem gpC_pR {σ : CsC} {a k b : Nat} {v : Option Nat} (hk : k ≠ 1) : gpC (pRC σ a k v) b = gpC σ b := by
  unfold gpC
  rw [fR_pR (Or.inl (fun q => hk q.symm))]
  rfl
theorem GwC.pR {x : Option Nat} {σ : CsC} {a k : Nat} {v : Option Nat} (hk : k ≠ 1) (hx : (k ≠ 73 ∧ k ≠ 75) ∨ ¬ WtC σ a ∨ x = some a) : GwC x σ (pRC σ a k v) := by
  have eg : gsC (pRC σ a k v) (cnC σ) = gsC σ (cnC σ) := gsC_eq _ (fun b _ => gpC_pR hk)
  refine ⟨Nat.le_refl _, ?_, fun b hb => ⟨fun _ => ⟨rfl, rfl⟩, fun _ _ => rfl, fun hn _ w => ?_⟩⟩
  · show slC σ + 4 * gsC (pRC σ a k v) (cnC σ) ≤ slC σ + 4 * gsC σ (cnC σ) + 22 * (cnC σ - cnC σ)
    rw [eg]; omega
  · have hz : (k ≠ 73 ∧ k ≠ 75) ∨ b ≠ a := by
      rcases hx with hx | hx | hx
      · exact Or.inl hx
      · exact Or.inr (fun q => hx (q ▸ w))
      · exact Or.inr (fun q => hn (q ▸ hx))
    have z1 : fRC (pRC σ a k v) b 73 = fRC σ b 73 := fR_pR (hz.elim (fun q => Or.inl (fun z => q.1 z.symm)) Or.inr)
    have z2 : fRC (pRC σ a k v) b 75 = fRC σ b 75 := fR_pR (hz.elim (fun q => Or.inl (fun z => q.2 z.symm)) Or.inr)
    exact ⟨⟨w.1, z1.trans w.2⟩, z2⟩
theorem pRC_comm {σ : CsC} {a k j : Nat} {v w : Option Nat} (h : j ≠ k) : pRC (pRC σ a k v) a j w = pRC (pRC σ a j w) a k v := by
  have e : u2C (u2C σ.2.2.1.2.2 a k v) a j w = u2C (u2C σ.2.2.1.2.2 a j w) a k v := by
    funext b i
    by_cases q1 : i = j
    · subst q1
      by_cases q2 : b = a
      · subst q2; rw [u2C_eq, u2C_nk h, u2C_eq]
      · rw [u2C_na q2, u2C_na q2, u2C_na q2, u2C_na q2]
    · rw [u2C_nk q1]
      by_cases q3 : i = k
      · subst q3
        by_cases q2 : b = a
        · subst q2; rw [u2C_eq, u2C_eq]
        · rw [u2C_na q2, u2C_na q2, u2C_na q2]
      · rw [u2C_nk q3, u2C_nk q3, u2C_nk q1]
  unfold pRC
  dsimp only
  rw [e]
theorem X2C.pR {σ : CsC} {a k : Nat} {v : Option Nat} (h : HIC σ) (ha : a < cnC σ) (ht : tgC σ a = 2) (hk : k ≠ 73 ∧ k ≠ 75) (hf : finC k = false) : X2C (pRC σ a k v) a := by
  have e : ExC [k] σ (pRC σ a k v) := ExC.pR (by simp) (Or.inr hf) (Or.inr (Or.inl hk.1))
  intro b hb
  rw [fR_pR (Or.inl (fun z => hk.2 z.symm))] at hb
  obtain ⟨q1, q2⟩ := (h.1 a ha).2.2.1 ht b hb
  refine ⟨q1, fun w => ?_⟩
  have w' : WhC σ a := by
    unfold WhC at w ⊢
    rw [fR_pR (Or.inl (fun z => hk.1 z.symm))] at w
    exact w
  exact ⟨(q2 w').1, (e.2.2 b q1.1).2.2.1.1 q1.2 (q2 w').2⟩
section KR11
variable {ct : CcC} {K : CkC} {Z : Option AvC → CsC → Prop} {is : List RI} {pc d b : Nat} {q : Int} {cs : List (Int × Nat)} {ls : ClC} {st : List AvC} {σ : CsC}
theorem k_putRg {j k a : Nat} {w : Option Nat} (o : ObC σ a (k / 30)) (hk : fkC k = 3) (h : cwpC ct K Z is (pc + 3) ls st (pRC σ a k w)) : cwpC ct K Z ((.putfield j, d, q, k, cs) :: is) pc ls (.inr (.inr w) :: .inr (.inr (some a)) :: st) σ := ⟨a, rfl, o, hk, h⟩
theorem k_p73 {j a c : Nat} (hI : HIC σ) (t : TyC σ a 2) (tc : TyC σ c 2) (h : ∀ τ, HIC τ → ExC [73] σ τ → GwC none σ τ → fRC τ a 73 = some c → cwpC ct K Z is (pc + 3) ls st τ) : cwpC ct K Z ((.putfield j, d, q, 73, cs) :: is) pc ls (.inr (.inr (some c)) :: .inr (.inr (some a)) :: st) σ := by
  have e : ExC [73] σ (pRC σ a 73 (some c)) := ExC.pR (by simp) (Or.inr (by decide)) (Or.inr (Or.inr (fun z => by cases z)))
  refine k_putRg (k := 73) (kgCob (k := 73) (c := 2) (by decide) t) (by decide) (h _ (hI.pRy (by decide) (Or.inr (fun z => by cases z)) (Or.inr ⟨tc, Or.inl rfl, Or.inl rfl, fun z => absurd z (by decide), fun z => absurd z (by decide)⟩) (XaC.of2 t.2.1 (fun b hb => ?_))) e (GwC.pR (by decide) (Or.inr (Or.inl (t.2.2 rfl)))) fR_pRs)
  rw [fR_pR (Or.inl (by decide))] at hb
  obtain ⟨q1, q2⟩ := (hI.1 a t.1).2.2.1 t.2.1 b hb
  exact ⟨q1, fun _ => ⟨(q2 (t.2.2 rfl)).1, (e.2.2 b q1.1).2.2.1.1 q1.2 (q2 (t.2.2 rfl)).2⟩⟩
theorem k_p75 {j a c : Nat} (hI : HIC σ) (t : TyC σ a 2) (tc : TyC σ c 2) (hac : a < c) (h : ∀ τ, HIC τ → ExC [75] σ τ → GwC none σ τ → fRC τ a 75 = some c → cwpC ct K Z is (pc + 3) ls st τ) : cwpC ct K Z ((.putfield j, d, q, 75, cs) :: is) pc ls (.inr (.inr (some c)) :: .inr (.inr (some a)) :: st) σ := by
  have e : ExC [75] σ (pRC σ a 75 (some c)) := ExC.pR (by simp) (Or.inr (by decide)) (Or.inr (Or.inl (by decide)))
  refine k_putRg (k := 75) (kgCob (k := 75) (c := 2) (by decide) t) (by decide) (h _ (hI.pRy (by decide) (Or.inl (by decide)) (Or.inl rfl) (XaC.of2 t.2.1 (fun b hb => ?_))) e (GwC.pR (by decide) (Or.inr (Or.inl (t.2.2 rfl)))) fR_pRs)
  rw [fR_pRs] at hb
  cases hb
  exact ⟨⟨tc.1, tc.2.1⟩, fun _ => ⟨hac, (tc.x e).2.2 rfl⟩⟩
theorem k_p186 {j a c : Nat} (hI : HIC σ) (t : TyC σ a 6) (tc : TyC σ c 9) (hk : (fIC σ c 270).toInt = 92) (h : ∀ τ, HIC τ → ExC [186] σ τ → GwC none σ τ → fRC τ a 186 = some c → cwpC ct K Z is (pc + 3) ls st τ) : cwpC ct K Z ((.putfield j, d, q, 186, cs) :: is) pc ls (.inr (.inr (some c)) :: .inr (.inr (some a)) :: st) σ := by
  have e : ExC [186] σ (pRC σ a 186 (some c)) := ExC.pR (by simp) (Or.inr (by decide)) (Or.inr (Or.inl (by decide)))
  refine k_putRg (k := 186) (kgCob (k := 186) (c := 6) (by decide) t) (by decide) (h _ (hI.pRy (by decide) (Or.inl (by decide)) (Or.inr ⟨tc, Or.inl rfl, Or.inl rfl, fun z => absurd z (by decide), fun z => absurd z (by decide)⟩) (XaC.of6 t.2.1 (fun b hb => ?_))) e (GwC.pR (by decide) (Or.inl (by decide))) fR_pRs)
  rw [fR_pRs] at hb
  cases hb
  exact hk
theorem k_p275 {j a : Nat} {w : Option Nat} (hI : HIC σ) (t : TyC σ a 9) (ho : OtC σ w 9) (hx : ∀ c, w = some c → a < c ∧ NxC σ a c) (h : ∀ τ, HIC τ → ExC [275] σ τ → fRC τ a 275 = w → cwpC ct K Z is (pc + 3) ls st τ) : cwpC ct K Z ((.putfield j, d, q, 275, cs) :: is) pc ls (.inr (.inr w) :: .inr (.inr (some a)) :: st) σ := by
  have e : ExC [275] σ (pRC σ a 275 w) := ExC.pR (by simp) (Or.inr (by decide)) (Or.inr (Or.inl (by decide)))
  have x9 := (hI.1 a t.1).2.2.2.2.1 t.2.1
  refine k_putRg (k := 275) (kgCob (k := 275) (c := 9) (by decide) t) (by decide) (h _ (hI.pRy (by decide) (Or.inl (by decide)) ?_ (XaC.of9 t.2.1 ⟨(fun b hb => by rw [fR_pRs] at hb; exact (hx b hb).2), (fun b hb => by rw [fR_pR (Or.inl (by decide))] at hb; exact x9.2.1 b hb), (fun b hb => by rw [fR_pR (Or.inl (by decide))] at hb; exact x9.2.2.1 b hb), (fun b hb => by rw [fR_pR (Or.inl (by decide))] at hb; exact x9.2.2.2 b hb)⟩)) e fR_pRs)
  cases w with
  | none => exact (rfl : (rfC 275).1 = 1)
  | some c => exact Or.inr ⟨ho c rfl, Or.inl rfl, Or.inl rfl, fun _ => (hx c rfl).1, fun z => absurd z (by decide)⟩
theorem k_p276 {j a : Nat} {w : Option Nat} (hI : HIC σ) (t : TyC σ a 9) (ho : OtC σ w 9) (hx : ∀ c, w = some c → a < c ∧ LvC σ a c) (h : ∀ τ, HIC τ → ExC [276] σ τ → fRC τ a 276 = w → cwpC ct K Z is (pc + 3) ls st τ) : cwpC ct K Z ((.putfield j, d, q, 276, cs) :: is) pc ls (.inr (.inr w) :: .inr (.inr (some a)) :: st) σ := by
  have e : ExC [276] σ (pRC σ a 276 w) := ExC.pR (by simp) (Or.inr (by decide)) (Or.inr (Or.inl (by decide)))
  have x9 := (hI.1 a t.1).2.2.2.2.1 t.2.1
  refine k_putRg (k := 276) (kgCob (k := 276) (c := 9) (by decide) t) (by decide) (h _ (hI.pRy (by decide) (Or.inl (by decide)) ?_ (XaC.of9 t.2.1 ⟨(fun b hb => by rw [fR_pR (Or.inl (by decide))] at hb; exact x9.1 b hb), (fun b hb => by rw [fR_pRs] at hb; exact (hx b hb).2), (fun b hb => by rw [fR_pR (Or.inl (by decide))] at hb; exact x9.2.2.1 b hb), (fun b hb => by rw [fR_pR (Or.inl (by decide))] at hb; exact x9.2.2.2 b hb)⟩)) e fR_pRs)
  cases w with
  | none => exact (rfl : (rfC 276).1 = 1)
  | some c => exact Or.inr ⟨ho c rfl, Or.inl rfl, Or.inl rfl, fun _ => (hx c rfl).1, fun z => absurd z (by decide)⟩
theorem k_p277 {j a : Nat} {w : Option Nat} (hI : HIC σ) (t : TyC σ a 9) (ho : OtC σ w 9) (hx : ∀ c, w = some c → a < c ∧ LvC σ a c) (h : ∀ τ, HIC τ → ExC [277] σ τ → fRC τ a 277 = w → cwpC ct K Z is (pc + 3) ls st τ) : cwpC ct K Z ((.putfield j, d, q, 277, cs) :: is) pc ls (.inr (.inr w) :: .inr (.inr (some a)) :: st) σ := by
  have e : ExC [277] σ (pRC σ a 277 w) := ExC.pR (by simp) (Or.inr (by decide)) (Or.inr (Or.inl (by decide)))
  have x9 := (hI.1 a t.1).2.2.2.2.1 t.2.1
  refine k_putRg (k := 277) (kgCob (k := 277) (c := 9) (by decide) t) (by decide) (h _ (hI.pRy (by decide) (Or.inl (by decide)) ?_ (XaC.of9 t.2.1 ⟨(fun b hb => by rw [fR_pR (Or.inl (by decide))] at hb; exact x9.1 b hb), (fun b hb => by rw [fR_pR (Or.inl (by decide))] at hb; exact x9.2.1 b hb), (fun b hb => by rw [fR_pRs] at hb; exact (hx b hb).2), (fun b hb => by rw [fR_pR (Or.inl (by decide))] at hb; exact x9.2.2.2 b hb)⟩)) e fR_pRs)
  cases w with
  | none => exact (rfl : (rfC 277).1 = 1)
  | some c => exact Or.inr ⟨ho c rfl, Or.inl rfl, Or.inl rfl, fun _ => (hx c rfl).1, fun z => absurd z (by decide)⟩
theorem k_p278 {j a : Nat} {w : Option Nat} (hI : HIC σ) (t : TyC σ a 9) (ho : OtC σ w 9) (hx : ∀ c, w = some c → a < c ∧ LvC σ a c) (h : ∀ τ, HIC τ → ExC [278] σ τ → fRC τ a 278 = w → cwpC ct K Z is (pc + 3) ls st τ) : cwpC ct K Z ((.putfield j, d, q, 278, cs) :: is) pc ls (.inr (.inr w) :: .inr (.inr (some a)) :: st) σ := by
  have e : ExC [278] σ (pRC σ a 278 w) := ExC.pR (by simp) (Or.inr (by decide)) (Or.inr (Or.inl (by decide)))
  have x9 := (hI.1 a t.1).2.2.2.2.1 t.2.1
  refine k_putRg (k := 278) (kgCob (k := 278) (c := 9) (by decide) t) (by decide) (h _ (hI.pRy (by decide) (Or.inl (by decide)) ?_ (XaC.of9 t.2.1 ⟨(fun b hb => by rw [fR_pR (Or.inl (by decide))] at hb; exact x9.1 b hb), (fun b hb => by rw [fR_pR (Or.inl (by decide))] at hb; exact x9.2.1 b hb), (fun b hb => by rw [fR_pR (Or.inl (by decide))] at hb; exact x9.2.2.1 b hb), (fun b hb => by rw [fR_pRs] at hb; exact (hx b hb).2)⟩)) e fR_pRs)
  cases w with
  | none => exact (rfl : (rfC 278).1 = 1)
  | some c => exact Or.inr ⟨ho c rfl, Or.inl rfl, Or.inl rfl, fun _ => (hx c rfl).1, fun z => absurd z (by decide)⟩
/-- what waits is laid -/
theorem k_u72 {j a c : Nat} (hI : HIC σ) (ha : a < cnC σ) (ht : tgC σ a = 2) (tc : TyC σ c 2) (h : ∀ τ, HIC τ → ExC [72] σ τ → cwpC ct K Z is (pc + 3) ls st τ) : cwpC ct K Z ((.putfield j, d, q, 72, cs) :: is) pc ls (.inr (.inr (some c)) :: .inr (.inr (some a)) :: st) σ := by
  have e : ExC [72] σ (pRC σ a 72 (some c)) := ExC.pR (by simp) (Or.inr (by decide)) (Or.inr (Or.inl (by decide)))
  exact k_putRg (k := 72) (⟨ha, by rw [ht]; decide, by rw [ht]; decide⟩) (by decide) (h _ (hI.pRy (by decide) (Or.inl (by decide)) (Or.inr ⟨tc, Or.inl rfl, Or.inl rfl, fun z => absurd z (by decide), fun z => absurd z (by decide)⟩) (XaC.of2 ht (X2C.pR hI ha ht (by decide) (by decide)))) e)
theorem k_u76 {j a c : Nat} (hI : HIC σ) (ha : a < cnC σ) (ht : tgC σ a = 2) (tc : TyC σ c 2) (h : ∀ τ, HIC τ → ExC [76] σ τ → cwpC ct K Z is (pc + 3) ls st τ) : cwpC ct K Z ((.putfield j, d, q, 76, cs) :: is) pc ls (.inr (.inr (some c)) :: .inr (.inr (some a)) :: st) σ := by
  have e : ExC [76] σ (pRC σ a 76 (some c)) := ExC.pR (by simp) (Or.inr (by decide)) (Or.inr (Or.inl (by decide)))
  exact k_putRg (k := 76) (⟨ha, by rw [ht]; decide, by rw [ht]; decide⟩) (by decide) (h _ (hI.pRy (by decide) (Or.inl (by decide)) (Or.inr ⟨tc, Or.inl rfl, Or.inl rfl, fun z => absurd z (by decide), fun z => absurd z (by decide)⟩) (XaC.of2 ht (X2C.pR hI ha ht (by decide) (by decide)))) e)
theorem k_u75 {j a : Nat} {w : Option Nat} (hI : HIC σ) (ha : a < cnC σ) (ht : tgC σ a = 2) (hw : WtC σ a) (ho : ∀ c, w = some c → c < cnC σ ∧ tgC σ c = 2) (h : ∀ τ, HIC τ → ExC [75] σ τ → GwC (some a) σ τ → fRC τ a 75 = w → cwpC ct K Z is (pc + 3) ls st τ) : cwpC ct K Z ((.putfield j, d, q, 75, cs) :: is) pc ls (.inr (.inr w) :: .inr (.inr (some a)) :: st) σ := by
  have e : ExC [75] σ (pRC σ a 75 w) := ExC.pR (by simp) (Or.inr (by decide)) (Or.inr (Or.inl (by decide)))
  refine k_putRg (k := 75) (⟨ha, by rw [ht]; decide, by rw [ht]; decide⟩) (by decide) (h _ (hI.pRy (by decide) (Or.inl (by decide)) ?_ (XaC.of2 ht (fun b hb => ?_))) e (GwC.pR (by decide) (Or.inr (Or.inr rfl))) fR_pRs)
  · cases w with
    | none => exact (rfl : (rfC 75).1 = 1)
    | some c => exact Or.inl rfl
  · rw [fR_pRs] at hb
    refine ⟨ho b hb, fun z => absurd ?_ z⟩
    exact ⟨hw.1, (fR_pR (Or.inl (by decide))).trans hw.2⟩
theorem k_cl {j1 j2 d1 d2 d3 b2 a c : Nat} {q1 q2 q3 : Int} {s1 s2 s3 : List (Int × Nat)} (l1 : lkC ls 1 = some (.inr (.inr (some a)))) (hI : HIC σ) (ha : a < cnC σ) (ht : tgC σ a = 2) (tc : TyC σ c 2) (h : ∀ τ, HIC τ → ExC [73, 75] σ τ → GwC (some a) σ τ → TyC τ a 2 → cwpC ct K Z is (pc + 3 + 1 + 1 + 3) ls st τ) :
    cwpC ct K Z ((.putfield j1, d, q, 73, cs) :: (.aload_n 1, d1, q1, 1, s1) :: (.aconst_null, d2, q2, b2, s2) :: (.putfield j2, d3, q3, 75, s3) :: is) pc ls (.inr (.inr (some c)) :: .inr (.inr (some a)) :: st) σ := by
  have o : ObC σ a 2 := ⟨ha, by rw [ht]; decide, by rw [ht]; decide⟩
  refine k_putRg (k := 73) o (by decide) ?_
  refine k_aload_n (v := some a) l1 (k_aconst_null ?_)
  refine k_putRg (k := 75) (show ObC (pRC σ a 73 (some c)) a 2 from o) (by decide) ?_
  show cwpC ct K Z is (pc + 3 + 1 + 1 + 3) ls st (pRC (pRC σ a 73 (some c)) a 75 none)
  rw [pRC_comm (by decide)]
  have e1 : ExC [73, 75] σ (pRC σ a 75 none) := ExC.pR (by decide) (Or.inr (by decide)) (Or.inr (Or.inl (by decide)))
  have h1 : HIC (pRC σ a 75 none) := hI.pRy (by decide) (Or.inl (by decide)) (rfl : (rfC 75).1 = 1) (XaC.of2 ht (fun b hb => by rw [fR_pRs] at hb; cases hb))
  have e2 : ExC [73, 75] (pRC σ a 75 none) (pRC (pRC σ a 75 none) a 73 (some c)) := ExC.pR (by decide) (Or.inr (by decide)) (Or.inr (Or.inr (fun z => by cases z)))
  have tc1 := tc.x e1
  have h2 : HIC (pRC (pRC σ a 75 none) a 73 (some c)) := h1.pRy (by decide) (Or.inr (fun z => by cases z)) (Or.inr ⟨tc1, Or.inl rfl, Or.inl rfl, fun z => absurd z (by decide), fun z => absurd z (by decide)⟩) (XaC.of2 ht (fun b hb => by
    rw [fR_pR (Or.inl (by decide)), fR_pRs] at hb
    cases hb))
  have g1 : GwC (some a) σ (pRC σ a 75 none) := GwC.pR (by decide) (Or.inr (Or.inr rfl))
  have g2 : GwC (some a) (pRC σ a 75 none) (pRC (pRC σ a 75 none) a 73 (some c)) := GwC.pR (by decide) (Or.inr (Or.inr rfl))
  exact h _ h2 (e1.tr e2) (g1.tr g2) ⟨ha, ht, fun _ z => by have := z.2; rw [fR_pRs] at this; cases this⟩
end KR11
theorem ExC.c243 {σ τ : CsC} {r : Nat} (h : HI0 σ) (t : TyC σ r 8) (e : ExC [243] σ τ) (hz : (fIC σ r 243).toInt = 0) (hn : ¬ (fIC τ r 243).toInt = 0) : CoC r 0 0 0 σ τ := by
  have e1 := t.mi e (k := 242) (by decide)
  have e3 := CtC.x h t e (by decide)
  have e4 : cnC τ = cnC σ := e.cn (by decide)
  have q : ∀ m : Int, CqC0 r 0 0 0 σ τ m m := fun m => ⟨fun z => absurd hz z, fun _ w => absurd w hn, fun _ _ => by rw [e1]; omega⟩
  refine ⟨by rw [e1]; exact Int.le_refl _, e3, fun z => by rw [e1, e3]; exact z, fun z => absurd hz z, by rw [e4]; exact q _, fun a ha ht => ⟨⟨by rw [e4]; exact ha, (e.2.2 a ha).1.1.trans ht⟩, by rw [((e.2.2 a ha).2.2.2 2 (by decide)).1]; exact q _⟩⟩
theorem ExC.c242 {σ τ : CsC} {r : Nat} (h : HI0 σ) (t : TyC σ r 8) (e : ExC [242] σ τ) (hz : (fIC σ r 243).toInt = 0) (ha : (fIC τ r 242).toInt = (fIC σ r 242).toInt + 1) (hc : (fIC σ r 242).toInt + 1 ≤ CtC σ r) : CoC r (-8) 0 0 σ τ := by
  have e1 := t.mi e (k := 243) (by decide)
  have e3 := CtC.x h t e (by decide)
  have e4 : cnC τ = cnC σ := e.cn (by decide)
  have q : ∀ m : Int, CqC0 r (-8) 0 0 σ τ m m := fun m => ⟨fun z => absurd hz z, fun _ _ => by rw [ha]; omega, fun _ w => absurd (by rw [e1]; exact hz) w⟩
  refine ⟨by omega, e3, fun _ => by rw [e3, ha]; exact hc, fun z => absurd hz z, by rw [e4]; exact q _, fun a ha' ht => ⟨⟨by rw [e4]; exact ha', (e.2.2 a ha').1.1.trans ht⟩, by rw [((e.2.2 a ha').2.2.2 2 (by decide)).1]; exact q _⟩⟩
theorem CqC0.ft {r : Nat} {e f g m n : Int} (e' : Int) {σ τ : CsC} (h : CqC0 r e f g σ τ m n) (hz : ¬ (fIC τ r 243).toInt = 0) : CqC0 r e' f g σ τ m n := ⟨h.1, fun _ w => absurd w hz, h.2.2⟩
theorem CoC.ft {r : Nat} {e f g : Int} (e' : Int) {σ τ : CsC} (h : CoC r e f g σ τ) (hz : ¬ (fIC τ r 243).toInt = 0) : CoC r e' f g σ τ := ⟨h.1, h.2.1, h.2.2.1, h.2.2.2.1, h.2.2.2.2.1.ft e' hz, fun a ha ht => ⟨(h.2.2.2.2.2 a ha ht).1, (h.2.2.2.2.2 a ha ht).2.ft e' hz⟩⟩
theorem RdC.ft {r : Nat} {x : Option Nat} {e f g : Int} (e' : Int) {σ τ : CsC} (h : RdC r x e f g σ τ) (hz : ¬ (fIC τ r 243).toInt = 0) : RdC r x e' f g σ τ := ⟨h.1, h.2.ft e' hz⟩
theorem gsC_le {σ : CsC} (n : Nat) : gsC σ n ≤ 6500 * n := by
  induction n with
  | zero => exact Nat.le_refl _
  | succ n ih =>
    have : gpC σ n ≤ 6500 := by
      unfold gpC
      split
      · split
        · split <;> omega
        · omega
      · omega
    show gsC σ n + gpC σ n ≤ _
    omega

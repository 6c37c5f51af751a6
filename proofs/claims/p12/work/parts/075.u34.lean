def KX6_init_0z8 : List RI := (.getfield 45, 3, 0, 215, []) :: (.iconst 4, 1, 0, 0, []) :: (.invokevirtual 52, 3, 1, 112, [(0, 0), (0, 0), (0, 0), (0, 0), (0, 0), (0, 0)]) :: (.return_, 1, 0, 0, []) :: []
theorem KX6_init_0z8e : KX6_init_0z8 = (.getfield 45, 3, 0, 215, []) :: (.iconst 4, 1, 0, 0, []) :: (.invokevirtual 52, 3, 1, 112, [(0, 0), (0, 0), (0, 0), (0, 0), (0, 0), (0, 0)]) :: (.return_, 1, 0, 0, []) :: [] := rfl
def KX6_init_0z7 : List RI := (.invokestatic 38, 3, 1, 186, []) :: (.iconst 3, 1, 0, 0, []) :: (.iconst 0, 1, 0, 0, []) :: (.invokespecial 42, 3, 4, 111, []) :: (.putfield 50, 3, 0, 216, []) :: (.aload_n 0, 1, 0, 0, []) :: KX6_init_0z8
theorem KX6_init_0z7e : KX6_init_0z7 = (.invokestatic 38, 3, 1, 186, []) :: (.iconst 3, 1, 0, 0, []) :: (.iconst 0, 1, 0, 0, []) :: (.invokespecial 42, 3, 4, 111, []) :: (.putfield 50, 3, 0, 216, []) :: (.aload_n 0, 1, 0, 0, []) :: KX6_init_0z8 := rfl
def KX6_init_0z6 : List RI := (.putfield 45, 3, 0, 215, []) :: (.aload_n 0, 1, 0, 0, []) :: (.new 34, 3, 0, 6, []) :: (.dup, 1, 0, 0, []) :: (.iconst (-1), 1, 0, 0, []) :: (.ldc 48, 2, 0, 1000005, []) :: KX6_init_0z7
theorem KX6_init_0z6e : KX6_init_0z6 = (.putfield 45, 3, 0, 215, []) :: (.aload_n 0, 1, 0, 0, []) :: (.new 34, 3, 0, 6, []) :: (.dup, 1, 0, 0, []) :: (.iconst (-1), 1, 0, 0, []) :: (.ldc 48, 2, 0, 1000005, []) :: KX6_init_0z7 := rfl
def KX6_init_0z5 : List RI := (.iconst (-1), 1, 0, 0, []) :: (.ldc 36, 2, 0, 1000004, []) :: (.invokestatic 38, 3, 1, 186, []) :: (.iconst 5, 1, 0, 0, []) :: (.iconst 0, 1, 0, 0, []) :: (.invokespecial 42, 3, 4, 111, []) :: KX6_init_0z6
theorem KX6_init_0z5e : KX6_init_0z5 = (.iconst (-1), 1, 0, 0, []) :: (.ldc 36, 2, 0, 1000004, []) :: (.invokestatic 38, 3, 1, 186, []) :: (.iconst 5, 1, 0, 0, []) :: (.iconst 0, 1, 0, 0, []) :: (.invokespecial 42, 3, 4, 111, []) :: KX6_init_0z6 := rfl
def KX6_init_0z4 : List RI := (.dup, 1, 0, 0, []) :: (.invokespecial 20, 3, 0, 233, []) :: (.putfield 31, 3, 0, 214, []) :: (.aload_n 0, 1, 0, 0, []) :: (.new 34, 3, 0, 6, []) :: (.dup, 1, 0, 0, []) :: KX6_init_0z5
theorem KX6_init_0z4e : KX6_init_0z4 = (.dup, 1, 0, 0, []) :: (.invokespecial 20, 3, 0, 233, []) :: (.putfield 31, 3, 0, 214, []) :: (.aload_n 0, 1, 0, 0, []) :: (.new 34, 3, 0, 6, []) :: (.dup, 1, 0, 0, []) :: KX6_init_0z5 := rfl
def KX6_init_0z3 : List RI := (.new 18, 3, 2, 0, []) :: (.dup, 1, 0, 0, []) :: (.invokespecial 20, 3, 0, 233, []) :: (.putfield 28, 3, 0, 213, []) :: (.aload_n 0, 1, 0, 0, []) :: (.new 18, 3, 9, 0, []) :: KX6_init_0z4
theorem KX6_init_0z3e : KX6_init_0z3 = (.new 18, 3, 2, 0, []) :: (.dup, 1, 0, 0, []) :: (.invokespecial 20, 3, 0, 233, []) :: (.putfield 28, 3, 0, 213, []) :: (.aload_n 0, 1, 0, 0, []) :: (.new 18, 3, 9, 0, []) :: KX6_init_0z4 := rfl
def KX6_init_0z2 : List RI := (.aload_n 0, 1, 0, 0, []) :: (.new 18, 3, 11, 0, []) :: (.dup, 1, 0, 0, []) :: (.invokespecial 20, 3, 0, 233, []) :: (.putfield 25, 3, 0, 212, []) :: (.aload_n 0, 1, 0, 0, []) :: KX6_init_0z3
theorem KX6_init_0z2e : KX6_init_0z2 = (.aload_n 0, 1, 0, 0, []) :: (.new 18, 3, 11, 0, []) :: (.dup, 1, 0, 0, []) :: (.invokespecial 20, 3, 0, 233, []) :: (.putfield 25, 3, 0, 212, []) :: (.aload_n 0, 1, 0, 0, []) :: KX6_init_0z3 := rfl
def KX6_init_0z1 : List RI := (.putfield 12, 3, 0, 210, []) :: (.aload_n 0, 1, 0, 0, []) :: (.new 18, 3, 6, 0, []) :: (.dup, 1, 0, 0, []) :: (.invokespecial 20, 3, 0, 233, []) :: (.putfield 21, 3, 0, 211, []) :: KX6_init_0z2
theorem KX6_init_0z1e : KX6_init_0z1 = (.putfield 12, 3, 0, 210, []) :: (.aload_n 0, 1, 0, 0, []) :: (.new 18, 3, 6, 0, []) :: (.dup, 1, 0, 0, []) :: (.invokespecial 20, 3, 0, 233, []) :: (.putfield 21, 3, 0, 211, []) :: KX6_init_0z2 := rfl
theorem KX6_init_0e : KX6_init_0 = (.aload_n 0, 1, 0, 0, []) :: (.invokespecial 3, 3, 0, 9999, []) :: (.aload_n 0, 1, 0, 0, []) :: (.new 9, 3, 0, 10, []) :: (.dup, 1, 0, 0, []) :: (.invokespecial 11, 3, 0, 184, []) :: KX6_init_0z1 := rfl
theorem ug215 (σ : CsC) (a : Nat) : gtC σ a 215 = .inr (.inr (fRC σ a 215)) := rfl
theorem ug363 (σ : CsC) (a : Nat) : gtC σ a 363 = .inr (.inr (fRC σ a 363)) := rfl
theorem ug364 (σ : CsC) (a : Nat) : gtC σ a 364 = .inr (.inr (fRC σ a 364)) := rfl
theorem ug367 (σ : CsC) (a : Nat) : gtC σ a 367 = .inr (.inr (fRC σ a 367)) := rfl
/-- what a piece of a constructor of p0 leaves as it was: fields F of p0, and of all that was there: tags, final fields, words -/
def Kp (F : List Nat) (p0 : Nat) (σ τ : CsC) : Prop := ((cnC σ ≤ cnC τ ∧ tgC τ p0 = tgC σ p0) ∧ ∀ k, F.elem k = true → fRC τ p0 k = fRC σ p0 k) ∧ ∀ b, b < cnC σ → b ≠ p0 → (tgC τ b = tgC σ b ∧ ghC τ b = ghC σ b) ∧ (tgC σ b < 13 → ∀ k, finC k = true → fRC τ b k = fRC σ b k) ∧ (tgC σ b = 102 → ghC σ b = 5 → eLC τ b = eLC σ b) ∧ fIC τ b 305 = fIC σ b 305 ∧ fIC τ b 2 = fIC σ b 2
theorem Kp.tr {F : List Nat} {p0 : Nat} {σ τ υ : CsC} (h1 : Kp F p0 σ τ) (h2 : Kp F p0 τ υ) : Kp F p0 σ υ := by
  refine ⟨⟨⟨Nat.le_trans h1.1.1.1 h2.1.1.1, h2.1.1.2.trans h1.1.1.2⟩, fun k hk => (h2.1.2 k hk).trans (h1.1.2 k hk)⟩, fun b hb hn => ?_⟩
  obtain ⟨⟨a1, a2⟩, a3, a4, a5⟩ := h1.2 b hb hn
  obtain ⟨⟨b1, b2⟩, b3, b4, b5⟩ := h2.2 b (Nat.lt_of_lt_of_le hb h1.1.1.1) hn
  exact ⟨⟨b1.trans a1, b2.trans a2⟩, fun h k hk => (b3 (by rw [a1]; exact h) k hk).trans (a3 h k hk), fun h g => (b4 (a1.trans h) (a2.trans g)).trans (a4 h g), b5.1.trans a5.1, b5.2.trans a5.2⟩
theorem Kp.nil {F : List Nat} {p0 : Nat} {σ τ : CsC} (h : Kp F p0 σ τ) : Kp [] p0 σ τ := ⟨⟨h.1.1, fun _ hk => by cases hk⟩, h.2⟩
theorem Kp.sub {F F' : List Nat} {p0 : Nat} {σ τ : CsC} (h : Kp F p0 σ τ) (hs : ∀ k, F'.elem k = true → F.elem k = true) : Kp F' p0 σ τ := ⟨⟨h.1.1, fun k hk => h.1.2 k (hs k hk)⟩, h.2⟩
theorem Kp.p {F : List Nat} {p0 k : Nat} {σ : CsC} {v : Option Nat} (hk : F.elem k = false) : Kp F p0 σ (pRC σ p0 k v) := by
  refine ⟨⟨⟨Nat.le_refl _, rfl⟩, fun j hj => ?_⟩, fun b hb hn => ⟨⟨rfl, rfl⟩, fun _ j _ => ?_, fun _ _ => rfl, rfl, rfl⟩⟩
  · show u2C (fRC σ) p0 k v p0 j = _
    exact u2C_nk (fun q => by rw [q, hk] at hj; cases hj)
  · show u2C (fRC σ) p0 k v b j = _
    exact u2C_na hn
theorem Kp.pi {F : List Nat} {p0 k : Nat} {σ : CsC} {v : Int32} : Kp F p0 σ (pIC σ p0 k v) := ⟨⟨⟨Nat.le_refl _, rfl⟩, fun _ _ => rfl⟩, fun b _ hn => ⟨⟨rfl, rfl⟩, fun _ _ _ => rfl, fun _ _ => rfl, u2C_na hn, u2C_na hn⟩⟩
theorem nO_t {σ : CsC} {t N g b : Nat} (h : b < cnC σ) : tgC (nOC σ t N g) b = tgC σ b ∧ ghC (nOC σ t N g) b = ghC σ b := by
  have e : (nOC σ t N g).2.1 b = σ.2.1 b := u1C_ne (by omega)
  unfold tgC ghC
  rw [e]
  exact ⟨rfl, rfl⟩
theorem nA_t {σ : CsC} {t N g b : Nat} (h : b < cnC σ) : tgC (nAC σ t N g) b = tgC σ b ∧ ghC (nAC σ t N g) b = ghC σ b := by
  have e : (nAC σ t N g).2.1 b = σ.2.1 b := u1C_ne (by omega)
  unfold tgC ghC
  rw [e]
  exact ⟨rfl, rfl⟩
theorem nO_f {σ : CsC} {t N g b k : Nat} (h : b < cnC σ) : fRC (nOC σ t N g) b k = fRC σ b k := by
  have e : (nOC σ t N g).2.2.1.2.2 b = σ.2.2.1.2.2 b := u1C_ne (by omega)
  show (nOC σ t N g).2.2.1.2.2 b k = σ.2.2.1.2.2 b k
  rw [e]
theorem nO_i {σ : CsC} {t N g b k : Nat} (h : b < cnC σ) : fIC (nOC σ t N g) b k = fIC σ b k := by
  have e : (nOC σ t N g).2.2.1.1 b = σ.2.2.1.1 b := u1C_ne (by omega)
  show (nOC σ t N g).2.2.1.1 b k = σ.2.2.1.1 b k
  rw [e]
theorem Kp.na {F : List Nat} {p0 : Nat} {σ : CsC} {t n g : Nat} (hp : p0 < cnC σ) : Kp F p0 σ (nAC σ t n g) := by
  refine ⟨⟨⟨Nat.le_succ _, (nA_t hp).1⟩, fun _ _ => rfl⟩, fun b hb _ => ⟨nA_t hb, fun _ _ _ => rfl, fun _ _ => ?_, rfl, rfl⟩⟩
  show u1C (eLC σ) (cnC σ) _ b = _
  exact u1C_ne (by omega)
theorem Kp.ne {F M : List Nat} {p0 : Nat} {σ τ : CsC} {t N g : Nat} (e : ExT (cnC σ) M (nOC σ t N g) τ) (oe : ∀ b, b < cnC σ → tgC σ b = 102 → ghC σ b = 5 → eLC τ b = eLC σ b) (hF : ∀ k, F.elem k = true → M.elem k = false) (hp : p0 < cnC σ) (m5 : M.elem 305 = false ∧ M.elem 2 = false) : Kp F p0 σ τ := by
  have c1 : cnC (nOC σ t N g) = cnC σ + 1 := rfl
  refine ⟨⟨⟨by have := e.1; omega, (e.2.2 p0 (by omega) (by omega)).1.1.trans (nO_t hp).1⟩, fun k hk => ?_⟩, fun b hb hn => ?_⟩
  · rw [((e.2.2 p0 (by omega) (by omega)).2.2.2 k (hF k hk)).2]
    exact nO_f hp
  · obtain ⟨⟨a1, -, a2⟩, a3, -, a5⟩ := e.2.2 b (by omega) (by omega)
    obtain ⟨n1, n2⟩ := nO_t (t := t) (N := N) (g := g) hb
    exact ⟨⟨a1.trans n1, a2.trans n2⟩, fun h k hk => ((a3 (by rw [n1]; exact h) k hk).2).trans (nO_f hb), oe b hb, (a5 305 m5.1).1.trans (nO_i hb), (a5 2 m5.2).1.trans (nO_i hb)⟩
theorem Kp.nx {F M : List Nat} {p0 : Nat} {σ τ : CsC} {t N g : Nat} (e : ExT (cnC σ) M (nOC σ t N g) τ) (m : M.elem 996 = false ∧ M.elem 305 = false ∧ M.elem 2 = false) (hF : ∀ k, F.elem k = true → M.elem k = false) (hp : p0 < cnC σ) : Kp F p0 σ τ := by
  refine Kp.ne e (fun b hb h g' => ?_) hF hp m.2
  have c1 : cnC (nOC σ t N g) = cnC σ + 1 := rfl
  obtain ⟨n1, n2⟩ := nO_t (t := t) (N := N) (g := g) hb
  exact (e.2.1.2.2 b (by omega) (by omega) (by rw [n1, n2, h, g']; exact prC.w m.1)).2
theorem Kp.c {F M : List Nat} {p0 : Nat} {σ τ : CsC} (e : ExC M σ τ) (m : M.elem 996 = false ∧ M.elem 305 = false ∧ M.elem 2 = false) (hF : ∀ k, F.elem k = true → M.elem k = false) (hp : p0 < cnC σ) : Kp F p0 σ τ := by
  refine ⟨⟨⟨e.1, (e.2.2 p0 hp).1.1⟩, fun k hk => ((e.2.2 p0 hp).2.2.2 k (hF k hk)).2⟩, fun b hb _ => ?_⟩
  obtain ⟨⟨a1, -, a2⟩, a3, -, a5⟩ := e.2.2 b hb
  exact ⟨⟨a1, a2⟩, fun h k hk => (a3 h k hk).2, fun h g => (e.2.1.2.2 b hb (by rw [h, g]; exact prC.w m.1)).2, (a5 305 m.2.1).1, (a5 2 m.2.2).1⟩
/-- the words stand in the Tokens t -/
def WW (τ : CsC) (t c : Nat) : Prop := (t < cnC τ ∧ tgC τ t = 10) ∧ fRC τ t 306 = some c ∧ (c < cnC τ ∧ tgC τ c = 102 ∧ ghC τ c = 5) ∧ ∀ k, k < 24 → (eLC τ c k).toInt = kyY (wkY.getD k [])
def WP (τ : CsC) (P t c : Nat) : Prop := (P < cnC τ ∧ tgC τ P = 7) ∧ fRC τ P 210 = some t ∧ WW τ t c
theorem WW.k {F : List Nat} {p0 t c : Nat} {σ τ : CsC} (h : WW σ t c) (k : Kp F p0 σ τ) (ht : t ≠ p0) (hc : c ≠ p0) : WW τ t c := by
  obtain ⟨⟨h1, h2⟩, h3, ⟨h4, h5, h6⟩, h7⟩ := h
  obtain ⟨⟨a1, a2⟩, a3, -⟩ := k.2 t h1 ht
  obtain ⟨⟨b1, b2⟩, -, b4, -⟩ := k.2 c h4 hc
  have c1 := k.1.1.1
  exact ⟨⟨by omega, a1.trans h2⟩, (a3 (by omega) 306 rfl).trans h3, ⟨by omega, b1.trans h5, b2.trans h6⟩, fun j hj => by rw [b4 h5 h6]; exact h7 j hj⟩
theorem WP.k {F : List Nat} {p0 P t c : Nat} {σ τ : CsC} (h : WP σ P t c) (k : Kp F p0 σ τ) (hp : P ≠ p0) (ht : t ≠ p0) (hc : c ≠ p0) : WP τ P t c := by
  obtain ⟨⟨h1, h2⟩, h3, h4⟩ := h
  obtain ⟨⟨a1, -⟩, a3, -⟩ := k.2 P h1 hp
  have c1 := k.1.1.1
  exact ⟨⟨by omega, a1.trans h2⟩, (a3 (by omega) 210 rfl).trans h3, h4.k k ht hc⟩
theorem WP.k' {F : List Nat} {p0 P t c : Nat} {σ τ : CsC} (h : WP σ P t c) (k : Kp F p0 σ τ) (ht : tgC σ p0 = 62) : WP τ P t c := by
  have h1 := h.1.2
  have h2 := h.2.2.1.2
  have h3 := h.2.2.2.2.1.2.1
  exact h.k k (fun q => by rw [q] at h1; omega) (fun q => by rw [q] at h2; omega) (fun q => by rw [q] at h3; omega)
theorem NwR.k {F : List Nat} {p0 t N : Nat} {σ τ : CsC} (h : NwR N σ t) (k : Kp F p0 σ τ) (h1 : t < cnC σ) (h2 : tgC σ t = 10) (ht : t ≠ p0) : NwR N τ t := by
  have a3 := (k.2 t h1 ht).2.1 (by omega)
  have a5 := (k.2 t h1 ht).2.2.2.1
  unfold NwR at *
  rw [a3 300 rfl, a3 301 rfl, a3 302 rfl, a5]
  exact h
theorem NwR.le {t N M : Nat} {σ : CsC} (h : NwR N σ t) (hm : M ≤ N) : NwR M σ t := by
  obtain ⟨⟨a, a1, a2⟩, ⟨b, b1, b2⟩, ⟨c, c1, c2⟩, z⟩ := h
  exact ⟨⟨a, a1, Nat.le_trans hm a2⟩, ⟨b, b1, Nat.le_trans hm b2⟩, ⟨c, c1, Nat.le_trans hm c2⟩, z⟩
theorem WW.mk {τ : CsC} {t c : Nat} (H : HIC τ) (ty : TyC τ t 10) (hf : fRC τ t 306 = some c) (hk : ∀ k, k < 24 → (eLC τ c k).toInt = kyY (wkY.getD k [])) : WW τ t c := by
  obtain ⟨a, -, e, ta, -, ga⟩ := cg306 H.1 ty
  obtain rfl : c = a := Option.some.inj (hf.symm.trans e)
  exact ⟨⟨ty.1, ty.2.1⟩, hf, ⟨ta.1, ta.2.1, ga⟩, hk⟩
theorem WP.mk {τ : CsC} {P t c : Nat} (H : HIC τ) (ty : TyC τ P 7) (hp : fRC τ P 210 = some t) (hf : fRC τ t 306 = some c) (hk : ∀ k, k < 24 → (eLC τ c k).toInt = kyY (wkY.getD k [])) : WP τ P t c := by
  obtain ⟨a, -, e, ta⟩ := cg210 H.1 ty
  obtain rfl : t = a := Option.some.inj (hp.symm.trans e)
  exact ⟨⟨ty.1, ty.2.1⟩, hp, WW.mk H ta hf hk⟩
/-- a new list in a field of p0 -/
def LnF (τ : CsC) (p0 k a : Nat) : Prop := (a < cnC τ ∧ a ≠ p0 ∧ fIC τ a 2 = 0) ∧ fRC τ p0 k = some a
theorem LnF.k {F : List Nat} {σ τ : CsC} {p0 k a : Nat} (h : LnF σ p0 k a) (q : Kp F p0 σ τ) (hk : F.elem k = true) : LnF τ p0 k a := by
  obtain ⟨⟨h1, h2, h3⟩, h4⟩ := h
  exact ⟨⟨Nat.lt_of_lt_of_le h1 q.1.1.1, h2, (q.2 a h1 h2).2.2.2.2.trans h3⟩, (q.1.2 k hk).trans h4⟩
theorem LnF.new {τ : CsC} {p0 k a : Nat} (h1 : a < cnC τ) (h2 : p0 < a) (h3 : fIC τ a 2 = 0) : LnF (pRC τ p0 k (some a)) p0 k a := ⟨⟨h1, by omega, h3⟩, fR_w1⟩
/-- the lists of methods and of variables are new, and nothing stands there -/
def NwL (N : Nat) (τ : CsC) (p0 : Nat) : Prop := ∀ k, k = 211 ∨ k = 212 → ∃ a, fRC τ p0 k = some a ∧ N ≤ a ∧ fIC τ a 2 = 0
abbrev U_lin : CqC := fun As _ _ τ => match As with
  | [.inr (.inr (some p0))] => fIC τ p0 2 = 0
  | _ => True
theorem n_lin (l : Launch) : CMetC l 10 233 P_Jx4a65c_init_da8c8 (fun As σ w τ => Q_Jx4a65c_init_da8c8 As σ w τ ∧ U_lin As σ w τ) := by
  refine CMetC.of KJx4a65c_init_da8c8 [(250, P_in1, Q_in1)] hJx4a65c_init_da8c8 (by decide) (by decide) okJx4a65c_init_da8c8 (cc1C (m_in1 l) (by decide) cc0C) ?_ ?_
  · rintro As σ ⟨p0, rfl, -⟩
    exact Nat.le_of_ble_eq_true rfl
  · rintro As σ0 ⟨p0, rfl, H0, r0, z0, -, -⟩ hgr G hB hW
    change G 0 [(0, .inr (.inr (some p0)))] [] σ0
    refine hB _ _ _ _ (kgoC (is := KJx4a65c_init_da8c8_0) rfl (k_aload_n rfl (k_spec (P := P_in1) (Q := Q_in1) rfl rfl rfl rfl (Nat.le_of_ble_eq_true rfl) ⟨p0, rfl, r0.ob⟩ (fun w σ1 hq => ?_))))
    obtain ⟨rfl, z, rfl⟩ := hq
    have H1 : HIC (pIC σ0 p0 0 z) := H0.pIr r0.ge
    have H2 : HIC (pRC (pIC σ0 p0 0 z) p0 1 (some 1000000)) := H1.pRr r0.ge
    have e2 : fIC (pRC (pIC σ0 p0 0 z) p0 1 (some 1000000)) p0 2 = 0 := (fI_pI (σ := σ0) (a := p0) (k := 0) (v := z) (b := p0) (j := 2) (Or.inl (by decide))).trans (z0 2).1
    have e1 : fRC (pRC (pIC σ0 p0 0 z) p0 1 (some 1000000)) p0 1 = some 1000000 := fR_pRs
    have H3 : HIC (rTC (pRC (pIC σ0 p0 0 z) p0 1 (some 1000000)) p0 0 (ghC σ0 p0)) := HIC.fin (σ := pRC (pIC σ0 p0 0 z) p0 1 (some 1000000)) (c := 0) H2 r0 rfl (fn0 (by rw [e2]; exact ⟨by decide, by decide⟩)) (XaC.of0 rT_tg (Or.inl ⟨e1, congrArg Int32.toInt e2⟩)) (fun z => absurd z (by decide))
    exact k_st (st' := []) rfl (k_aload_n rfl (k_gets (k_putRg (k := 1) r0.ob (by decide) (k_returnW (τ := rTC (pRC (pIC σ0 p0 0 z) p0 1 (some 1000000)) p0 0 (ghC σ0 p0)) (RawC.we (σ := pRC (pIC σ0 p0 0 z) p0 1 (some 1000000)) r0) ⟨⟨rfl, H3, (ExT.pI.tr ExT.pR).tr ExT.rT, ⟨r0.1, rT_tg, fun z => absurd z (by decide)⟩, rT_gh, rfl, rfl⟩, e2⟩))))
abbrev Pp_ini6 (_y : Unit) : CpC := fun _ _ => True
abbrev Qp_ini6 (_y : Unit) : CqC := fun As σ w τ => match As with
  | [.inr (.inr (some p0))] => ((∀ b, b < cnC σ → tgC σ b = 102 → ghC σ b = 5 → eLC τ b = eLC σ b) ∧ NwL (cnC σ) τ p0) ∧ ∃ t c, (cnC σ ≤ t ∧ NwR (cnC σ) τ t) ∧ fRC τ p0 210 = some t ∧ fRC τ t 306 = some c ∧ ∀ k, k < 24 → (eLC τ c k).toInt = kyY (wkY.getD k [])
  | _ => True
theorem p_ini6 (y : Unit) : PbC KX6_init [(184, P_X9_init, Q_X9_init), (233, P_Jx4a65c_init_da8c8, Q_Jx4a65c_init_da8c8), (186, P_X9_keyOf, Q_X9_keyOf), (111, P_X5_init, Q_X5_init), (112, P_X5_addParam, Q_X5_addParam)] [(184, U_ini9), (233, U_lin)] (fun As σ => P_X6_init As σ ∧ Pp_ini6 y As σ) (Qp_ini6 y) := by
  rintro As σ ⟨⟨p0, rfl, H0, hr, -⟩, -⟩ K hB hW n
  have hp0 := hr.1
  change K n 0 [(0, .inr (.inr (some p0)))] [] σ
  have hF1 : ∀ (M : List Nat) (k : Nat), M = [] ∨ M = [999] → [210].elem k = true → M.elem k = false := by
    intro M k hM hk
    have e : k = 210 := by simpa using hk
    subst e
    rcases hM with rfl | rfl <;> rfl
  have hF3 : ∀ (M : List Nat) (k0 k : Nat), (k0 = 211 ∨ k0 = 212) → M = [] ∨ M = [999] ∨ M = [185, 995] → [k0].elem k = true → M.elem k = false := by
    intro M k0 k h0 hM hk
    have e : k = k0 := by simpa using hk
    subst e
    rcases h0 with rfl | rfl <;> rcases hM with rfl | rfl | rfl <;> rfl
  have hF2 : ∀ k, [210].elem k = true → [185, 995].elem k = false := by
    intro k hk
    have e : k = 210 := by simpa using hk
    subst e
    rfl
  refine hB _ _ _ _ _ (fun m1 hm1 => ?_)
  dsimp only [ucgo, ucwp, ucsC, uqC, uoC, ctC, rfd, KX6_init, KX6_init_0e, lkC, s1C, s2C, dlC, kyC, Nat.beq, rcd, rno, Nat.reduceAdd, Nat.reduceBEq, Nat.reduceDiv, List.drop, List.take, List.reverse, List.reverseAux, Int.toNat, Option.toList, List.append, List.cons_append, List.nil_append, fI_qI, fR_qI, fL_qI, fI_qL, fR_qL, fL_qL, ug215]
  intro w2 τ2 o2 q2
  obtain ⟨rfl, HI2, ex2, ty2, -⟩ := o2
  obtain ⟨⟨ol, hN0⟩, c, hc, hf, hk⟩ := q2 () trivial
  have kp0 : Kp [] p0 σ τ2 := Kp.ne ex2 (fun b hb _ _ => ol.2 b (Nat.lt_succ_of_lt hb)) (fun _ h => by cases h) hp0 (by decide)
  have hW0 := WW.mk HI2 ty2 hf hk
  have hp1 : p0 < cnC τ2 := Nat.lt_of_lt_of_le hp0 kp0.1.1.1
  have hc1 : cnC σ + 1 ≤ c := hc
  dsimp only [Option.toList, List.cons_append, List.nil_append, s1C, s2C, dlC, kyC, Nat.beq, lkC, rcd, rno]
  dsimp only [ucgo, ucwp, ucsC, uqC, uoC, ctC, rfd, KX6_init, KX6_init_0z1e, lkC, s1C, s2C, dlC, kyC, Nat.beq, rcd, rno, Nat.reduceAdd, Nat.reduceBEq, Nat.reduceDiv, List.drop, List.take, List.reverse, List.reverseAux, Int.toNat, Option.toList, List.append, List.cons_append, List.nil_append, fI_qI, fR_qI, fL_qI, fI_qL, fR_qL, fL_qL, ug215]
  intro a3 e3 ob3 fk3
  cases e3
  intro w4 τ4 o4 q4
  obtain ⟨rfl, -, ex4, -⟩ := o4
  have kp4 := Kp.p (F := []) (p0 := p0) (k := 210) (σ := τ2) (v := some (cnC σ)) rfl
  have kp1_ := (kp0.tr kp4)
  have kk4 : Kp [210] p0 _ _ := Kp.nx (F := [210]) (p0 := p0) ex4 (by decide) (fun k h => hF1 _ k (by first | exact Or.inl rfl | exact Or.inr rfl) h) hp1
  have l4 : cnC τ2 < cnC τ4 := ex4.1
  have z4 : fIC τ4 (cnC τ2) 2 = 0 := q4
  dsimp only [Option.toList, List.cons_append, List.nil_append, s1C, s2C, dlC, kyC, Nat.beq, lkC, rcd, rno]
  intro a5 e5 ob5 fk5
  cases e5
  dsimp only [ucgo, ucwp, ucsC, uqC, uoC, ctC, rfd, KX6_init, KX6_init_0z2e, lkC, s1C, s2C, dlC, kyC, Nat.beq, rcd, rno, Nat.reduceAdd, Nat.reduceBEq, Nat.reduceDiv, List.drop, List.take, List.reverse, List.reverseAux, Int.toNat, Option.toList, List.append, List.cons_append, List.nil_append, fI_qI, fR_qI, fL_qI, fI_qL, fR_qL, fL_qL, ug215]
  intro w6 τ6 o6 q6
  obtain ⟨rfl, -, ex6, -⟩ := o6
  have kk6 := kk4.tr ((Kp.p (F := [210]) (p0 := p0) (k := 211) rfl).tr (Kp.nx (F := [210]) (p0 := p0) ex6 (by decide) (fun k h => hF1 _ k (by first | exact Or.inl rfl | exact Or.inr rfl) h) (Nat.lt_of_lt_of_le hp1 kk4.1.1.1)))
  have l6 : cnC τ4 < cnC τ6 := ex6.1
  have z6 : fIC τ6 (cnC τ4) 2 = 0 := q6
  have v211_6 := (LnF.new (k := 211) l4 (hp1) z4).k (Kp.nx (F := [211]) (p0 := p0) ex6 (by decide) (fun j h => hF3 _ 211 j (by decide) (by first | exact Or.inl rfl | exact Or.inr (Or.inl rfl) | exact Or.inr (Or.inr rfl)) h) (Nat.lt_of_lt_of_le hp1 kk4.1.1.1)) rfl
  dsimp only [Option.toList, List.cons_append, List.nil_append, s1C, s2C, dlC, kyC, Nat.beq, lkC, rcd, rno]
  intro a7 e7 ob7 fk7
  cases e7
  dsimp only [ucgo, ucwp, ucsC, uqC, uoC, ctC, rfd, KX6_init, KX6_init_0z3e, lkC, s1C, s2C, dlC, kyC, Nat.beq, rcd, rno, Nat.reduceAdd, Nat.reduceBEq, Nat.reduceDiv, List.drop, List.take, List.reverse, List.reverseAux, Int.toNat, Option.toList, List.append, List.cons_append, List.nil_append, fI_qI, fR_qI, fL_qI, fI_qL, fR_qL, fL_qL, ug215]
  intro w8 τ8 o8 q8
  obtain ⟨rfl, -, ex8, -⟩ := o8
  have kk8 := kk6.tr ((Kp.p (F := [210]) (p0 := p0) (k := 212) rfl).tr (Kp.nx (F := [210]) (p0 := p0) ex8 (by decide) (fun k h => hF1 _ k (by first | exact Or.inl rfl | exact Or.inr rfl) h) (Nat.lt_of_lt_of_le hp1 kk6.1.1.1)))
  have l8 : cnC τ6 < cnC τ8 := ex8.1
  have v211_8 := v211_6.k ((Kp.p (F := [211]) (p0 := p0) (k := 212) rfl).tr (Kp.nx (F := [211]) (p0 := p0) ex8 (by decide) (fun j h => hF3 _ 211 j (by decide) (by first | exact Or.inl rfl | exact Or.inr (Or.inl rfl) | exact Or.inr (Or.inr rfl)) h) (Nat.lt_of_lt_of_le hp1 kk6.1.1.1))) rfl
  have v212_8 := (LnF.new (k := 212) l6 (Nat.lt_of_lt_of_le hp1 kk4.1.1.1) z6).k (Kp.nx (F := [212]) (p0 := p0) ex8 (by decide) (fun j h => hF3 _ 212 j (by decide) (by first | exact Or.inl rfl | exact Or.inr (Or.inl rfl) | exact Or.inr (Or.inr rfl)) h) (Nat.lt_of_lt_of_le hp1 kk6.1.1.1)) rfl
  dsimp only [Option.toList, List.cons_append, List.nil_append, s1C, s2C, dlC, kyC, Nat.beq, lkC, rcd, rno]
  intro a9 e9 ob9 fk9
  cases e9
  dsimp only [ucgo, ucwp, ucsC, uqC, uoC, ctC, rfd, KX6_init, KX6_init_0z4e, lkC, s1C, s2C, dlC, kyC, Nat.beq, rcd, rno, Nat.reduceAdd, Nat.reduceBEq, Nat.reduceDiv, List.drop, List.take, List.reverse, List.reverseAux, Int.toNat, Option.toList, List.append, List.cons_append, List.nil_append, fI_qI, fR_qI, fL_qI, fI_qL, fR_qL, fL_qL, ug215]
  intro w10 τ10 o10 q10
  obtain ⟨rfl, -, ex10, -⟩ := o10
  have kk10 := kk8.tr ((Kp.p (F := [210]) (p0 := p0) (k := 213) rfl).tr (Kp.nx (F := [210]) (p0 := p0) ex10 (by decide) (fun k h => hF1 _ k (by first | exact Or.inl rfl | exact Or.inr rfl) h) (Nat.lt_of_lt_of_le hp1 kk8.1.1.1)))
  have v211_10 := v211_8.k ((Kp.p (F := [211]) (p0 := p0) (k := 213) rfl).tr (Kp.nx (F := [211]) (p0 := p0) ex10 (by decide) (fun j h => hF3 _ 211 j (by decide) (by first | exact Or.inl rfl | exact Or.inr (Or.inl rfl) | exact Or.inr (Or.inr rfl)) h) (Nat.lt_of_lt_of_le hp1 kk8.1.1.1))) rfl
  have v212_10 := v212_8.k ((Kp.p (F := [212]) (p0 := p0) (k := 213) rfl).tr (Kp.nx (F := [212]) (p0 := p0) ex10 (by decide) (fun j h => hF3 _ 212 j (by decide) (by first | exact Or.inl rfl | exact Or.inr (Or.inl rfl) | exact Or.inr (Or.inr rfl)) h) (Nat.lt_of_lt_of_le hp1 kk8.1.1.1))) rfl
  dsimp only [Option.toList, List.cons_append, List.nil_append, s1C, s2C, dlC, kyC, Nat.beq, lkC, rcd, rno]
  intro a11 e11 ob11 fk11
  cases e11
  dsimp only [ucgo, ucwp, ucsC, uqC, uoC, ctC, rfd, KX6_init, KX6_init_0z5e, lkC, s1C, s2C, dlC, kyC, Nat.beq, rcd, rno, Nat.reduceAdd, Nat.reduceBEq, Nat.reduceDiv, List.drop, List.take, List.reverse, List.reverseAux, Int.toNat, Option.toList, List.append, List.cons_append, List.nil_append, fI_qI, fR_qI, fL_qI, fI_qL, fR_qL, fL_qL, ug215]
  have c12 : (Int32.ofInt (-1)).toInt = -1 := by decide
  intro w13 τ13 o13 q13
  obtain ⟨v13, rfl, rfl⟩ := o13
  dsimp only [Option.toList, List.cons_append, List.nil_append, s1C, s2C, dlC, kyC, Nat.beq, lkC, rcd, rno]
  have c14 : (Int32.ofInt 5).toInt = 5 := by decide
  have c15 : (Int32.ofInt 0).toInt = 0 := by decide
  intro w16 τ16 o16 q16
  obtain ⟨rfl, -, ex16, -⟩ := o16
  have kk16 := kk10.tr ((Kp.p (F := [210]) (p0 := p0) (k := 214) rfl).tr (Kp.nx (F := [210]) (p0 := p0) ex16 (by decide) (fun k h => hF1 _ k (by first | exact Or.inl rfl | exact Or.inr rfl) h) (Nat.lt_of_lt_of_le hp1 kk10.1.1.1)))
  have v211_16 := v211_10.k ((Kp.p (F := [211]) (p0 := p0) (k := 214) rfl).tr (Kp.nx (F := [211]) (p0 := p0) ex16 (by decide) (fun j h => hF3 _ 211 j (by decide) (by first | exact Or.inl rfl | exact Or.inr (Or.inl rfl) | exact Or.inr (Or.inr rfl)) h) (Nat.lt_of_lt_of_le hp1 kk10.1.1.1))) rfl
  have v212_16 := v212_10.k ((Kp.p (F := [212]) (p0 := p0) (k := 214) rfl).tr (Kp.nx (F := [212]) (p0 := p0) ex16 (by decide) (fun j h => hF3 _ 212 j (by decide) (by first | exact Or.inl rfl | exact Or.inr (Or.inl rfl) | exact Or.inr (Or.inr rfl)) h) (Nat.lt_of_lt_of_le hp1 kk10.1.1.1))) rfl
  dsimp only [Option.toList, List.cons_append, List.nil_append, s1C, s2C, dlC, kyC, Nat.beq, lkC, rcd, rno]
  dsimp only [ucgo, ucwp, ucsC, uqC, uoC, ctC, rfd, KX6_init, KX6_init_0z6e, lkC, s1C, s2C, dlC, kyC, Nat.beq, rcd, rno, Nat.reduceAdd, Nat.reduceBEq, Nat.reduceDiv, List.drop, List.take, List.reverse, List.reverseAux, Int.toNat, Option.toList, List.append, List.cons_append, List.nil_append, fI_qI, fR_qI, fL_qI, fI_qL, fR_qL, fL_qL, ug215]
  intro a17 e17 ob17 fk17
  cases e17
  have c18 : (Int32.ofInt (-1)).toInt = -1 := by decide
  dsimp only [ucgo, ucwp, ucsC, uqC, uoC, ctC, rfd, KX6_init, KX6_init_0z7e, lkC, s1C, s2C, dlC, kyC, Nat.beq, rcd, rno, Nat.reduceAdd, Nat.reduceBEq, Nat.reduceDiv, List.drop, List.take, List.reverse, List.reverseAux, Int.toNat, Option.toList, List.append, List.cons_append, List.nil_append, fI_qI, fR_qI, fL_qI, fI_qL, fR_qL, fL_qL, ug215]
  intro w19 τ19 o19 q19
  obtain ⟨v19, rfl, rfl⟩ := o19
  dsimp only [Option.toList, List.cons_append, List.nil_append, s1C, s2C, dlC, kyC, Nat.beq, lkC, rcd, rno]
  have c20 : (Int32.ofInt 3).toInt = 3 := by decide
  have c21 : (Int32.ofInt 0).toInt = 0 := by decide
  intro w22 τ22 o22 q22
  obtain ⟨rfl, -, ex22, -⟩ := o22
  have kk22 := kk16.tr ((Kp.p (F := [210]) (p0 := p0) (k := 215) rfl).tr (Kp.nx (F := [210]) (p0 := p0) ex22 (by decide) (fun k h => hF1 _ k (by first | exact Or.inl rfl | exact Or.inr rfl) h) (Nat.lt_of_lt_of_le hp1 kk16.1.1.1)))
  have v211_22 := v211_16.k ((Kp.p (F := [211]) (p0 := p0) (k := 215) rfl).tr (Kp.nx (F := [211]) (p0 := p0) ex22 (by decide) (fun j h => hF3 _ 211 j (by decide) (by first | exact Or.inl rfl | exact Or.inr (Or.inl rfl) | exact Or.inr (Or.inr rfl)) h) (Nat.lt_of_lt_of_le hp1 kk16.1.1.1))) rfl
  have v212_22 := v212_16.k ((Kp.p (F := [212]) (p0 := p0) (k := 215) rfl).tr (Kp.nx (F := [212]) (p0 := p0) ex22 (by decide) (fun j h => hF3 _ 212 j (by decide) (by first | exact Or.inl rfl | exact Or.inr (Or.inl rfl) | exact Or.inr (Or.inr rfl)) h) (Nat.lt_of_lt_of_le hp1 kk16.1.1.1))) rfl
  dsimp only [Option.toList, List.cons_append, List.nil_append, s1C, s2C, dlC, kyC, Nat.beq, lkC, rcd, rno]
  intro a23 e23 ob23 fk23
  cases e23
  dsimp only [ucgo, ucwp, ucsC, uqC, uoC, ctC, rfd, KX6_init, KX6_init_0z8e, lkC, s1C, s2C, dlC, kyC, Nat.beq, rcd, rno, Nat.reduceAdd, Nat.reduceBEq, Nat.reduceDiv, List.drop, List.take, List.reverse, List.reverseAux, Int.toNat, Option.toList, List.append, List.cons_append, List.nil_append, fI_qI, fR_qI, fL_qI, fI_qL, fR_qL, fL_qL, ug215]
  intro a24 e24 ob24
  cases e24
  have c25 : (Int32.ofInt 4).toInt = 4 := by decide
  split
  case h_2 => trivial
  rename_i b26 rs26 hq26
  obtain ⟨hq1_26, hq2_26⟩ := List.cons.inj hq26
  subst hq2_26
  have rc26 := Sum.inr.inj (Sum.inr.inj hq1_26)
  intro w26 τ26 o26 q26
  obtain ⟨rfl, -, ex26, -⟩ := o26
  have kk26 := kk22.tr ((Kp.p (F := [210]) (p0 := p0) (k := 216) rfl).tr (Kp.c (F := [210]) (p0 := p0) ex26 (by decide) (fun k h => hF2 k h) (Nat.lt_of_lt_of_le hp1 kk22.1.1.1)))
  have v211_26 := v211_22.k ((Kp.p (F := [211]) (p0 := p0) (k := 216) rfl).tr (Kp.c (F := [211]) (p0 := p0) ex26 (by decide) (fun j h => hF3 _ 211 j (by decide) (by first | exact Or.inl rfl | exact Or.inr (Or.inl rfl) | exact Or.inr (Or.inr rfl)) h) (Nat.lt_of_lt_of_le hp1 kk22.1.1.1))) rfl
  have v212_26 := v212_22.k ((Kp.p (F := [212]) (p0 := p0) (k := 216) rfl).tr (Kp.c (F := [212]) (p0 := p0) ex26 (by decide) (fun j h => hF3 _ 212 j (by decide) (by first | exact Or.inl rfl | exact Or.inr (Or.inl rfl) | exact Or.inr (Or.inr rfl)) h) (Nat.lt_of_lt_of_le hp1 kk22.1.1.1))) rfl
  dsimp only [Option.toList, List.cons_append, List.nil_append, s1C, s2C, dlC, kyC, Nat.beq, lkC, rcd, rno]
  have hWe := (hW0.k (kp4) (by omega) (by omega)).k kk26 (by omega) (by omega)
  have hW8 := hW0.k (kp4) (by omega) (by omega)
  have hNe := ((hN0.le (M := cnC σ) (Nat.le_succ _)).k (kp4) hW0.1.1 hW0.1.2 (by omega)).k kk26 hW8.1.1 hW8.1.2 (by omega)
  intro τ9 we9
  refine ⟨⟨fun b hb h g => ?_, fun k hk => ?_⟩, cnC σ, c, ⟨Nat.le_refl _, ?_⟩, ?_, ?_, fun k hk9 => ?_⟩
  · rw [we9.eL]
    exact ((kp1_.tr kk26.nil).2 b hb (fun q => by rw [q, hr.2.1] at h; omega)).2.2.1 h g
  · rcases hk with rfl | rfl
    · exact ⟨_, by rw [we9.fR]; exact v211_26.2, kp0.1.1.1, by rw [we9.fI]; exact v211_26.1.2.2⟩
    · exact ⟨_, by rw [we9.fR]; exact v212_26.2, Nat.le_trans kp0.1.1.1 (Nat.le_of_lt l4), by rw [we9.fI]; exact v212_26.1.2.2⟩
  · unfold NwR
    rw [we9.fR, we9.fI]
    exact hNe
  · rw [we9.fR, kk26.1.2 210 rfl]
    exact fR_w1
  · rw [we9.fR]
    exact hWe.2.1
  · rw [we9.eL]
    exact hWe.2.2.2 k hk9
abbrev U_ini6 : CqC := fun As σ w τ => ∀ y, Pp_ini6 y As σ → Qp_ini6 y As σ w τ
theorem n_ini6 (l : Launch) : CMetC l 12 116 P_X6_init (fun As σ w τ => Q_X6_init As σ w τ ∧ U_ini6 As σ w τ) := CMetC.of KX6_init (uc2C [(184, P_X9_init, Q_X9_init), (233, P_Jx4a65c_init_da8c8, Q_Jx4a65c_init_da8c8), (186, P_X9_keyOf, Q_X9_keyOf), (111, P_X5_init, Q_X5_init), (112, P_X5_addParam, Q_X5_addParam)] [(184, U_ini9), (233, U_lin)]) hX6_init (by decide) (by decide) okX6_init (cc1C (n_ini9 l) (by decide) (cc1C (n_lin l) (by decide) (cc1C (m_X9_keyOf l) (by decide) (cc1C (m_X5_init l) (by decide) (cc1C (m_X5_addParam l) (by decide) cc0C))))) lg_X6_init (b_X6_init.and p_ini6)

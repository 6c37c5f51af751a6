/-! objects under construction -/
def RawC (σ : CsC) (a c : Nat) : Prop := a < cnC σ ∧ tgC σ a = c + 50 ∧ c < 13
/-- as ExC, the object a apart -/
def ExT (a : Nat) (M : List Nat) (σ τ : CsC) : Prop := cnC σ ≤ cnC τ ∧ (τ.1.2 = σ.1.2 ∧ (M.elem 999 = false → τ.1 = σ.1) ∧ (∀ b, b < cnC σ → b ≠ a → prC M (tgC σ b) (ghC σ b) = true → eIC τ b = eIC σ b ∧ eLC τ b = eLC σ b)) ∧ ∀ b, b < cnC σ → b ≠ a → (tgC τ b = tgC σ b ∧ alC τ b = alC σ b ∧ ghC τ b = ghC σ b) ∧ (tgC σ b < 13 → ∀ k, finC k = true → fIC τ b k = fIC σ b k ∧ fRC τ b k = fRC σ b k) ∧ ((tgC σ b = 2 → WhC σ b → WhC τ b) ∧ (tgC σ b = 103 → M.elem 2 = false → eRC τ b = eRC σ b)) ∧ ∀ k, M.elem k = false → fIC τ b k = fIC σ b k ∧ fRC τ b k = fRC σ b k
theorem ExC.t {a : Nat} {M : List Nat} {σ τ : CsC} (h : ExC M σ τ) : ExT a M σ τ := ⟨h.1, ⟨h.2.1.1, h.2.1.2.1, fun b hb _ => h.2.1.2.2 b hb⟩, fun b hb _ => h.2.2 b hb⟩
theorem ExT.tr {a : Nat} {M : List Nat} {σ τ υ : CsC} (h1 : ExT a M σ τ) (h2 : ExT a M τ υ) : ExT a M σ υ := by
  refine ⟨Nat.le_trans h1.1 h2.1, ⟨h2.2.1.1.trans h1.2.1.1, fun h => (h2.2.1.2.1 h).trans (h1.2.1.2.1 h), fun b hb hn t => ⟨(h2.2.1.2.2 b (Nat.lt_of_lt_of_le hb h1.1) hn (by rw [(h1.2.2 b hb hn).1.1, (h1.2.2 b hb hn).1.2.2]; exact t)).1.trans (h1.2.1.2.2 b hb hn t).1, (h2.2.1.2.2 b (Nat.lt_of_lt_of_le hb h1.1) hn (by rw [(h1.2.2 b hb hn).1.1, (h1.2.2 b hb hn).1.2.2]; exact t)).2.trans (h1.2.1.2.2 b hb hn t).2⟩⟩, fun b hb hn => ?_⟩
  obtain ⟨⟨a1, a2, a3⟩, a4, a5, a6⟩ := h1.2.2 b hb hn
  obtain ⟨⟨b1, b2, b3⟩, b4, b5, b6⟩ := h2.2.2 b (Nat.lt_of_lt_of_le hb h1.1) hn
  exact ⟨⟨b1.trans a1, b2.trans a2, b3.trans a3⟩, fun h k hk => ⟨((b4 (by rw [a1]; exact h) k hk).1).trans (a4 h k hk).1, ((b4 (by rw [a1]; exact h) k hk).2).trans (a4 h k hk).2⟩, ⟨fun h hw => b5.1 (by rw [a1]; exact h) (a5.1 h hw), fun h z => (b5.2 (a1.trans h) z).trans (a5.2 h z)⟩, fun k hk => ⟨(b6 k hk).1.trans (a6 k hk).1, (b6 k hk).2.trans (a6 k hk).2⟩⟩
theorem ExT.mo {a : Nat} {M M' : List Nat} {σ τ : CsC} (h : ExT a M σ τ) (hm : M.all (fun k => M'.elem k) = true) : ExT a M' σ τ := by
  have q : ∀ k, M'.elem k = false → M.elem k = false := fun k hk => by
    cases hb : M.elem k with
    | false => rfl
    | true =>
      have := List.all_eq_true.mp hm k (List.elem_iff.mp hb)
      rw [hk] at this
      cases this
  exact ⟨h.1, ⟨h.2.1.1, fun z => h.2.1.2.1 (q _ z), fun b hb hn z => h.2.1.2.2 b hb hn (prC.mo q z)⟩, fun b hb hn => ⟨(h.2.2 b hb hn).1, (h.2.2 b hb hn).2.1, ⟨(h.2.2 b hb hn).2.2.1.1, fun t z => (h.2.2 b hb hn).2.2.1.2 t (q _ z)⟩, fun k hk => (h.2.2 b hb hn).2.2.2 k (q k hk)⟩⟩
/-- what was made between is not seen from before -/
theorem ExC.nt {a : Nat} {M : List Nat} {σ σ1 τ : CsC} (h : ExC M σ σ1) (ha : cnC σ ≤ a) (e : ExT a M σ1 τ) : ExC M σ τ := by
  refine ⟨Nat.le_trans h.1 e.1, ⟨e.2.1.1.trans h.2.1.1, fun z => (e.2.1.2.1 z).trans (h.2.1.2.1 z), fun b hb t => ⟨(e.2.1.2.2 b (Nat.lt_of_lt_of_le hb h.1) (by omega) (by rw [(h.2.2 b hb).1.1, (h.2.2 b hb).1.2.2]; exact t)).1.trans (h.2.1.2.2 b hb t).1, (e.2.1.2.2 b (Nat.lt_of_lt_of_le hb h.1) (by omega) (by rw [(h.2.2 b hb).1.1, (h.2.2 b hb).1.2.2]; exact t)).2.trans (h.2.1.2.2 b hb t).2⟩⟩, fun b hb => ?_⟩
  obtain ⟨⟨a1, a2, a3⟩, a4, a5, a6⟩ := h.2.2 b hb
  obtain ⟨⟨b1, b2, b3⟩, b4, b5, b6⟩ := e.2.2 b (Nat.lt_of_lt_of_le hb h.1) (by omega)
  exact ⟨⟨b1.trans a1, b2.trans a2, b3.trans a3⟩, fun h k hk => ⟨((b4 (by rw [a1]; exact h) k hk).1).trans (a4 h k hk).1, ((b4 (by rw [a1]; exact h) k hk).2).trans (a4 h k hk).2⟩, ⟨fun h hw => b5.1 (by rw [a1]; exact h) (a5.1 h hw), fun h z => (b5.2 (a1.trans h) z).trans (a5.2 h z)⟩, fun k hk => ⟨(b6 k hk).1.trans (a6 k hk).1, (b6 k hk).2.trans (a6 k hk).2⟩⟩
theorem RawC.ne {σ : CsC} {a b c c' : Nat} (r : RawC σ a c) (t : TyC σ b c') (h : c' < 50 ∨ 100 ≤ c') : b ≠ a := fun q => by
  subst q
  have h1 := r.2.1
  have h2 := t.2.1
  have h3 := r.2.2
  omega
theorem TyC.xt {a d : Nat} {M : List Nat} {σ τ : CsC} {b c : Nat} (t : TyC σ b c) (r : RawC σ a d) (h : c < 50 ∨ 100 ≤ c) (e : ExT a M σ τ) : TyC τ b c := ⟨Nat.lt_of_lt_of_le t.1 e.1, (e.2.2 b t.1 (r.ne t h)).1.1.trans t.2.1, fun q => (e.2.2 b t.1 (r.ne t h)).2.2.1.1 (t.2.1.trans q) (t.2.2 q)⟩
theorem TyC.alt {a d : Nat} {M : List Nat} {σ τ : CsC} {b c : Nat} (t : TyC σ b c) (r : RawC σ a d) (h : c < 50 ∨ 100 ≤ c) (e : ExT a M σ τ) : alC τ b = alC σ b := (e.2.2 b t.1 (r.ne t h)).1.2.1
theorem TyC.ght {a d : Nat} {M : List Nat} {σ τ : CsC} {b c : Nat} (t : TyC σ b c) (r : RawC σ a d) (h : c < 50 ∨ 100 ≤ c) (e : ExT a M σ τ) : ghC τ b = ghC σ b := (e.2.2 b t.1 (r.ne t h)).1.2.2
theorem TyC.mit {a d : Nat} {M : List Nat} {σ τ : CsC} {b c : Nat} (t : TyC σ b c) (r : RawC σ a d) (h : c < 50 ∨ 100 ≤ c) (e : ExT a M σ τ) {k : Nat} (hk : M.elem k = false) : fIC τ b k = fIC σ b k := ((e.2.2 b t.1 (r.ne t h)).2.2.2 k hk).1
theorem TyC.mrt {a d : Nat} {M : List Nat} {σ τ : CsC} {b c : Nat} (t : TyC σ b c) (r : RawC σ a d) (h : c < 50 ∨ 100 ≤ c) (e : ExT a M σ τ) {k : Nat} (hk : M.elem k = false) : fRC τ b k = fRC σ b k := ((e.2.2 b t.1 (r.ne t h)).2.2.2 k hk).2
theorem TyC.fit {a d : Nat} {M : List Nat} {σ τ : CsC} {b c : Nat} (t : TyC σ b c) (r : RawC σ a d) (h : c < 50 ∨ 100 ≤ c) (e : ExT a M σ τ) (hc : c < 13) {k : Nat} (hk : finC k = true) : fIC τ b k = fIC σ b k := ((e.2.2 b t.1 (r.ne t h)).2.1 (by rw [t.2.1]; exact hc) k hk).1
theorem TyC.frt {a d : Nat} {M : List Nat} {σ τ : CsC} {b c : Nat} (t : TyC σ b c) (r : RawC σ a d) (h : c < 50 ∨ 100 ≤ c) (e : ExT a M σ τ) (hc : c < 13) {k : Nat} (hk : finC k = true) : fRC τ b k = fRC σ b k := ((e.2.2 b t.1 (r.ne t h)).2.1 (by rw [t.2.1]; exact hc) k hk).2
theorem OtC.xt {a d : Nat} {M : List Nat} {σ τ : CsC} {o : Option Nat} {c : Nat} (t : OtC σ o c) (r : RawC σ a d) (h : c < 50 ∨ 100 ≤ c) (e : ExT a M σ τ) : OtC τ o c := fun b hb => (t b hb).xt r h e
theorem RawC.mi {M : List Nat} {σ τ : CsC} {a c : Nat} (r : RawC σ a c) (e : ExC M σ τ) {k : Nat} (hk : M.elem k = false) : fIC τ a k = fIC σ a k := ((e.2.2 a r.1).2.2.2 k hk).1
theorem RawC.mr {M : List Nat} {σ τ : CsC} {a c : Nat} (r : RawC σ a c) (e : ExC M σ τ) {k : Nat} (hk : M.elem k = false) : fRC τ a k = fRC σ a k := ((e.2.2 a r.1).2.2.2 k hk).2
theorem RawC.mit {M : List Nat} {σ τ : CsC} {a b c : Nat} (r : RawC σ a c) (h : a ≠ b) (e : ExT b M σ τ) {k : Nat} (hk : M.elem k = false) : fIC τ a k = fIC σ a k := ((e.2.2 a r.1 h).2.2.2 k hk).1
theorem RawC.mrt {M : List Nat} {σ τ : CsC} {a b c : Nat} (r : RawC σ a c) (h : a ≠ b) (e : ExT b M σ τ) {k : Nat} (hk : M.elem k = false) : fRC τ a k = fRC σ a k := ((e.2.2 a r.1 h).2.2.2 k hk).2
theorem RawC.nr {σ : CsC} {a b c d : Nat} (r : RawC σ a c) (s : RawC σ b d) (h : c ≠ d) : a ≠ b := fun q => by subst q; have := r.2.1; have := s.2.1; omega
theorem XaC.no {σ : CsC} {a c : Nat} (ht : tgC σ a = c) (h : [0, 2, 5, 6, 9, 10, 100, 104, 105].elem c = false) : XaC σ a := by
  simp only [List.elem_eq_mem, List.mem_cons, List.not_mem_nil, or_false, decide_eq_false_iff_not] at h
  unfold XaC
  rw [ht]
  exact ⟨fun z => by omega, fun z => by omega, fun z => by omega, fun z => by omega, fun z => by omega, fun z => by omega, fun z => by omega, fun z => by omega, fun z => by omega⟩
theorem XaC.of6 {σ : CsC} {a : Nat} (ht : tgC σ a = 6) (h : X6C σ a) : XaC σ a := by
  unfold XaC
  rw [ht]
  exact ⟨fun z => by omega, fun z => by omega, fun z => by omega, fun z => by omega, fun z => by omega, fun z => by omega, fun z => by omega, fun z => by omega, fun _ => h⟩
theorem XaC.of0 {σ : CsC} {a : Nat} (ht : tgC σ a = 0) (h : X0C σ a) : XaC σ a := by
  unfold XaC
  rw [ht]
  exact ⟨fun _ => h, fun z => by omega, fun z => by omega, fun z => by omega, fun z => by omega, fun z => by omega, fun z => by omega, fun z => by omega, fun z => by omega⟩
theorem rT_tg {σ : CsC} {a t g : Nat} : tgC (rTC σ a t g) a = t := by show (u1C σ.2.1 a (t, (σ.2.1 a).2.1, g) a).1 = t; rw [u1C_eq]
theorem rT_gh {σ : CsC} {a t g : Nat} : ghC (rTC σ a t g) a = g := by show (u1C σ.2.1 a (t, (σ.2.1 a).2.1, g) a).2.2 = g; rw [u1C_eq]
theorem RawC.we {σ : CsC} {a c g : Nat} (r : RawC σ a c) : WeC σ (rTC σ a c g) := WeC.t (Or.inr ⟨by have := r.2.1; have := r.2.2; omega, by have := r.2.2; omega, by rw [r.2.1]; have := r.2.2; omega⟩)
theorem RawC.x {M : List Nat} {σ τ : CsC} {a c : Nat} (r : RawC σ a c) (e : ExC M σ τ) : RawC τ a c := ⟨Nat.lt_of_lt_of_le r.1 e.1, (e.2.2 a r.1).1.1.trans r.2.1, r.2.2⟩
theorem RawC.xt {M : List Nat} {σ τ : CsC} {a b c : Nat} (r : RawC σ a c) (h : a ≠ b) (e : ExT b M σ τ) : RawC τ a c := ⟨Nat.lt_of_lt_of_le r.1 e.1, (e.2.2 a r.1 h).1.1.trans r.2.1, r.2.2⟩
theorem RawC.ob {σ : CsC} {a c : Nat} (r : RawC σ a c) : ObC σ a c := ⟨r.1, by have := r.2.1; have := r.2.2; omega, by rw [r.2.1]; unfold clsC; have := r.2.2; omega⟩
theorem RawC.ge {σ : CsC} {a c : Nat} (r : RawC σ a c) : 13 ≤ tgC σ a := by rw [r.2.1]; omega
theorem ExT.pI {σ : CsC} {a k : Nat} {v : Int32} : ExT a [] σ (pIC σ a k v) := by
  refine ⟨Nat.le_refl _, ⟨rfl, fun _ => rfl, fun _ _ _ _ => ⟨rfl, rfl⟩⟩, fun b hb hn => ⟨⟨rfl, rfl, rfl⟩, fun _ j _ => ⟨fI_pI (Or.inr hn), rfl⟩, ⟨fun _ h => ?_, fun _ _ => rfl⟩, fun j _ => ⟨fI_pI (Or.inr hn), rfl⟩⟩⟩
  unfold WhC
  rw [fI_pI (Or.inr hn)]
  exact h
theorem ExT.pR {σ : CsC} {a k : Nat} {v : Option Nat} : ExT a [] σ (pRC σ a k v) := by
  refine ⟨Nat.le_refl _, ⟨rfl, fun _ => rfl, fun _ _ _ _ => ⟨rfl, rfl⟩⟩, fun b hb hn => ⟨⟨rfl, rfl, rfl⟩, fun _ j _ => ⟨rfl, fR_pR (Or.inr hn)⟩, ⟨fun _ h => ?_, fun _ _ => rfl⟩, fun j _ => ⟨rfl, fR_pR (Or.inr hn)⟩⟩⟩
  unfold WhC
  rw [fR_pR (Or.inr hn)]
  exact h
theorem ExT.rT {σ : CsC} {a t g : Nat} : ExT a [] σ (rTC σ a t g) := by
  refine ⟨Nat.le_refl _, ⟨rfl, fun _ => rfl, fun _ _ _ _ => ⟨rfl, rfl⟩⟩, fun b hb hn => ?_⟩
  have e : (rTC σ a t g).2.1 b = σ.2.1 b := u1C_ne hn
  exact ⟨⟨by unfold tgC; rw [e], by unfold alC; rw [e], by unfold ghC; rw [e]⟩, fun _ _ _ => ⟨rfl, rfl⟩, ⟨fun _ h => h, fun _ _ => rfl⟩, fun _ _ => ⟨rfl, rfl⟩⟩
theorem RfC.xr {a d : Nat} {M : List Nat} {σ τ : CsC} {b k : Nat} {o : Option Nat} (r : RawC σ a d) (hk : (rfC k).2.1 < 50 ∨ 100 ≤ (rfC k).2.1) (e : ExT a M σ τ) (h : RfC σ b k o) : RfC τ b k o := by
  cases o with
  | none => exact h
  | some x =>
    rcases h with h | ⟨h1, h2, h3, h4⟩
    · exact Or.inl h
    · have hn := r.ne h1 hk
      obtain ⟨⟨z1, z2, z3⟩, -⟩ := e.2.2 x h1.1 hn
      exact Or.inr ⟨h1.xt r hk e, by rw [z2]; exact h2, by rw [z3]; exact h3, h4⟩
set_option maxRecDepth 100000 in
theorem rfC_tag (k : Nat) : (rfC k).2.1 < 50 ∨ 100 ≤ (rfC k).2.1 := by
  by_cases h : k < 390
  · have : ∀ k, k < 390 → ((rfC k).2.1 < 50 ∨ 100 ≤ (rfC k).2.1) := by decide +kernel
    exact this k h
  · have e : rfC k = (1, 999, 9999, 0, 9999) := by
      unfold rfC
      rw [List.getD_eq_getElem?_getD, List.getElem?_eq_none (by exact Nat.not_lt.mp h)]
      rfl
    rw [e]
    decide
/-- an object is finished -/
theorem HIC.fin {σ : CsC} {a c g : Nat} (h : HIC σ) (r : RawC σ a c) (hg : ghC σ a = g) (hf : ∀ k, k / 30 = c → IvC k (fIC σ a k) ∧ RfC σ a k (fRC σ a k)) (hx : XaC (rTC σ a c g) a) (hl : c = 9 → (fIC σ a 270).toInt = 6 → 0 ≤ (fIC σ a 280).toInt) : HIC (rTC σ a c g) := by
  have e : ExT a [] σ (rTC σ a c g) := ExT.rT
  have et : tgC (rTC σ a c g) a = c := by show (u1C σ.2.1 a (c, (σ.2.1 a).2.1, g) a).1 = c; rw [u1C_eq]
  have hge := r.ge
  have hXm : ∀ b, b < cnC σ → b ≠ a → XaC (rTC σ a c g) b := fun b hb hn => by
    obtain ⟨⟨z1, z2, z3⟩, -⟩ := e.2.2 b hb hn
    obtain ⟨x0, x2, x5, x9, x10, x100, x104, x105, x6⟩ := (h.1 b hb).2
    unfold XaC
    rw [z1]
    refine ⟨fun ht => ?_, fun ht => ?_, fun ht => ?_, fun ht => ?_, fun ht => ?_, fun ht hgg j => ?_, fun ht j b' hb' => ?_, fun ht j b' hb' => ?_, fun ht b' hb' => ?_⟩
    · rcases x0 ht with q | ⟨s, p1, ⟨p2, p3, p4⟩, p5, p6⟩
      · exact Or.inl q
      · have hs : s ≠ a := fun q => by subst q; have := r.2.1; have := r.2.2; omega
        obtain ⟨⟨y1, y2, y3⟩, -⟩ := e.2.2 s p2 hs
        refine Or.inr ⟨s, p1, ⟨p2, y1.trans p3, y3.trans p4⟩, by rw [y2, z3]; exact p5, fun j hj => ?_⟩
        obtain ⟨b', q1, q2, q3, q4⟩ := p6 j hj
        refine ⟨b', q1, ?_⟩
        rw [z3]
        have hne : b' ≠ a := fun q => by
          subst q
          have h1 := q2.2.1
          omega
        exact ⟨⟨q2.1, (e.2.2 b' q2.1 hne).1.1.trans q2.2.1, q2.2.2⟩, q3, q4⟩
    · exact fun b' hb' => ⟨⟨(x2 ht b' hb').1.1, (e.2.2 b' (x2 ht b' hb').1.1 (fun q => by subst q; have := (x2 ht b' hb').1.2; omega)).1.1.trans (x2 ht b' hb').1.2⟩, (x2 ht b' hb').2⟩
    · refine ⟨(x5 ht).1, fun s hs => ?_⟩
      have hs : fRC σ b 159 = some s := hs
      have q := ((h.1 b hb).1 159 (by rw [ht])).2
      rw [hs] at q
      have q1 := (q.resolve_left (by decide)).1
      rw [(e.2.2 s q1.1 (r.ne q1 (by decide))).1.2.1]
      exact (x5 ht).2 s hs
    · exact x9 ht
    · intro s hs
      have hs : fRC σ b 307 = some s := hs
      have q := ((h.1 b hb).1 307 (by rw [ht])).2
      rw [hs] at q
      have q1 := (q.resolve_left (by decide)).1
      rw [(e.2.2 s q1.1 (r.ne q1 (by decide))).1.2.1]
      exact x10 ht s hs
    · exact x100 ht (by rw [← z3]; exact hgg) j
    · exact (x104 ht j b' hb').xt r (by decide) e
    · exact (x105 ht j b' hb').xt r (by decide) e
    · exact x6 ht b' hb'
  refine ⟨fun b hb => ?_, fun b hb ht hxx h6 => ?_⟩
  · by_cases q : b = a
    · subst q
      refine ⟨fun k hk => ?_, hx⟩
      rw [et] at hk
      exact ⟨(hf k hk).1, RfC.xr r (rfC_tag k) e (hf k hk).2⟩
    · refine ⟨fun k hk => ?_, hXm b hb q⟩
      rw [(e.2.2 b hb q).1.1] at hk
      exact ⟨((h.1 b hb).1 k hk).1, RfC.xr r (rfC_tag k) e ((h.1 b hb).1 k hk).2⟩
  · by_cases q : b = a
    · subst q
      rw [et] at ht
      exact hl ht h6
    · rw [(e.2.2 b hb q).1.1] at ht
      exact h.2 b hb ht hxx h6
/-- a NAME: is finished, its NAME still to come -/
theorem HIC.fin6 {σ : CsC} {a c g : Nat} (h : HIC σ) (r : RawC σ a c) (hg : ghC σ a = g) (hf : ∀ k, k / 30 = c → IvC k (fIC σ a k) ∧ RfC σ a k (fRC σ a k)) (hx : XaC (rTC σ a c g) a) : HI0 (rTC σ a c g) ∧ LbC (rTC σ a c g) (some a) := by
  have e : ExT a [] σ (rTC σ a c g) := ExT.rT
  have et : tgC (rTC σ a c g) a = c := by show (u1C σ.2.1 a (c, (σ.2.1 a).2.1, g) a).1 = c; rw [u1C_eq]
  have hge := r.ge
  have hXm : ∀ b, b < cnC σ → b ≠ a → XaC (rTC σ a c g) b := fun b hb hn => by
    obtain ⟨⟨z1, z2, z3⟩, -⟩ := e.2.2 b hb hn
    obtain ⟨x0, x2, x5, x9, x10, x100, x104, x105, x6⟩ := (h.1 b hb).2
    unfold XaC
    rw [z1]
    refine ⟨fun ht => ?_, fun ht => ?_, fun ht => ?_, fun ht => ?_, fun ht => ?_, fun ht hgg j => ?_, fun ht j b' hb' => ?_, fun ht j b' hb' => ?_, fun ht b' hb' => ?_⟩
    · rcases x0 ht with q | ⟨s, p1, ⟨p2, p3, p4⟩, p5, p6⟩
      · exact Or.inl q
      · have hs : s ≠ a := fun q => by subst q; have := r.2.1; have := r.2.2; omega
        obtain ⟨⟨y1, y2, y3⟩, -⟩ := e.2.2 s p2 hs
        refine Or.inr ⟨s, p1, ⟨p2, y1.trans p3, y3.trans p4⟩, by rw [y2, z3]; exact p5, fun j hj => ?_⟩
        obtain ⟨b', q1, q2, q3, q4⟩ := p6 j hj
        refine ⟨b', q1, ?_⟩
        rw [z3]
        have hne : b' ≠ a := fun q => by
          subst q
          have h1 := q2.2.1
          omega
        exact ⟨⟨q2.1, (e.2.2 b' q2.1 hne).1.1.trans q2.2.1, q2.2.2⟩, q3, q4⟩
    · exact fun b' hb' => ⟨⟨(x2 ht b' hb').1.1, (e.2.2 b' (x2 ht b' hb').1.1 (fun q => by subst q; have := (x2 ht b' hb').1.2; omega)).1.1.trans (x2 ht b' hb').1.2⟩, (x2 ht b' hb').2⟩
    · refine ⟨(x5 ht).1, fun s hs => ?_⟩
      have hs : fRC σ b 159 = some s := hs
      have q := ((h.1 b hb).1 159 (by rw [ht])).2
      rw [hs] at q
      have q1 := (q.resolve_left (by decide)).1
      rw [(e.2.2 s q1.1 (r.ne q1 (by decide))).1.2.1]
      exact (x5 ht).2 s hs
    · exact x9 ht
    · intro s hs
      have hs : fRC σ b 307 = some s := hs
      have q := ((h.1 b hb).1 307 (by rw [ht])).2
      rw [hs] at q
      have q1 := (q.resolve_left (by decide)).1
      rw [(e.2.2 s q1.1 (r.ne q1 (by decide))).1.2.1]
      exact x10 ht s hs
    · exact x100 ht (by rw [← z3]; exact hgg) j
    · exact (x104 ht j b' hb').xt r (by decide) e
    · exact (x105 ht j b' hb').xt r (by decide) e
    · exact x6 ht b' hb'
  refine ⟨fun b hb => ?_, fun b hb ht hxx h6 => ?_⟩
  · by_cases q : b = a
    · subst q
      refine ⟨fun k hk => ?_, hx⟩
      rw [et] at hk
      exact ⟨(hf k hk).1, RfC.xr r (rfC_tag k) e (hf k hk).2⟩
    · refine ⟨fun k hk => ?_, hXm b hb q⟩
      rw [(e.2.2 b hb q).1.1] at hk
      exact ⟨((h.1 b hb).1 k hk).1, RfC.xr r (rfC_tag k) e ((h.1 b hb).1 k hk).2⟩
  · by_cases q : b = a
    · exact absurd (by rw [q]) hxx
    · rw [(e.2.2 b hb q).1.1] at ht
      exact h.2 b hb ht (fun z => by cases z) h6
/-- all fields nought -/
def ZrC (σ : CsC) (a : Nat) : Prop := ∀ k, fIC σ a k = 0 ∧ fRC σ a k = none
theorem HIC.p280x {σ : CsC} {a : Nat} {v : Int32} (h : HI0 σ ∧ LbC σ (some a)) (t : TyC σ a 9) (hv : IvC 280 v) (hl : 0 ≤ v.toInt) : HIC (pIC σ a 280 v) := by
  refine ⟨h.1.pI t (by decide) (by decide) hv, fun b hb ht hx h6 => ?_⟩
  by_cases q : b = a
  · subst q
    rw [fI_pIs]
    exact hl
  · rw [fI_pI (Or.inr q)] at h6 ⊢
    exact h.2 b hb ht (fun z => q (Option.some.inj z).symm) h6
section KR9
variable {ct : CcC} {K : CkC} {Z : Option AvC → CsC → Prop} {is : List RI} {pc d b : Nat} {q : Int} {cs : List (Int × Nat)} {ls : ClC} {st : List AvC} {σ : CsC}
theorem k_p280x {j a : Nat} {w : Int32} (hI : HI0 σ ∧ LbC σ (some a)) (t : TyC σ a 9) (h1 : 0 ≤ w.toInt) (h2 : w.toInt ≤ 502) (h : ∀ τ, HIC τ → ExC [280] σ τ → fIC τ a 280 = w → cwpC ct K Z is (pc + 3) ls st τ) : cwpC ct K Z ((.putfield j, d, q, 280, cs) :: is) pc ls (.inl w :: .inr (.inr (some a)) :: st) σ :=
  ⟨a, rfl, kgCob (k := 280) (c := 9) (by decide) t, Or.inl (show fkC 280 = 0 by decide), h _ (HIC.p280x hI t ⟨by show (-1 : Int) ≤ _; omega, by show _ ≤ (502 : Int); omega⟩ h1) (ExC.pI (by simp) (Or.inr (show finC 280 = false by decide))) fI_pIs⟩
theorem k_new {j c g : Nat} (hI : HIC σ) (hc : c < 13) (hg : q.toNat = g) (h1 : cnC σ + 1 ≤ cpC σ) (h2 : slC σ + nfC c ≤ spC σ) (h : ∀ (a : Nat) τ, a = cnC σ → HIC τ → ExC [999] σ τ → RawC τ a c → ZrC τ a → ghC τ a = g → cnC τ = cnC σ + 1 → slC τ = slC σ + nfC c → cwpC ct K Z is (pc + 3) ls (.inr (.inr (some a)) :: st) τ) : cwpC ct K Z ((.new j, d, q, c, cs) :: is) pc ls st σ := by
  refine ⟨h1, h2, h _ _ rfl (hI.nO (t := c + 50) (by omega) (by omega)) (ExC.nO rfl) ⟨Nat.lt_succ_self _, ?_, hc⟩ (fun k => ⟨?_, ?_⟩) ?_ rfl rfl⟩
  · show (u1C σ.2.1 (cnC σ) (c + 50, 0, q.toNat) (cnC σ)).1 = c + 50; rw [u1C_eq]
  · have e1 : fIC (nOC σ (c + 50) (nfC c) q.toNat) (cnC σ) = fun _ => 0 := u1C_eq
    exact congrFun e1 k
  · have e1 : fRC (nOC σ (c + 50) (nfC c) q.toNat) (cnC σ) = fun _ => none := u1C_eq
    exact congrFun e1 k
  · show (u1C σ.2.1 (cnC σ) (c + 50, 0, q.toNat) (cnC σ)).2.2 = g; rw [u1C_eq]; exact hg
theorem nwC {t n g : Nat} (ht : 100 ≤ t) : TyC (nAC σ t n g) (cnC σ) t ∧ alC (nAC σ t n g) (cnC σ) = n ∧ ghC (nAC σ t n g) (cnC σ) = g := by
  have e : (nAC σ t n g).2.1 (cnC σ) = (t, n, g) := u1C_eq
  exact ⟨⟨Nat.lt_succ_self _, by unfold tgC; rw [e], fun z => by omega⟩, by unfold alC; rw [e], by unfold ghC; rw [e]⟩
theorem k_newarray {at_ : ArrayType} {x : Int32} {t g n : Nat} (hI : HIC σ) (ht : 100 ≤ t) (hg : q.toNat = g) (hx : x.toInt = (n : Int)) (hn : n ≤ 1000000) (h1 : cnC σ + 1 ≤ cpC σ) (h2 : slC σ + n ≤ spC σ) (h : ∀ (a : Nat) τ, a = cnC σ → HIC τ → ExC [999] σ τ → TyC τ a t → alC τ a = n → ghC τ a = g → cnC τ = cnC σ + 1 → slC τ = slC σ + n → cwpC ct K Z is (pc + 2) ls (.inr (.inr (some a)) :: st) τ) : cwpC ct K Z ((.newarray at_, d, q, t, cs) :: is) pc ls (.inl x :: st) σ := by
  have hc : x.toNatClampNeg = n := by show x.toInt.toNat = n; omega
  have h0 : (0 : Int32) ≤ x := Int32.le_iff_toInt_le.mpr (by show (0 : Int) ≤ _; omega)
  have h9 : x ≤ (1000000 : Int32) := Int32.le_iff_toInt_le.mpr (by show _ ≤ (1000000 : Int); omega)
  refine ⟨h0, h9, h1, by rw [hc]; exact h2, ?_⟩
  subst hg
  show cwpC ct K Z is (pc + 2) ls _ (nAC σ t x.toNatClampNeg q.toNat)
  rw [hc]
  obtain ⟨p1, p2, p3⟩ := nwC (σ := σ) (n := n) (g := q.toNat) ht
  exact h _ _ rfl (hI.nA ht) (ExC.nA rfl) p1 p2 p3 rfl rfl
theorem k_anewarray {j : Nat} {x : Int32} {t g n : Nat} (hI : HIC σ) (ht : 100 ≤ t) (hg : q.toNat = g) (hx : x.toInt = (n : Int)) (hn : n ≤ 1000000) (h1 : cnC σ + 1 ≤ cpC σ) (h2 : slC σ + n ≤ spC σ) (h : ∀ (a : Nat) τ, a = cnC σ → HIC τ → ExC [999] σ τ → TyC τ a t → alC τ a = n → ghC τ a = g → cnC τ = cnC σ + 1 → slC τ = slC σ + n → cwpC ct K Z is (pc + 3) ls (.inr (.inr (some a)) :: st) τ) : cwpC ct K Z ((.anewarray j, d, q, t, cs) :: is) pc ls (.inl x :: st) σ := by
  have hc : x.toNatClampNeg = n := by show x.toInt.toNat = n; omega
  have h0 : (0 : Int32) ≤ x := Int32.le_iff_toInt_le.mpr (by show (0 : Int) ≤ _; omega)
  have h9 : x ≤ (1000000 : Int32) := Int32.le_iff_toInt_le.mpr (by show _ ≤ (1000000 : Int); omega)
  refine ⟨h0, h9, h1, by rw [hc]; exact h2, ?_⟩
  subst hg
  show cwpC ct K Z is (pc + 3) ls _ (nAC σ t x.toNatClampNeg q.toNat)
  rw [hc]
  obtain ⟨p1, p2, p3⟩ := nwC (σ := σ) (n := n) (g := q.toNat) ht
  exact h _ _ rfl (hI.nA ht) (ExC.nA rfl) p1 p2 p3 rfl rfl
theorem k_putIW {j k c a : Nat} {w : Int32} (hI : HIC σ) (r : RawC σ a c) (hk : k / 30 = c) (hf : fkC k = 0 ∨ (fkC k = 1 ∧ (w = 0 ∨ w = 1))) (h : ∀ τ, HIC τ → ExT a [] σ τ → RawC τ a c → fIC τ a k = w → (∀ j, j ≠ k → fIC τ a j = fIC σ a j) → (∀ j, fRC τ a j = fRC σ a j) → ghC τ a = ghC σ a → cwpC ct K Z is (pc + 3) ls st τ) : cwpC ct K Z ((.putfield j, d, q, k, cs) :: is) pc ls (.inl w :: .inr (.inr (some a)) :: st) σ :=
  ⟨a, rfl, by rw [show (Instr.putfield j, d, q, k, cs).2.2.2.1 / 30 = c from hk]; exact r.ob, hf, h _ (hI.pIr r.ge) ExT.pI r fI_pIs (fun _ q => fI_pI (Or.inl q)) (fun _ => rfl) rfl⟩
theorem k_putLW {j k c a : Nat} {w : Int64} (hI : HIC σ) (r : RawC σ a c) (hk : k / 30 = c) (hf : fkC k = 2) (h : ∀ τ, HIC τ → ExT a [] σ τ → RawC τ a c → (∀ j, fIC τ a j = fIC σ a j) → (∀ j, fRC τ a j = fRC σ a j) → ghC τ a = ghC σ a → cwpC ct K Z is (pc + 3) ls st τ) : cwpC ct K Z ((.putfield j, d, q, k, cs) :: is) pc ls (.inr (.inl w) :: .inr (.inr (some a)) :: st) σ :=
  ⟨a, rfl, by rw [show (Instr.putfield j, d, q, k, cs).2.2.2.1 / 30 = c from hk]; exact r.ob, hf, h _ hI.pL (ExC.pL).t r (fun _ => rfl) (fun _ => rfl) rfl⟩
theorem k_putRW {j k c a : Nat} {w : Option Nat} (hI : HIC σ) (r : RawC σ a c) (hk : k / 30 = c) (hf : fkC k = 3) (h : ∀ τ, HIC τ → ExT a [] σ τ → RawC τ a c → fRC τ a k = w → (∀ j, fIC τ a j = fIC σ a j) → (∀ j, j ≠ k → fRC τ a j = fRC σ a j) → ghC τ a = ghC σ a → cwpC ct K Z is (pc + 3) ls st τ) : cwpC ct K Z ((.putfield j, d, q, k, cs) :: is) pc ls (.inr (.inr w) :: .inr (.inr (some a)) :: st) σ :=
  ⟨a, rfl, by rw [show (Instr.putfield j, d, q, k, cs).2.2.2.1 / 30 = c from hk]; exact r.ob, hf, h _ (hI.pRr r.ge) ExT.pR r fR_pRs (fun _ => rfl) (fun _ q => fR_pR (Or.inl q)) rfl⟩
end KR9
theorem IvC_fr {k : Nat} {x : Int32} (h : inC k = (-2147483648, 2147483647)) : IvC k x := by unfold IvC; rw [h]; exact tiC x
theorem RfC_fr {σ : CsC} {a k : Nat} {o : Option Nat} (h : rfC k = (1, 999, 9999, 0, 9999)) : RfC σ a k o := by
  unfold RfC
  rw [h]
  cases o with
  | none => rfl
  | some b => exact Or.inl rfl
def frC (k : Nat) : Bool := decide ((inC k).1 = -2147483648) && (decide ((inC k).2 = 2147483647) && (Nat.beq (rfC k).1 1 && (Nat.beq (rfC k).2.1 999 && (Nat.beq (rfC k).2.2.1 9999 && (Nat.beq (rfC k).2.2.2.1 0 && Nat.beq (rfC k).2.2.2.2 9999)))))
theorem frC_ok {k : Nat} (h : frC k = true) : inC k = (-2147483648, 2147483647) ∧ rfC k = (1, 999, 9999, 0, 9999) := by
  unfold frC at h
  simp only [Bool.and_eq_true, decide_eq_true_eq, Nat.beq_eq] at h
  obtain ⟨h1, h2, h3, h4, h5, h6, h7⟩ := h
  exact ⟨Prod.ext h1 h2, Prod.ext h3 (Prod.ext h4 (Prod.ext h5 (Prod.ext h6 h7)))⟩
set_option maxRecDepth 100000 in
theorem fn0 {σ : CsC} {a : Nat} (h2 : IvC 2 (fIC σ a 2)) : ∀ k, k / 30 = 0 → IvC k (fIC σ a k) ∧ RfC σ a k (fRC σ a k) := by
  intro k hk
  by_cases q2 : k = 2
  · subst q2; exact ⟨h2, RfC_fr (by decide)⟩
  have hz : (List.range 390).all (fun k => !(Nat.beq (k / 30) 0) || ([2]).elem k || frC k) = true := by decide +kernel
  have hz := List.all_eq_true.mp hz k (List.mem_range.mpr (by omega))
  have h1 : Nat.beq (k / 30) 0 = true := by rw [hk]; rfl
  have h2 : ([2]).elem k = false := by simp only [List.elem_eq_mem, List.mem_cons, List.not_mem_nil, or_false, decide_eq_false_iff_not]; omega
  rw [h1, h2] at hz
  have hz := frC_ok (by simpa using hz)
  exact ⟨IvC_fr hz.1, RfC_fr hz.2⟩
set_option maxRecDepth 100000 in
theorem fn1 {σ : CsC} {a : Nat} (h30 : RfC σ a 30 (fRC σ a 30)) (h31 : RfC σ a 31 (fRC σ a 31)) (h32 : RfC σ a 32 (fRC σ a 32)) (h33 : RfC σ a 33 (fRC σ a 33)) (h34 : IvC 34 (fIC σ a 34)) (h35 : RfC σ a 35 (fRC σ a 35)) (h36 : RfC σ a 36 (fRC σ a 36)) : ∀ k, k / 30 = 1 → IvC k (fIC σ a k) ∧ RfC σ a k (fRC σ a k) := by
  intro k hk
  by_cases q30 : k = 30
  · subst q30; exact ⟨IvC_fr (by decide), h30⟩
  by_cases q31 : k = 31
  · subst q31; exact ⟨IvC_fr (by decide), h31⟩
  by_cases q32 : k = 32
  · subst q32; exact ⟨IvC_fr (by decide), h32⟩
  by_cases q33 : k = 33
  · subst q33; exact ⟨IvC_fr (by decide), h33⟩
  by_cases q34 : k = 34
  · subst q34; exact ⟨h34, RfC_fr (by decide)⟩
  by_cases q35 : k = 35
  · subst q35; exact ⟨IvC_fr (by decide), h35⟩
  by_cases q36 : k = 36
  · subst q36; exact ⟨IvC_fr (by decide), h36⟩
  have hz : (List.range 390).all (fun k => !(Nat.beq (k / 30) 1) || ([30, 31, 32, 33, 34, 35, 36]).elem k || frC k) = true := by decide +kernel
  have hz := List.all_eq_true.mp hz k (List.mem_range.mpr (by omega))
  have h1 : Nat.beq (k / 30) 1 = true := by rw [hk]; rfl
  have h2 : ([30, 31, 32, 33, 34, 35, 36]).elem k = false := by simp only [List.elem_eq_mem, List.mem_cons, List.not_mem_nil, or_false, decide_eq_false_iff_not]; omega
  rw [h1, h2] at hz
  have hz := frC_ok (by simpa using hz)
  exact ⟨IvC_fr hz.1, RfC_fr hz.2⟩
set_option maxRecDepth 100000 in
theorem fn2 {σ : CsC} {a : Nat} (h62 : IvC 62 (fIC σ a 62)) (h63 : IvC 63 (fIC σ a 63)) (h66 : IvC 66 (fIC σ a 66)) (h70 : IvC 70 (fIC σ a 70)) (h72 : RfC σ a 72 (fRC σ a 72)) (h73 : RfC σ a 73 (fRC σ a 73)) (h74 : RfC σ a 74 (fRC σ a 74)) (h76 : RfC σ a 76 (fRC σ a 76)) (h77 : IvC 77 (fIC σ a 77)) : ∀ k, k / 30 = 2 → IvC k (fIC σ a k) ∧ RfC σ a k (fRC σ a k) := by
  intro k hk
  by_cases q62 : k = 62
  · subst q62; exact ⟨h62, RfC_fr (by decide)⟩
  by_cases q63 : k = 63
  · subst q63; exact ⟨h63, RfC_fr (by decide)⟩
  by_cases q66 : k = 66
  · subst q66; exact ⟨h66, RfC_fr (by decide)⟩
  by_cases q70 : k = 70
  · subst q70; exact ⟨h70, RfC_fr (by decide)⟩
  by_cases q72 : k = 72
  · subst q72; exact ⟨IvC_fr (by decide), h72⟩
  by_cases q73 : k = 73
  · subst q73; exact ⟨IvC_fr (by decide), h73⟩
  by_cases q74 : k = 74
  · subst q74; exact ⟨IvC_fr (by decide), h74⟩
  by_cases q76 : k = 76
  · subst q76; exact ⟨IvC_fr (by decide), h76⟩
  by_cases q77 : k = 77
  · subst q77; exact ⟨h77, RfC_fr (by decide)⟩
  have hz : (List.range 390).all (fun k => !(Nat.beq (k / 30) 2) || ([62, 63, 66, 70, 72, 73, 74, 76, 77]).elem k || frC k) = true := by decide +kernel
  have hz := List.all_eq_true.mp hz k (List.mem_range.mpr (by omega))
  have h1 : Nat.beq (k / 30) 2 = true := by rw [hk]; rfl
  have h2 : ([62, 63, 66, 70, 72, 73, 74, 76, 77]).elem k = false := by simp only [List.elem_eq_mem, List.mem_cons, List.not_mem_nil, or_false, decide_eq_false_iff_not]; omega
  rw [h1, h2] at hz
  have hz := frC_ok (by simpa using hz)
  exact ⟨IvC_fr hz.1, RfC_fr hz.2⟩
set_option maxRecDepth 100000 in
theorem fn3 {σ : CsC} {a : Nat} (h90 : RfC σ a 90 (fRC σ a 90)) (h93 : RfC σ a 93 (fRC σ a 93)) (h94 : IvC 94 (fIC σ a 94)) : ∀ k, k / 30 = 3 → IvC k (fIC σ a k) ∧ RfC σ a k (fRC σ a k) := by
  intro k hk
  by_cases q90 : k = 90
  · subst q90; exact ⟨IvC_fr (by decide), h90⟩
  by_cases q93 : k = 93
  · subst q93; exact ⟨IvC_fr (by decide), h93⟩
  by_cases q94 : k = 94
  · subst q94; exact ⟨h94, RfC_fr (by decide)⟩
  have hz : (List.range 390).all (fun k => !(Nat.beq (k / 30) 3) || ([90, 93, 94]).elem k || frC k) = true := by decide +kernel
  have hz := List.all_eq_true.mp hz k (List.mem_range.mpr (by omega))
  have h1 : Nat.beq (k / 30) 3 = true := by rw [hk]; rfl
  have h2 : ([90, 93, 94]).elem k = false := by simp only [List.elem_eq_mem, List.mem_cons, List.not_mem_nil, or_false, decide_eq_false_iff_not]; omega
  rw [h1, h2] at hz
  have hz := frC_ok (by simpa using hz)
  exact ⟨IvC_fr hz.1, RfC_fr hz.2⟩
set_option maxRecDepth 100000 in
theorem fn4 {σ : CsC} {a : Nat} (h120 : RfC σ a 120 (fRC σ a 120)) (h121 : RfC σ a 121 (fRC σ a 121)) : ∀ k, k / 30 = 4 → IvC k (fIC σ a k) ∧ RfC σ a k (fRC σ a k) := by
  intro k hk
  by_cases q120 : k = 120
  · subst q120; exact ⟨IvC_fr (by decide), h120⟩
  by_cases q121 : k = 121
  · subst q121; exact ⟨IvC_fr (by decide), h121⟩
  have hz : (List.range 390).all (fun k => !(Nat.beq (k / 30) 4) || ([120, 121]).elem k || frC k) = true := by decide +kernel
  have hz := List.all_eq_true.mp hz k (List.mem_range.mpr (by omega))
  have h1 : Nat.beq (k / 30) 4 = true := by rw [hk]; rfl
  have h2 : ([120, 121]).elem k = false := by simp only [List.elem_eq_mem, List.mem_cons, List.not_mem_nil, or_false, decide_eq_false_iff_not]; omega
  rw [h1, h2] at hz
  have hz := frC_ok (by simpa using hz)
  exact ⟨IvC_fr hz.1, RfC_fr hz.2⟩
set_option maxRecDepth 100000 in
theorem fn5 {σ : CsC} {a : Nat} (h150 : RfC σ a 150 (fRC σ a 150)) (h151 : RfC σ a 151 (fRC σ a 151)) (h152 : RfC σ a 152 (fRC σ a 152)) (h153 : RfC σ a 153 (fRC σ a 153)) (h154 : RfC σ a 154 (fRC σ a 154)) (h155 : RfC σ a 155 (fRC σ a 155)) (h156 : RfC σ a 156 (fRC σ a 156)) (h157 : RfC σ a 157 (fRC σ a 157)) (h158 : RfC σ a 158 (fRC σ a 158)) (h159 : RfC σ a 159 (fRC σ a 159)) (h162 : IvC 162 (fIC σ a 162)) (h163 : IvC 163 (fIC σ a 163)) (h164 : IvC 164 (fIC σ a 164)) (h165 : IvC 165 (fIC σ a 165)) (h166 : IvC 166 (fIC σ a 166)) (h167 : IvC 167 (fIC σ a 167)) : ∀ k, k / 30 = 5 → IvC k (fIC σ a k) ∧ RfC σ a k (fRC σ a k) := by
  intro k hk
  by_cases q150 : k = 150
  · subst q150; exact ⟨IvC_fr (by decide), h150⟩
  by_cases q151 : k = 151
  · subst q151; exact ⟨IvC_fr (by decide), h151⟩
  by_cases q152 : k = 152
  · subst q152; exact ⟨IvC_fr (by decide), h152⟩
  by_cases q153 : k = 153
  · subst q153; exact ⟨IvC_fr (by decide), h153⟩
  by_cases q154 : k = 154
  · subst q154; exact ⟨IvC_fr (by decide), h154⟩
  by_cases q155 : k = 155
  · subst q155; exact ⟨IvC_fr (by decide), h155⟩
  by_cases q156 : k = 156
  · subst q156; exact ⟨IvC_fr (by decide), h156⟩
  by_cases q157 : k = 157
  · subst q157; exact ⟨IvC_fr (by decide), h157⟩
  by_cases q158 : k = 158
  · subst q158; exact ⟨IvC_fr (by decide), h158⟩
  by_cases q159 : k = 159
  · subst q159; exact ⟨IvC_fr (by decide), h159⟩
  by_cases q162 : k = 162
  · subst q162; exact ⟨h162, RfC_fr (by decide)⟩
  by_cases q163 : k = 163
  · subst q163; exact ⟨h163, RfC_fr (by decide)⟩
  by_cases q164 : k = 164
  · subst q164; exact ⟨h164, RfC_fr (by decide)⟩
  by_cases q165 : k = 165
  · subst q165; exact ⟨h165, RfC_fr (by decide)⟩
  by_cases q166 : k = 166
  · subst q166; exact ⟨h166, RfC_fr (by decide)⟩
  by_cases q167 : k = 167
  · subst q167; exact ⟨h167, RfC_fr (by decide)⟩
  have hz : (List.range 390).all (fun k => !(Nat.beq (k / 30) 5) || ([150, 151, 152, 153, 154, 155, 156, 157, 158, 159, 162, 163, 164, 165, 166, 167]).elem k || frC k) = true := by decide +kernel
  have hz := List.all_eq_true.mp hz k (List.mem_range.mpr (by omega))
  have h1 : Nat.beq (k / 30) 5 = true := by rw [hk]; rfl
  have h2 : ([150, 151, 152, 153, 154, 155, 156, 157, 158, 159, 162, 163, 164, 165, 166, 167]).elem k = false := by simp only [List.elem_eq_mem, List.mem_cons, List.not_mem_nil, or_false, decide_eq_false_iff_not]; omega
  rw [h1, h2] at hz
  have hz := frC_ok (by simpa using hz)
  exact ⟨IvC_fr hz.1, RfC_fr hz.2⟩
set_option maxRecDepth 100000 in
theorem fn6 {σ : CsC} {a : Nat} (h180 : IvC 180 (fIC σ a 180)) (h183 : RfC σ a 183 (fRC σ a 183)) (h185 : IvC 185 (fIC σ a 185)) (h186 : RfC σ a 186 (fRC σ a 186)) : ∀ k, k / 30 = 6 → IvC k (fIC σ a k) ∧ RfC σ a k (fRC σ a k) := by
  intro k hk
  by_cases q180 : k = 180
  · subst q180; exact ⟨h180, RfC_fr (by decide)⟩
  by_cases q183 : k = 183
  · subst q183; exact ⟨IvC_fr (by decide), h183⟩
  by_cases q185 : k = 185
  · subst q185; exact ⟨h185, RfC_fr (by decide)⟩
  by_cases q186 : k = 186
  · subst q186; exact ⟨IvC_fr (by decide), h186⟩
  have hz : (List.range 390).all (fun k => !(Nat.beq (k / 30) 6) || ([180, 183, 185, 186]).elem k || frC k) = true := by decide +kernel
  have hz := List.all_eq_true.mp hz k (List.mem_range.mpr (by omega))
  have h1 : Nat.beq (k / 30) 6 = true := by rw [hk]; rfl
  have h2 : ([180, 183, 185, 186]).elem k = false := by simp only [List.elem_eq_mem, List.mem_cons, List.not_mem_nil, or_false, decide_eq_false_iff_not]; omega
  rw [h1, h2] at hz
  have hz := frC_ok (by simpa using hz)
  exact ⟨IvC_fr hz.1, RfC_fr hz.2⟩
set_option maxRecDepth 100000 in
theorem fn7 {σ : CsC} {a : Nat} (h210 : RfC σ a 210 (fRC σ a 210)) (h211 : RfC σ a 211 (fRC σ a 211)) (h212 : RfC σ a 212 (fRC σ a 212)) (h213 : RfC σ a 213 (fRC σ a 213)) (h214 : RfC σ a 214 (fRC σ a 214)) (h215 : RfC σ a 215 (fRC σ a 215)) (h216 : RfC σ a 216 (fRC σ a 216)) : ∀ k, k / 30 = 7 → IvC k (fIC σ a k) ∧ RfC σ a k (fRC σ a k) := by
  intro k hk
  by_cases q210 : k = 210
  · subst q210; exact ⟨IvC_fr (by decide), h210⟩
  by_cases q211 : k = 211
  · subst q211; exact ⟨IvC_fr (by decide), h211⟩
  by_cases q212 : k = 212
  · subst q212; exact ⟨IvC_fr (by decide), h212⟩
  by_cases q213 : k = 213
  · subst q213; exact ⟨IvC_fr (by decide), h213⟩
  by_cases q214 : k = 214
  · subst q214; exact ⟨IvC_fr (by decide), h214⟩
  by_cases q215 : k = 215
  · subst q215; exact ⟨IvC_fr (by decide), h215⟩
  by_cases q216 : k = 216
  · subst q216; exact ⟨IvC_fr (by decide), h216⟩
  have hz : (List.range 390).all (fun k => !(Nat.beq (k / 30) 7) || ([210, 211, 212, 213, 214, 215, 216]).elem k || frC k) = true := by decide +kernel
  have hz := List.all_eq_true.mp hz k (List.mem_range.mpr (by omega))
  have h1 : Nat.beq (k / 30) 7 = true := by rw [hk]; rfl
  have h2 : ([210, 211, 212, 213, 214, 215, 216]).elem k = false := by simp only [List.elem_eq_mem, List.mem_cons, List.not_mem_nil, or_false, decide_eq_false_iff_not]; omega
  rw [h1, h2] at hz
  have hz := frC_ok (by simpa using hz)
  exact ⟨IvC_fr hz.1, RfC_fr hz.2⟩
set_option maxRecDepth 100000 in
theorem fn8 {σ : CsC} {a : Nat} (h240 : RfC σ a 240 (fRC σ a 240)) (h241 : RfC σ a 241 (fRC σ a 241)) (h242 : IvC 242 (fIC σ a 242)) (h243 : IvC 243 (fIC σ a 243)) (h246 : RfC σ a 246 (fRC σ a 246)) : ∀ k, k / 30 = 8 → IvC k (fIC σ a k) ∧ RfC σ a k (fRC σ a k) := by
  intro k hk
  by_cases q240 : k = 240
  · subst q240; exact ⟨IvC_fr (by decide), h240⟩
  by_cases q241 : k = 241
  · subst q241; exact ⟨IvC_fr (by decide), h241⟩
  by_cases q242 : k = 242
  · subst q242; exact ⟨h242, RfC_fr (by decide)⟩
  by_cases q243 : k = 243
  · subst q243; exact ⟨h243, RfC_fr (by decide)⟩
  by_cases q246 : k = 246
  · subst q246; exact ⟨IvC_fr (by decide), h246⟩
  have hz : (List.range 390).all (fun k => !(Nat.beq (k / 30) 8) || ([240, 241, 242, 243, 246]).elem k || frC k) = true := by decide +kernel
  have hz := List.all_eq_true.mp hz k (List.mem_range.mpr (by omega))
  have h1 : Nat.beq (k / 30) 8 = true := by rw [hk]; rfl
  have h2 : ([240, 241, 242, 243, 246]).elem k = false := by simp only [List.elem_eq_mem, List.mem_cons, List.not_mem_nil, or_false, decide_eq_false_iff_not]; omega
  rw [h1, h2] at hz
  have hz := frC_ok (by simpa using hz)
  exact ⟨IvC_fr hz.1, RfC_fr hz.2⟩
set_option maxRecDepth 100000 in
theorem fn9 {σ : CsC} {a : Nat} (h271 : IvC 271 (fIC σ a 271)) (h272 : IvC 272 (fIC σ a 272)) (h273 : RfC σ a 273 (fRC σ a 273)) (h275 : RfC σ a 275 (fRC σ a 275)) (h276 : RfC σ a 276 (fRC σ a 276)) (h277 : RfC σ a 277 (fRC σ a 277)) (h278 : RfC σ a 278 (fRC σ a 278)) (h279 : RfC σ a 279 (fRC σ a 279)) (h280 : IvC 280 (fIC σ a 280)) (h281 : RfC σ a 281 (fRC σ a 281)) (h282 : IvC 282 (fIC σ a 282)) (h283 : IvC 283 (fIC σ a 283)) (h284 : IvC 284 (fIC σ a 284)) : ∀ k, k / 30 = 9 → IvC k (fIC σ a k) ∧ RfC σ a k (fRC σ a k) := by
  intro k hk
  by_cases q271 : k = 271
  · subst q271; exact ⟨h271, RfC_fr (by decide)⟩
  by_cases q272 : k = 272
  · subst q272; exact ⟨h272, RfC_fr (by decide)⟩
  by_cases q273 : k = 273
  · subst q273; exact ⟨IvC_fr (by decide), h273⟩
  by_cases q275 : k = 275
  · subst q275; exact ⟨IvC_fr (by decide), h275⟩
  by_cases q276 : k = 276
  · subst q276; exact ⟨IvC_fr (by decide), h276⟩
  by_cases q277 : k = 277
  · subst q277; exact ⟨IvC_fr (by decide), h277⟩
  by_cases q278 : k = 278
  · subst q278; exact ⟨IvC_fr (by decide), h278⟩
  by_cases q279 : k = 279
  · subst q279; exact ⟨IvC_fr (by decide), h279⟩
  by_cases q280 : k = 280
  · subst q280; exact ⟨h280, RfC_fr (by decide)⟩
  by_cases q281 : k = 281
  · subst q281; exact ⟨IvC_fr (by decide), h281⟩
  by_cases q282 : k = 282
  · subst q282; exact ⟨h282, RfC_fr (by decide)⟩
  by_cases q283 : k = 283
  · subst q283; exact ⟨h283, RfC_fr (by decide)⟩
  by_cases q284 : k = 284
  · subst q284; exact ⟨h284, RfC_fr (by decide)⟩
  have hz : (List.range 390).all (fun k => !(Nat.beq (k / 30) 9) || ([271, 272, 273, 275, 276, 277, 278, 279, 280, 281, 282, 283, 284]).elem k || frC k) = true := by decide +kernel
  have hz := List.all_eq_true.mp hz k (List.mem_range.mpr (by omega))
  have h1 : Nat.beq (k / 30) 9 = true := by rw [hk]; rfl
  have h2 : ([271, 272, 273, 275, 276, 277, 278, 279, 280, 281, 282, 283, 284]).elem k = false := by simp only [List.elem_eq_mem, List.mem_cons, List.not_mem_nil, or_false, decide_eq_false_iff_not]; omega
  rw [h1, h2] at hz
  have hz := frC_ok (by simpa using hz)
  exact ⟨IvC_fr hz.1, RfC_fr hz.2⟩
set_option maxRecDepth 100000 in
theorem fn10 {σ : CsC} {a : Nat} (h300 : RfC σ a 300 (fRC σ a 300)) (h301 : RfC σ a 301 (fRC σ a 301)) (h302 : RfC σ a 302 (fRC σ a 302)) (h303 : RfC σ a 303 (fRC σ a 303)) (h304 : RfC σ a 304 (fRC σ a 304)) (h305 : IvC 305 (fIC σ a 305)) (h306 : RfC σ a 306 (fRC σ a 306)) (h307 : RfC σ a 307 (fRC σ a 307)) (h308 : IvC 308 (fIC σ a 308)) : ∀ k, k / 30 = 10 → IvC k (fIC σ a k) ∧ RfC σ a k (fRC σ a k) := by
  intro k hk
  by_cases q300 : k = 300
  · subst q300; exact ⟨IvC_fr (by decide), h300⟩
  by_cases q301 : k = 301
  · subst q301; exact ⟨IvC_fr (by decide), h301⟩
  by_cases q302 : k = 302
  · subst q302; exact ⟨IvC_fr (by decide), h302⟩
  by_cases q303 : k = 303
  · subst q303; exact ⟨IvC_fr (by decide), h303⟩
  by_cases q304 : k = 304
  · subst q304; exact ⟨IvC_fr (by decide), h304⟩
  by_cases q305 : k = 305
  · subst q305; exact ⟨h305, RfC_fr (by decide)⟩
  by_cases q306 : k = 306
  · subst q306; exact ⟨IvC_fr (by decide), h306⟩
  by_cases q307 : k = 307
  · subst q307; exact ⟨IvC_fr (by decide), h307⟩
  by_cases q308 : k = 308
  · subst q308; exact ⟨h308, RfC_fr (by decide)⟩
  have hz : (List.range 390).all (fun k => !(Nat.beq (k / 30) 10) || ([300, 301, 302, 303, 304, 305, 306, 307, 308]).elem k || frC k) = true := by decide +kernel
  have hz := List.all_eq_true.mp hz k (List.mem_range.mpr (by omega))
  have h1 : Nat.beq (k / 30) 10 = true := by rw [hk]; rfl
  have h2 : ([300, 301, 302, 303, 304, 305, 306, 307, 308]).elem k = false := by simp only [List.elem_eq_mem, List.mem_cons, List.not_mem_nil, or_false, decide_eq_false_iff_not]; omega
  rw [h1, h2] at hz
  have hz := frC_ok (by simpa using hz)
  exact ⟨IvC_fr hz.1, RfC_fr hz.2⟩
set_option maxRecDepth 100000 in
theorem fn11 {σ : CsC} {a : Nat} (h330 : IvC 330 (fIC σ a 330)) (h332 : IvC 332 (fIC σ a 332)) (h334 : IvC 334 (fIC σ a 334)) (h335 : IvC 335 (fIC σ a 335)) : ∀ k, k / 30 = 11 → IvC k (fIC σ a k) ∧ RfC σ a k (fRC σ a k) := by
  intro k hk
  by_cases q330 : k = 330
  · subst q330; exact ⟨h330, RfC_fr (by decide)⟩
  by_cases q332 : k = 332
  · subst q332; exact ⟨h332, RfC_fr (by decide)⟩
  by_cases q334 : k = 334
  · subst q334; exact ⟨h334, RfC_fr (by decide)⟩
  by_cases q335 : k = 335
  · subst q335; exact ⟨h335, RfC_fr (by decide)⟩
  have hz : (List.range 390).all (fun k => !(Nat.beq (k / 30) 11) || ([330, 332, 334, 335]).elem k || frC k) = true := by decide +kernel
  have hz := List.all_eq_true.mp hz k (List.mem_range.mpr (by omega))
  have h1 : Nat.beq (k / 30) 11 = true := by rw [hk]; rfl
  have h2 : ([330, 332, 334, 335]).elem k = false := by simp only [List.elem_eq_mem, List.mem_cons, List.not_mem_nil, or_false, decide_eq_false_iff_not]; omega
  rw [h1, h2] at hz
  have hz := frC_ok (by simpa using hz)
  exact ⟨IvC_fr hz.1, RfC_fr hz.2⟩
set_option maxRecDepth 100000 in
theorem fn12 {σ : CsC} {a : Nat} (h360 : RfC σ a 360 (fRC σ a 360)) (h361 : RfC σ a 361 (fRC σ a 361)) (h362 : RfC σ a 362 (fRC σ a 362)) (h363 : RfC σ a 363 (fRC σ a 363)) (h364 : RfC σ a 364 (fRC σ a 364)) (h365 : RfC σ a 365 (fRC σ a 365)) (h366 : RfC σ a 366 (fRC σ a 366)) (h367 : RfC σ a 367 (fRC σ a 367)) (h368 : RfC σ a 368 (fRC σ a 368)) (h369 : IvC 369 (fIC σ a 369)) (h370 : IvC 370 (fIC σ a 370)) (h372 : IvC 372 (fIC σ a 372)) : ∀ k, k / 30 = 12 → IvC k (fIC σ a k) ∧ RfC σ a k (fRC σ a k) := by
  intro k hk
  by_cases q360 : k = 360
  · subst q360; exact ⟨IvC_fr (by decide), h360⟩
  by_cases q361 : k = 361
  · subst q361; exact ⟨IvC_fr (by decide), h361⟩
  by_cases q362 : k = 362
  · subst q362; exact ⟨IvC_fr (by decide), h362⟩
  by_cases q363 : k = 363
  · subst q363; exact ⟨IvC_fr (by decide), h363⟩
  by_cases q364 : k = 364
  · subst q364; exact ⟨IvC_fr (by decide), h364⟩
  by_cases q365 : k = 365
  · subst q365; exact ⟨IvC_fr (by decide), h365⟩
  by_cases q366 : k = 366
  · subst q366; exact ⟨IvC_fr (by decide), h366⟩
  by_cases q367 : k = 367
  · subst q367; exact ⟨IvC_fr (by decide), h367⟩
  by_cases q368 : k = 368
  · subst q368; exact ⟨IvC_fr (by decide), h368⟩
  by_cases q369 : k = 369
  · subst q369; exact ⟨h369, RfC_fr (by decide)⟩
  by_cases q370 : k = 370
  · subst q370; exact ⟨h370, RfC_fr (by decide)⟩
  by_cases q372 : k = 372
  · subst q372; exact ⟨h372, RfC_fr (by decide)⟩
  have hz : (List.range 390).all (fun k => !(Nat.beq (k / 30) 12) || ([360, 361, 362, 363, 364, 365, 366, 367, 368, 369, 370, 372]).elem k || frC k) = true := by decide +kernel
  have hz := List.all_eq_true.mp hz k (List.mem_range.mpr (by omega))
  have h1 : Nat.beq (k / 30) 12 = true := by rw [hk]; rfl
  have h2 : ([360, 361, 362, 363, 364, 365, 366, 367, 368, 369, 370, 372]).elem k = false := by simp only [List.elem_eq_mem, List.mem_cons, List.not_mem_nil, or_false, decide_eq_false_iff_not]; omega
  rw [h1, h2] at hz
  have hz := frC_ok (by simpa using hz)
  exact ⟨IvC_fr hz.1, RfC_fr hz.2⟩

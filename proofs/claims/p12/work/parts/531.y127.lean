/-! what the class's answers need stays -/
def anX : List Nat := [60, 62, 64, 68, 70, 71, 270, 271, 274, 282, 285]
def AnF (σ τ : CsC) (P : Nat) : Prop := cnC σ ≤ cnC τ ∧ (∀ a, a < cnC σ → (tgC σ a = 2 ∨ tgC σ a = 9) → ∀ k, anX.elem k = true → fIC τ a k = fIC σ a k ∧ fLC τ a k = fLC σ a k ∧ fRC τ a k = fRC σ a k) ∧ (fIC τ P 217 = fIC σ P 217 ∧ ∀ k, 212 ≤ k → k ≤ 214 → fRC τ P k = fRC σ P k) ∧ ∀ k c, 212 ≤ k → k ≤ 214 → fRC σ P k = some c → fIC τ c 2 = fIC σ c 2 ∧ ∀ i : Nat, (i : Int) < (fIC σ c 2).toInt → elC τ c i = elC σ c i
theorem el_ty {σ : CsC} {a g i b : Nat} (H : HI0 σ) (t : TyC σ a 0) (hg : ghC σ a = g) (hi : (i : Int) < (fIC σ a 2).toInt) (e : elC σ a i = some b) : TyC σ b g := by
  rcases (H a t.1).2.1 t.2.1 with ⟨q1, q2⟩ | ⟨r, q1, -, -, q4⟩
  · omega
  · obtain ⟨c, e1, e2, -⟩ := q4 i (by show i < (fIC σ a 2).toInt.toNat; omega)
    unfold elC at e
    rw [q1] at e
    rw [hg] at e2
    obtain rfl : c = b := Option.some.inj (e1.symm.trans e)
    exact e2
theorem li_ty {σ : CsC} {a g n i : Nat} {A : Nat → Nat} (H : HI0 σ) (t : TyC σ a 0) (hg : ghC σ a = g) (h : LiC σ a n A) (hi : i < n) : TyC σ (A i) g := el_ty H t hg (by rw [h.1]; omega) (h.2 i hi).1
section
variable {N : Int → Int} {E A B V : Nat → Nat} {σ τ : CsC} {s : SpC} {z : ZS} {L : List Nat} {P : Nat}
theorem LiC.an {k c n : Nat} {F : Nat → Nat} (f : AnF σ τ P) (h1 : 212 ≤ k) (h2 : k ≤ 214) (e : fRC σ P k = some c) (h : LiC σ c n F) : LiC τ c n F := by
  obtain ⟨q1, q2⟩ := f.2.2.2 k c h1 h2 e
  refine ⟨by rw [q1]; exact h.1, fun i hi => ⟨?_, Nat.lt_of_lt_of_le (h.2 i hi).2 f.1⟩⟩
  rw [q2 i (by rw [h.1]; omega)]
  exact (h.2 i hi).1
theorem AnC.an (H : HI0 σ) (t1 : TyC σ (E 1) 7) (h : AnC N E A B V σ s z L) (f : AnF σ τ (E 1)) : AnC N E A B V τ s z L := by
  have e217 := f.2.2.1.1
  rcases h with ⟨he, hn⟩ | ⟨he, T, hT, ⟨⟨x1, x2, x3, x4⟩, x5⟩, ⟨⟨y1, y2, y3, y4⟩, ⟨y5, y6, y7⟩, y8⟩, hG⟩
  · refine Or.inl ⟨?_, hn⟩
    unfold erC at *
    rw [e217]
    exact he
  · obtain ⟨c3, -, i3, t3, g3⟩ := cg213 H t1
    obtain ⟨c4, -, i4, t4, g4⟩ := cg214 H t1
    obtain rfl : E 213 = c3 := Option.some.inj (x1.symm.trans i3)
    obtain rfl : E 214 = c4 := Option.some.inj (y1.symm.trans i4)
    have fA : ∀ q, q < xnM z → ∀ k, anX.elem k = true → fIC τ (A q) k = fIC σ (A q) k ∧ fLC τ (A q) k = fLC σ (A q) k ∧ fRC τ (A q) k = fRC σ (A q) k := fun q hq => by
      have t := li_ty H t3 g3 x2 hq
      exact f.2.1 (A q) t.1 (Or.inl t.2.1)
    have fB : ∀ q, q < snM z → ∀ k, anX.elem k = true → fIC τ (B q) k = fIC σ (B q) k ∧ fLC τ (B q) k = fLC σ (B q) k ∧ fRC τ (B q) k = fRC σ (B q) k := fun q hq => by
      have t := li_ty H t4 g4 y2 hq
      exact f.2.1 (B q) t.1 (Or.inr t.2.1)
    refine Or.inr ⟨by unfold erC at *; rw [e217]; exact he, T, hT, ⟨⟨(f.2.2.1.2 213 (by decide) (by decide)).trans x1, x2.an f (by decide) (by decide) x1, fun q hq => ⟨?_, ?_, ?_⟩, x4⟩, fun q hq => ⟨?_, ?_, ?_⟩⟩, ⟨⟨(f.2.2.1.2 214 (by decide) (by decide)).trans y1, y2.an f (by decide) (by decide) y1, fun j hj => ⟨?_, ?_⟩, y4⟩, ⟨(f.2.2.1.2 212 (by decide) (by decide)).trans y5, y6.an f (by decide) (by decide) y5, y7⟩, fun j hj => ⟨?_, (y8 j hj).2⟩⟩, fun x hx => ?_⟩
    · rw [(fA q hq 60 rfl).1]; exact (x3 q hq).1
    · rw [(fA q hq 62 rfl).1]; exact (x3 q hq).2.1
    · rw [(fA q hq 64 rfl).1]; exact (x3 q hq).2.2
    · rw [(fA q hq 68 rfl).1]; exact (x5 q hq).1
    · rw [(fA q hq 70 rfl).1]; exact (x5 q hq).2.1
    · rw [(fA q hq 71 rfl).2.1]; exact (x5 q hq).2.2
    · rw [(fB j hj 270 rfl).1]; exact (y3 j hj).1
    · rw [(fB j hj 271 rfl).1]; exact (y3 j hj).2
    · rw [(fB j hj 274 rfl).2.1]; exact (y8 j hj).1
    · obtain ⟨q1, q2, q3⟩ := hG x hx
      exact ⟨q1, fun hk => by rw [(fB x.1 q1 282 rfl).1]; exact q2 hk, by rw [(fB x.1 q1 285 rfl).2.1]; exact q3⟩
theorem AnF.sm (m : SmC σ τ) : AnF σ τ P := ⟨Nat.le_of_eq m.2.2.1.symm, fun a _ _ k hk => m.1 a k (by
  have q := List.elem_iff.mp hk
  simp only [anX, List.mem_cons, List.not_mem_nil, or_false] at q
  omega), ⟨(m.1 P 217 (by decide)).1, fun k h1 h2 => (m.1 P k (by omega)).2.2⟩, fun k c _ _ _ => ⟨(m.1 c 2 (by decide)).1, fun i _ => by
  unfold elC
  rw [(m.1 c 1 (by decide)).2.2, m.2.1.2.2]⟩⟩
theorem AnF.rf : AnF σ σ P := AnF.sm SmC.rf
/-- a frame; rows of lists stay -/
theorem AnF.f0 {M : List Nat} (H : HI0 σ) (t1 : TyC σ P 7) (f : FrE M σ τ) (hM : [999, 1, 2, 60, 62, 64, 68, 70, 71, 212, 213, 214, 217, 270, 271, 274, 282, 285].all (fun k => !M.elem k) = true) (hr : ∀ r, r < cnC σ → tgC σ r = 103 → eRC τ r = eRC σ r) : AnF σ τ P := by
  have F : ∀ a, a < cnC σ → ∀ k, k ∈ [999, 1, 2, 60, 62, 64, 68, 70, 71, 212, 213, 214, 217, 270, 271, 274, 282, 285] → fIC τ a k = fIC σ a k ∧ fLC τ a k = fLC σ a k ∧ fRC τ a k = fRC σ a k := fun a ha k hk => (f.2 (nel hM rfl) a ha).1 k (nel hM (List.elem_iff.mpr hk))
  refine ⟨f.1, fun a ha _ k hk => F a ha k ?_, ⟨(F P t1.1 217 (by decide)).1, fun k h1 h2 => ?_⟩, fun k c h1 h2 e => ?_⟩
  · have q := List.elem_iff.mp hk
    simp only [anX, List.mem_cons, List.not_mem_nil, or_false] at q
    rcases q with rfl | rfl | rfl | rfl | rfl | rfl | rfl | rfl | rfl | rfl | rfl <;> decide
  · have q : k = 212 ∨ k = 213 ∨ k = 214 := by omega
    rcases q with rfl | rfl | rfl
    · exact (F P t1.1 212 (by decide)).2.2
    · exact (F P t1.1 213 (by decide)).2.2
    · exact (F P t1.1 214 (by decide)).2.2
  · have tc : TyC σ c 0 := by
      have q : k = 212 ∨ k = 213 ∨ k = 214 := by omega
      rcases q with rfl | rfl | rfl
      · obtain ⟨b, -, i, t, -⟩ := cg212 H t1; rw [Option.some.inj (e.symm.trans i)]; exact t
      · obtain ⟨b, -, i, t, -⟩ := cg213 H t1; rw [Option.some.inj (e.symm.trans i)]; exact t
      · obtain ⟨b, -, i, t, -⟩ := cg214 H t1; rw [Option.some.inj (e.symm.trans i)]; exact t
    have e2 := (F c tc.1 2 (by decide)).1
    have e1 := (F c tc.1 1 (by decide)).2.2
    refine ⟨e2, fun i hi => ?_⟩
    unfold elC
    rw [e1]
    rcases (H c tc.1).2.1 tc.2.1 with ⟨q1, q2⟩ | ⟨r, q1, ⟨q2, q3, -⟩, -⟩
    · omega
    · rw [q1]
      dsimp only
      rw [hr r q2 q3]
theorem AnF.fe {M : List Nat} (H : HI0 σ) (t1 : TyC σ P 7) (f : FrE M σ τ) (hM : [999, 1, 2, 60, 62, 64, 68, 70, 71, 212, 213, 214, 217, 270, 271, 274, 282, 285].all (fun k => !M.elem k) = true) (h9 : M.elem 902 = false) : AnF σ τ P := AnF.f0 H t1 f hM (fun r hr _ => (f.2 (nel hM rfl) r hr).2.2.2 h9)
theorem AnF.fx {M M' : List Nat} (H : HI0 σ) (t1 : TyC σ P 7) (f : FrE M σ τ) (e : ExC M' σ τ) (hM : [999, 1, 2, 60, 62, 64, 68, 70, 71, 212, 213, 214, 217, 270, 271, 274, 282, 285].all (fun k => !M.elem k) = true) (hm : M'.elem 2 = false) : AnF σ τ P := AnF.f0 H t1 f hM (fun r hr ht => ((e.2.2 r hr).2.2.1.2 ht hm))
/-- two programs' lists are apart -/
def DqC (σ : CsC) (P P' : Nat) : Prop := P ≠ P' ∧ ∀ k, 211 ≤ k → k ≤ 214 → fRC σ P k ≠ fRC σ P' k
theorem DqC.sy {P' : Nat} (h : DqC σ P P') : DqC σ P' P := ⟨h.1.symm, fun k a b => (h.2 k a b).symm⟩
theorem DqC.of {P' : Nat} (h : DqC σ P P') (e : ∀ k, 211 ≤ k → k ≤ 214 → fRC τ P k = fRC σ P k ∧ fRC τ P' k = fRC σ P' k) : DqC τ P P' := ⟨h.1, fun k a b => by rw [(e k a b).1, (e k a b).2]; exact h.2 k a b⟩
theorem cg_l {k c : Nat} (H : HI0 σ) (t1 : TyC σ P 7) (h1 : 211 ≤ k) (h2 : k ≤ 214) (e : fRC σ P k = some c) : TyC σ c 0 ∧ ((k = 211 ∧ ghC σ c = 6) ∨ (k = 212 ∧ ghC σ c = 11) ∨ (k = 213 ∧ ghC σ c = 2) ∨ (k = 214 ∧ ghC σ c = 9)) := by
  have q : k = 211 ∨ k = 212 ∨ k = 213 ∨ k = 214 := by omega
  rcases q with rfl | rfl | rfl | rfl
  · obtain ⟨b, -, i, t, g⟩ := cg211 H t1; rw [Option.some.inj (e.symm.trans i)]; exact ⟨t, Or.inl ⟨rfl, g⟩⟩
  · obtain ⟨b, -, i, t, g⟩ := cg212 H t1; rw [Option.some.inj (e.symm.trans i)]; exact ⟨t, Or.inr (Or.inl ⟨rfl, g⟩)⟩
  · obtain ⟨b, -, i, t, g⟩ := cg213 H t1; rw [Option.some.inj (e.symm.trans i)]; exact ⟨t, Or.inr (Or.inr (Or.inl ⟨rfl, g⟩))⟩
  · obtain ⟨b, -, i, t, g⟩ := cg214 H t1; rw [Option.some.inj (e.symm.trans i)]; exact ⟨t, Or.inr (Or.inr (Or.inr ⟨rfl, g⟩))⟩
/-- a program into which nothing is read stays -/
theorem AnF.rp {p0 P' t : Nat} {K : Nat → Nat} (H : HI0 σ) (t0 : TyC σ p0 8) (t1 : TyC σ P 7) (t2 : TyC σ P' 7) (h : RpC p0 P' t K σ τ) (d : DqC σ P P') : AnF σ τ P ∧ DqC τ P P' := by
  obtain ⟨⟨g1, g2⟩, ⟨k1, k2, -, -⟩, ⟨-, h4⟩, h5⟩ := h
  have np : P ≠ p0 := fun q => by have a := t0.2.1; have b := t1.2.1; rw [q] at b; omega
  have fP : ∀ k, 211 ≤ k → k ≤ 214 → fRC τ P k = fRC σ P k := fun k a b => ((h5 P t1.1).1 np k (by omega) (by omega) (by
    have q : k = 211 ∨ k = 212 ∨ k = 213 ∨ k = 214 := by omega
    rcases q with rfl | rfl | rfl | rfl <;> rfl)).2.2
  refine ⟨⟨g1, fun a ha ht k hk => (h5 a ha).1 (fun q => by rw [q, t0.2.1] at ht; omega) k ?_ ?_ ?_, ⟨h4 P t1.1 d.1 np, fun k a b => fP k (by omega) b⟩, fun k c a b e => ?_⟩, d.of (fun k a b => ⟨fP k a b, (k2 k a b).trans (k1 k a b).symm⟩)⟩
  · have q := List.elem_iff.mp hk
    simp only [anX, List.mem_cons, List.not_mem_nil, or_false] at q
    omega
  · have q := List.elem_iff.mp hk
    simp only [anX, List.mem_cons, List.not_mem_nil, or_false] at q
    omega
  · have q := List.elem_iff.mp hk
    simp only [anX, List.mem_cons, List.not_mem_nil, or_false] at q
    rcases q with rfl | rfl | rfl | rfl | rfl | rfl | rfl | rfl | rfl | rfl | rfl <;> rfl
  · obtain ⟨tc, gc⟩ := cg_l H t1 (by omega) b e
    obtain ⟨q1, _, q3⟩ := (h5 c tc.1).2.2 (fun j j1 j2 ej => by
      obtain ⟨_, gj⟩ := cg_l H t2 j1 j2 (k1 j j1 j2)
      rw [← ej] at gj
      by_cases hjk : j = k
      · refine d.2 k (by omega) b ?_
        rw [e, ← hjk, k1 j j1 j2, ej]
      · omega) tc.2.1
    exact ⟨q1, q3⟩
end

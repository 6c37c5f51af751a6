/-! what reading leaves alone; where params of methods stand -/
def FrP (c Y : RS) : Prop := gI Y 2 = gI c 2 ∧ aL Y = aL c ∧ (aI Y 3 = aI c 3 ∧ aI Y 4 = aI c 4 ∧ aI Y 5 = aI c 5 ∧ aI Y 6 = aI c 6 ∧ aI Y 8 = aI c 8 ∧ aI Y 10 = aI c 10 ∧ aI Y 11 = aI c 11)
def V5 (a b : Int32) (f g h : Nat → Int32) : Prop := (0 ≤ a.toInt ∧ a.toInt ≤ 10) ∧ (0 ≤ b.toInt ∧ b.toInt ≤ 60) ∧ ∀ m : Nat, (m : Int) < a.toInt → (0 ≤ (g m).toInt ∧ 0 ≤ (f m).toInt ∧ (g m).toInt + (f m).toInt ≤ b.toInt) ∧ ∀ k : Nat, (k : Int) < b.toInt → ((h k).toInt = (m : Int) → (g m).toInt ≤ (k : Int)) ∧ ((g m).toInt ≤ (k : Int) → (k : Int) < (g m).toInt + (f m).toInt → (h k).toInt = (m : Int))
def J4 (c Y : RS) : Prop := FrP c Y ∧ V5 (gI Y 36) (gI Y 42) (aI Y 39) (aI Y 40) (aI Y 46) ∧ (0 ≤ (gI Y 18).toInt ∧ (gI Y 18).toInt ≤ 4000)
def K6 (c Y : RS) : Prop := FrP c Y ∧ (gI Y 18 = gI c 18 ∧ gI Y 36 = gI c 36 ∧ gI Y 42 = gI c 42 ∧ gI Y 62 = gI c 62) ∧ (aI Y 39 = aI c 39 ∧ aI Y 40 = aI c 40 ∧ aI Y 46 = aI c 46)
section
variable {c Y Z : RS} {k : Nat} {v : Int32} {f : Nat → Int32}
theorem gI_p {j : Nat} (h : k ≠ j) : gI (sI Y k v) j = gI Y j := by rw [gI_sI, nb_ne (fun q => h q.symm)]
theorem FrP.i (h : FrP c Y) (hk : k ≠ 2) : FrP c (sI Y k v) := ⟨(gI_p hk).trans h.1, h.2⟩
theorem FrP.a (h : FrP c Y) (hk : k ≠ 3 ∧ k ≠ 4 ∧ k ≠ 5 ∧ k ≠ 6 ∧ k ≠ 8 ∧ k ≠ 10 ∧ k ≠ 11) : FrP c (sA Y k f) := by
  obtain ⟨h1, h2, h3, h4, h5, h6, h8, h10, h11⟩ := h
  obtain ⟨k3, k4, k5, k6, k8, k10, k11⟩ := hk
  exact ⟨h1, h2, (aI_ne k3.symm).trans h3, (aI_ne k4.symm).trans h4, (aI_ne k5.symm).trans h5, (aI_ne k6.symm).trans h6, (aI_ne k8.symm).trans h8, (aI_ne k10.symm).trans h10, (aI_ne k11.symm).trans h11⟩
theorem FrP.rf : FrP Y Y := ⟨rfl, rfl, rfl, rfl, rfl, rfl, rfl, rfl, rfl⟩
theorem FrP.tr (h : FrP c Y) (g : FrP Y Z) : FrP c Z := by
  obtain ⟨h1, h2, h3, h4, h5, h6, h8, h10, h11⟩ := h
  obtain ⟨g1, g2, g3, g4, g5, g6, g8, g10, g11⟩ := g
  exact ⟨g1.trans h1, g2.trans h2, g3.trans h3, g4.trans h4, g5.trans h5, g6.trans h6, g8.trans h8, g10.trans h10, g11.trans h11⟩
theorem K6.rf : K6 Y Y := ⟨FrP.rf, ⟨rfl, rfl, rfl, rfl⟩, rfl, rfl, rfl⟩
theorem K6.i (h : K6 c Y) (hk : k ≠ 2 ∧ k ≠ 18 ∧ k ≠ 36 ∧ k ≠ 42 ∧ k ≠ 62) : K6 c (sI Y k v) := ⟨h.1.i hk.1, ⟨(gI_p hk.2.1).trans h.2.1.1, (gI_p hk.2.2.1).trans h.2.1.2.1, (gI_p hk.2.2.2.1).trans h.2.1.2.2.1, (gI_p hk.2.2.2.2).trans h.2.1.2.2.2⟩, h.2.2⟩
theorem K6.a (h : K6 c Y) (hk : (k ≠ 3 ∧ k ≠ 4 ∧ k ≠ 5 ∧ k ≠ 6 ∧ k ≠ 8 ∧ k ≠ 10 ∧ k ≠ 11) ∧ k ≠ 39 ∧ k ≠ 40 ∧ k ≠ 46) : K6 c (sA Y k f) := ⟨h.1.a hk.1, h.2.1, (aI_ne hk.2.1.symm).trans h.2.2.1, (aI_ne hk.2.2.1.symm).trans h.2.2.2.1, (aI_ne hk.2.2.2.symm).trans h.2.2.2.2⟩
theorem J4.i (h : J4 c Y) (hk : k ≠ 2 ∧ k ≠ 18 ∧ k ≠ 36 ∧ k ≠ 42) : J4 c (sI Y k v) := by
  refine ⟨h.1.i hk.1, ?_, ?_⟩
  · rw [gI_p hk.2.2.1, gI_p hk.2.2.2]
    exact h.2.1
  · rw [gI_p hk.2.1]
    exact h.2.2
theorem J4.a (h : J4 c Y) (hk : (k ≠ 3 ∧ k ≠ 4 ∧ k ≠ 5 ∧ k ≠ 6 ∧ k ≠ 8 ∧ k ≠ 10 ∧ k ≠ 11) ∧ k ≠ 39 ∧ k ≠ 40 ∧ k ≠ 46) : J4 c (sA Y k f) := by
  refine ⟨h.1.a hk.1, ?_, h.2.2⟩
  rw [aI_ne hk.2.1.symm, aI_ne hk.2.2.1.symm, aI_ne hk.2.2.2.symm]
  exact h.2.1
theorem J4.ks (h : J4 c Y) (g : K6 Y Z) : J4 c Z := by
  obtain ⟨g1, ⟨g18, g36, g42, g62⟩, g39, g40, g46⟩ := g
  refine ⟨h.1.tr g1, ?_, ?_⟩
  · rw [g36, g42, g39, g40, g46]
    exact h.2.1
  · rw [g18]
    exact h.2.2
theorem J4.e (h : J4 c Y) (h0 : 0 ≤ gI Y 18) (h1 : gI Y 18 < 4000) : J4 c (sI Y 18 (gI Y 18 + 1)) := by
  have h0 := Int32.le_iff_toInt_le.mp h0
  have h0 : 0 ≤ (gI Y 18).toInt := h0
  have h1 := Int32.lt_iff_toInt_lt.mp h1
  have h1 : (gI Y 18).toInt < 4000 := h1
  refine ⟨h.1.i (by decide), h.2.1, ?_⟩
  show 0 ≤ (gI Y 18 + 1).toInt ∧ (gI Y 18 + 1).toInt ≤ 4000
  rw [i32_pk (k := 1) rfl h0 (by omega) (by decide) (by decide)]
  show 0 ≤ (gI Y 18).toInt + 1 ∧ (gI Y 18).toInt + 1 ≤ 4000
  omega
/-- where the params of the method that is read stand; i: how many names are still to come -/
def PX (a b : Int32) (f g h : Nat → Int32) (i : Int) : Prop := (a.toInt < 10 ∧ 0 ≤ (g a.toNatClampNeg).toInt ∧ i ≤ (f a.toNatClampNeg).toInt ∧ (f a.toNatClampNeg).toInt ≤ 6) ∧ (g a.toNatClampNeg).toInt + (f a.toNatClampNeg).toInt = b.toInt + i ∧ ∀ k : Nat, (k : Int) < b.toInt → ((h k).toInt = a.toInt ↔ (g a.toNatClampNeg).toInt ≤ (k : Int))
def QV (c : RS) (m : Int32) (Y : RS) (i : Int) : Prop := J4 c Y ∧ (gI Y 62 = 0 ∧ m = gI Y 36) ∧ PX (gI Y 36) (gI Y 42) (aI Y 39) (aI Y 40) (aI Y 46) i
def M0 (c Y : RS) : Prop := J4 c Y ∧ ∀ k : Nat, (k : Int) < (gI Y 42).toInt → (aI Y 46 k).toInt < (gI Y 36).toInt
variable {m x : Int32} {w5 : Int}
theorem QV.i (h : QV c m Y w5) (hk : (k ≠ 2 ∧ k ≠ 18 ∧ k ≠ 36 ∧ k ≠ 42) ∧ k ≠ 62) : QV c m (sI Y k v) w5 := by
  refine ⟨h.1.i hk.1, ?_, ?_⟩
  · rw [gI_p hk.2, gI_p hk.1.2.2.1]
    exact h.2.1
  · rw [gI_p hk.1.2.2.1, gI_p hk.1.2.2.2]
    exact h.2.2
theorem QV.a (h : QV c m Y w5) (hk : (k ≠ 3 ∧ k ≠ 4 ∧ k ≠ 5 ∧ k ≠ 6 ∧ k ≠ 8 ∧ k ≠ 10 ∧ k ≠ 11) ∧ k ≠ 39 ∧ k ≠ 40 ∧ k ≠ 46) : QV c m (sA Y k f) w5 := by
  refine ⟨h.1.a hk, h.2.1, ?_⟩
  rw [aI_ne hk.2.1.symm, aI_ne hk.2.2.1.symm, aI_ne hk.2.2.2.symm]
  exact h.2.2
theorem QV.ks (h : QV c m Y w5) (g : K6 Y Z) : QV c m Z w5 := by
  obtain ⟨h1, h2, h3⟩ := h
  have j := h1.ks g
  obtain ⟨g1, ⟨g18, g36, g42, g62⟩, g39, g40, g46⟩ := g
  refine ⟨j, ?_, ?_⟩
  · rw [g62, g36]
    exact h2
  · rw [g36, g42, g39, g40, g46]
    exact h3
theorem M0.ks (h : M0 c Y) (g : K6 Y Z) : M0 c Z := by
  obtain ⟨h1, h2⟩ := h
  have j := h1.ks g
  obtain ⟨g1, ⟨g18, g36, g42, g62⟩, g39, g40, g46⟩ := g
  refine ⟨j, ?_⟩
  rw [g42, g46, g36]
  exact h2
theorem px_n {a : Int32} {p : Nat} (h0 : 0 ≤ a.toInt) : (p = a.toNatClampNeg ↔ (p : Int) = a.toInt) := by
  have e : a.toNatClampNeg = a.toInt.toNat := rfl
  rw [e]
  omega
theorem QV.new {f1 f2 : Nat → Int32} (h : M0 c Y) (h10 : ¬ gI Y 36 = 10) : QV c (gI Y 36) (sI (sA (sA (sA (sA Y 37 f1) 38 f2) 39 (upd (aI Y 39) (gI Y 36).toNatClampNeg 0)) 40 (upd (aI Y 40) (gI Y 36).toNatClampNeg (gI Y 42))) 62 0) 0 := by
  obtain ⟨⟨fr, ⟨v1, v2, v3⟩, e⟩, mm⟩ := h
  have n10 : ¬ (gI Y 36).toInt = 10 := fun q => h10 (Int32.toInt_inj.mp q)
  refine ⟨⟨(((((fr.a (by decide)).a (by decide)).a (by decide)).a (by decide)).i (by decide)), ⟨v1, v2, fun p hp => ?_⟩, e⟩, ⟨rfl, rfl⟩, ?_⟩
  · have hp : (p : Int) < (gI Y 36).toInt := hp
    have np : p ≠ (gI Y 36).toNatClampNeg := fun q => by have := (px_n v1.1).mp q; omega
    show (0 ≤ (upd (aI Y 40) (gI Y 36).toNatClampNeg (gI Y 42) p).toInt ∧ 0 ≤ (upd (aI Y 39) (gI Y 36).toNatClampNeg 0 p).toInt ∧ (upd (aI Y 40) (gI Y 36).toNatClampNeg (gI Y 42) p).toInt + (upd (aI Y 39) (gI Y 36).toNatClampNeg 0 p).toInt ≤ (gI Y 42).toInt) ∧ ∀ k : Nat, (k : Int) < (gI Y 42).toInt → ((aI Y 46 k).toInt = (p : Int) → (upd (aI Y 40) (gI Y 36).toNatClampNeg (gI Y 42) p).toInt ≤ (k : Int)) ∧ ((upd (aI Y 40) (gI Y 36).toNatClampNeg (gI Y 42) p).toInt ≤ (k : Int) → (k : Int) < (upd (aI Y 40) (gI Y 36).toNatClampNeg (gI Y 42) p).toInt + (upd (aI Y 39) (gI Y 36).toNatClampNeg 0 p).toInt → (aI Y 46 k).toInt = (p : Int))
    rw [upd_ne np, upd_ne np]
    exact v3 p hp
  · show ((gI Y 36).toInt < 10 ∧ 0 ≤ (upd (aI Y 40) (gI Y 36).toNatClampNeg (gI Y 42) (gI Y 36).toNatClampNeg).toInt ∧ 0 ≤ (upd (aI Y 39) (gI Y 36).toNatClampNeg 0 (gI Y 36).toNatClampNeg).toInt ∧ (upd (aI Y 39) (gI Y 36).toNatClampNeg 0 (gI Y 36).toNatClampNeg).toInt ≤ 6) ∧ (upd (aI Y 40) (gI Y 36).toNatClampNeg (gI Y 42) (gI Y 36).toNatClampNeg).toInt + (upd (aI Y 39) (gI Y 36).toNatClampNeg 0 (gI Y 36).toNatClampNeg).toInt = (gI Y 42).toInt + 0 ∧ ∀ k : Nat, (k : Int) < (gI Y 42).toInt → ((aI Y 46 k).toInt = (gI Y 36).toInt ↔ (upd (aI Y 40) (gI Y 36).toNatClampNeg (gI Y 42) (gI Y 36).toNatClampNeg).toInt ≤ (k : Int))
    rw [upd_eq, upd_eq]
    have z0 : (0 : Int32).toInt = 0 := rfl
    refine ⟨by omega, by omega, fun k hk => ?_⟩
    have := mm k hk
    omega
theorem QV.me (h : QV c m Y 0) : J4 c (sI (sA Y 41 f) 36 (gI Y 36 + 1)) := by
  obtain ⟨⟨fr, ⟨v1, v2, v3⟩, e⟩, ⟨e62, em⟩, ⟨p1, p2, p3, p4⟩, p5, p6⟩ := h
  have s : (gI Y 36 + 1).toInt = (gI Y 36).toInt + 1 := i32_pk (k := 1) rfl v1.1 (by omega) (by decide) (by decide)
  refine ⟨(fr.a (by decide)).i (by decide), ?_, e⟩
  show V5 (gI Y 36 + 1) (gI Y 42) (aI Y 39) (aI Y 40) (aI Y 46)
  unfold V5
  rw [s]
  refine ⟨by omega, v2, fun p hp => ?_⟩
  by_cases q : (p : Int) < (gI Y 36).toInt
  · exact v3 p q
  · have pe : (p : Int) = (gI Y 36).toInt := by omega
    have pn := (px_n v1.1).mpr pe
    rw [← pn] at p2 p3 p4 p5 p6
    refine ⟨by omega, fun k hk => ?_⟩
    have := p6 k hk
    rw [pe]
    exact ⟨fun q => this.mp q, fun q _ => this.mpr q⟩
theorem QV.inc (h : QV c m Y 0) (h6 : ¬ aI Y 39 m.toNatClampNeg = 6) : QV c m (sA Y 39 (upd (aI Y 39) m.toNatClampNeg (aI Y 39 m.toNatClampNeg + 1))) 1 := by
  obtain ⟨⟨fr, ⟨v1, v2, v3⟩, e⟩, ⟨e62, rfl⟩, ⟨p1, p2, p3, p4⟩, p5, p6⟩ := h
  have n6 : ¬ (aI Y 39 (gI Y 36).toNatClampNeg).toInt = 6 := fun q => h6 (Int32.toInt_inj.mp q)
  have s : (aI Y 39 (gI Y 36).toNatClampNeg + 1).toInt = (aI Y 39 (gI Y 36).toNatClampNeg).toInt + 1 := i32_pk (k := 1) rfl p3 (by omega) (by decide) (by decide)
  refine ⟨⟨⟨fr.1, fr.2⟩, ⟨v1, v2, fun p hp => ?_⟩, e⟩, ⟨e62, rfl⟩, ?_⟩
  · have hp : (p : Int) < (gI Y 36).toInt := hp
    have np : p ≠ (gI Y 36).toNatClampNeg := fun q => by have := (px_n v1.1).mp q; omega
    show (0 ≤ (aI Y 40 p).toInt ∧ 0 ≤ (upd (aI Y 39) (gI Y 36).toNatClampNeg (aI Y 39 (gI Y 36).toNatClampNeg + 1) p).toInt ∧ (aI Y 40 p).toInt + (upd (aI Y 39) (gI Y 36).toNatClampNeg (aI Y 39 (gI Y 36).toNatClampNeg + 1) p).toInt ≤ (gI Y 42).toInt) ∧ ∀ k : Nat, (k : Int) < (gI Y 42).toInt → ((aI Y 46 k).toInt = (p : Int) → (aI Y 40 p).toInt ≤ (k : Int)) ∧ ((aI Y 40 p).toInt ≤ (k : Int) → (k : Int) < (aI Y 40 p).toInt + (upd (aI Y 39) (gI Y 36).toNatClampNeg (aI Y 39 (gI Y 36).toNatClampNeg + 1) p).toInt → (aI Y 46 k).toInt = (p : Int))
    rw [upd_ne np]
    exact v3 p hp
  · show ((gI Y 36).toInt < 10 ∧ 0 ≤ (aI Y 40 (gI Y 36).toNatClampNeg).toInt ∧ 1 ≤ (upd (aI Y 39) (gI Y 36).toNatClampNeg (aI Y 39 (gI Y 36).toNatClampNeg + 1) (gI Y 36).toNatClampNeg).toInt ∧ (upd (aI Y 39) (gI Y 36).toNatClampNeg (aI Y 39 (gI Y 36).toNatClampNeg + 1) (gI Y 36).toNatClampNeg).toInt ≤ 6) ∧ (aI Y 40 (gI Y 36).toNatClampNeg).toInt + (upd (aI Y 39) (gI Y 36).toNatClampNeg (aI Y 39 (gI Y 36).toNatClampNeg + 1) (gI Y 36).toNatClampNeg).toInt = (gI Y 42).toInt + 1 ∧ ∀ k : Nat, (k : Int) < (gI Y 42).toInt → ((aI Y 46 k).toInt = (gI Y 36).toInt ↔ (aI Y 40 (gI Y 36).toNatClampNeg).toInt ≤ (k : Int))
    rw [upd_eq, s]
    exact ⟨by omega, by omega, p6⟩
theorem va_n (h0 : 0 ≤ v.toInt) {p : Nat} (hp : (p : Int) < v.toInt) : p ≠ v.toNatClampNeg := fun q => by have := (px_n h0).mp q; omega
theorem J4.va {f3 f4 f5 f7 f8 : Nat → Int32} (h : J4 c Y) (h60 : ¬ gI Y 42 = 60) : J4 c (sA (sA (sA (sA (sA (sA (sI Y 42 (gI Y 42 + 1)) 43 f3) 44 f4) 45 f5) 46 (upd (aI Y 46) (gI Y 42).toNatClampNeg x)) 47 f7) 48 f8) := by
  obtain ⟨fr, ⟨v1, v2, v3⟩, e⟩ := h
  have n60 : ¬ (gI Y 42).toInt = 60 := fun q => h60 (Int32.toInt_inj.mp q)
  have s : (gI Y 42 + 1).toInt = (gI Y 42).toInt + 1 := i32_pk (k := 1) rfl v2.1 (by omega) (by decide) (by decide)
  refine ⟨⟨fr.1, fr.2⟩, ?_, e⟩
  show V5 (gI Y 36) (gI Y 42 + 1) (aI Y 39) (aI Y 40) (upd (aI Y 46) (gI Y 42).toNatClampNeg x)
  unfold V5
  rw [s]
  refine ⟨v1, by omega, fun p hp => ?_⟩
  obtain ⟨w1, w2⟩ := v3 p hp
  refine ⟨by omega, fun k hk => ?_⟩
  by_cases q : (k : Int) < (gI Y 42).toInt
  · rw [upd_ne (va_n v2.1 q)]
    exact w2 k q
  · exact ⟨fun _ => by omega, fun _ _ => by omega⟩
theorem QV.va {f3 f4 f5 f7 f8 : Nat → Int32} (h : QV c m Y 1) (h60 : ¬ gI Y 42 = 60) : QV c m (sA (sA (sA (sA (sA (sA (sI Y 42 (gI Y 42 + 1)) 43 f3) 44 f4) 45 f5) 46 (upd (aI Y 46) (gI Y 42).toNatClampNeg (gI Y 36))) 47 f7) 48 f8) 0 := by
  have j := J4.va (x := gI Y 36) (f3 := f3) (f4 := f4) (f5 := f5) (f7 := f7) (f8 := f8) h.1 h60
  obtain ⟨⟨fr, ⟨v1, v2, v3⟩, e⟩, ⟨e62, em⟩, ⟨p1, p2, p3, p4⟩, p5, p6⟩ := h
  have n60 : ¬ (gI Y 42).toInt = 60 := fun q => h60 (Int32.toInt_inj.mp q)
  have s : (gI Y 42 + 1).toInt = (gI Y 42).toInt + 1 := i32_pk (k := 1) rfl v2.1 (by omega) (by decide) (by decide)
  refine ⟨j, ⟨e62, em⟩, ?_⟩
  show PX (gI Y 36) (gI Y 42 + 1) (aI Y 39) (aI Y 40) (upd (aI Y 46) (gI Y 42).toNatClampNeg (gI Y 36)) 0
  unfold PX
  rw [s]
  refine ⟨⟨p1, p2, by omega, p4⟩, by omega, fun k hk => ?_⟩
  by_cases q : (k : Int) < (gI Y 42).toInt
  · rw [upd_ne (va_n v2.1 q)]
    exact p6 k q
  · have ke : k = (gI Y 42).toNatClampNeg := (px_n v2.1).mpr (by omega)
    rw [ke, upd_eq]
    have kz := (px_n v2.1).mp ke
    have kz : ((gI Y 42).toNatClampNeg : Int) = (gI Y 42).toInt := (px_n v2.1).mp rfl
    exact ⟨fun _ => by omega, fun _ => rfl⟩
end
def Pv_isWordK6 (c : RS) : UP1 := fun A1 σ => match A1 with
  | [.int a1] => K6 c σ
  | _ => False
def Qv_isWordK6 (c : RS) : UQ1 := fun A1 σ w τ => match A1 with
  | [.int a1] => (∃ r : Int32, w = some (.int r)) ∧ K6 c τ
  | _ => False
def Qw_isWordK6 : UQ1 := fun A1 σ w τ => ∀ (c : RS), Pv_isWordK6 c A1 σ → Qv_isWordK6 c A1 σ w τ
set_option maxRecDepth 100000 in
set_option maxHeartbeats 4000000 in
theorem v_isWordK6 (c : RS) : UMet 15 (Pv_isWordK6 c) (Qv_isWordK6 c) := by
  refine UMet.by BisWord [] rfl uc0 ?_
  intro A1 σ hP K hB hW
  unfold Pv_isWordK6 at hP
  split at hP
  next a1 =>
    have all : ∀ N : Nat, (∀ (x1 : Int32) (Y : RS), K6 c Y → K N 0 [(0, .ref 1000), (1, .int x1)] [] Y) ∧ (∀ (x1 : Int32) (Y : RS), K6 c Y → K N 13 [(0, .ref 1000), (1, .int x1)] [] Y) ∧ (∀ (x1 : Int32) (Y : RS), K6 c Y → K N 26 [(0, .ref 1000), (1, .int x1)] [] Y) ∧ (∀ (x1 : Int32) (Y : RS), K6 c Y → K N 30 [(0, .ref 1000), (1, .int x1)] [] Y) ∧ (∀ (x1 : Int32) (s0 : Int32) (Y : RS), K6 c Y → K N 31 [(0, .ref 1000), (1, .int x1)] [.int s0] Y) := by
      intro N
      induction N using Nat.strongRecOn with
      | ind N ih =>
        refine ⟨?_, ?_, ?_, ?_, ?_⟩
        · intro x1 Y hz
          refine hB _ _ _ _ _ (fun m1 hm1 => ?_)
          dsimp only [ugo, uwp, ust, uct, rfd, BisWord, BisWord_0, Nat.beq, lv_args, rlk, rs1, rs2, rdl, rky, rcd, rno, rsw, Value.category, List.filter, List.take, List.drop, List.reverse, List.reverseAux, List.cons_append, List.nil_append, Option.toList, Int.toNat, Int.reduceToNat, if_pos, if_neg, reduceIte, ↓reduceIte, Nat.reduceAdd, Nat.reduceEqDiff, Nat.reduceBEq, beq_self_eq_true, Bool.not_true, Bool.not_false, Bool.and_true, Bool.and_false, Bool.true_and, Bool.false_and, gI_sI, gI_sL, gI_sA, gI_sM, gL_sI, gL_sL, gL_sA, gL_sM, aI_sI, aI_sL, aI_sA, aI_sM, aL_sI, aL_sL, aL_sA, aL_sM, oi_4]; try dsimp only
          intro p2
          refine ⟨fun h3 => ?_, fun h3 => ?_⟩
          · exact hW _ 30 [(0, .ref 1000), (1, .int x1)] _ _ _ (by simp [rdl, rky, Value.category]) ((ih m1 hm1).2.2.2.1 x1 _ hz)
          · exact hW _ 13 [(0, .ref 1000), (1, .int x1)] _ _ _ (by simp [rdl, rky, Value.category]) ((ih m1 hm1).2.1 x1 _ hz)
        · intro x1 Y hz
          refine hB _ _ _ _ _ (fun m1 hm1 => ?_)
          dsimp only [ugo, uwp, ust, uct, rfd, BisWord, BisWord_13, Nat.beq, lv_args, rlk, rs1, rs2, rdl, rky, rcd, rno, rsw, Value.category, List.filter, List.take, List.drop, List.reverse, List.reverseAux, List.cons_append, List.nil_append, Option.toList, Int.toNat, Int.reduceToNat, if_pos, if_neg, reduceIte, ↓reduceIte, Nat.reduceAdd, Nat.reduceEqDiff, Nat.reduceBEq, beq_self_eq_true, Bool.not_true, Bool.not_false, Bool.and_true, Bool.and_false, Bool.true_and, Bool.false_and, gI_sI, gI_sL, gI_sA, gI_sM, gL_sI, gL_sL, gL_sA, gL_sM, aI_sI, aI_sL, aI_sA, aI_sM, aL_sI, aL_sL, aL_sA, aL_sM]; try dsimp only
          intro p2
          refine ⟨fun h3 => ?_, fun h3 => ?_⟩
          · exact hW _ 30 [(0, .ref 1000), (1, .int x1)] _ _ _ (by simp [rdl, rky, Value.category]) ((ih m1 hm1).2.2.2.1 x1 _ hz)
          · exact hW _ 26 [(0, .ref 1000), (1, .int x1)] _ _ _ (by simp [rdl, rky, Value.category]) ((ih m1 hm1).2.2.1 x1 _ hz)
        · intro x1 Y hz
          refine hB _ _ _ _ _ (fun m1 hm1 => ?_)
          dsimp only [ugo, uwp, ust, uct, rfd, BisWord, BisWord_26, Nat.beq, lv_args, rlk, rs1, rs2, rdl, rky, rcd, rno, rsw, Value.category, List.filter, List.take, List.drop, List.reverse, List.reverseAux, List.cons_append, List.nil_append, Option.toList, Int.toNat, Int.reduceToNat, if_pos, if_neg, reduceIte, ↓reduceIte, Nat.reduceAdd, Nat.reduceEqDiff, Nat.reduceBEq, beq_self_eq_true, Bool.not_true, Bool.not_false, Bool.and_true, Bool.and_false, Bool.true_and, Bool.false_and, gI_sI, gI_sL, gI_sA, gI_sM, gL_sI, gL_sL, gL_sA, gL_sM, aI_sI, aI_sL, aI_sA, aI_sM, aL_sI, aL_sL, aL_sA, aL_sM, oi_1]; try dsimp only
          exact hW _ 31 [(0, .ref 1000), (1, .int x1)] _ _ _ (by simp [rdl, rky, Value.category]) ((ih m1 hm1).2.2.2.2 x1 1 _ hz)
        · intro x1 Y hz
          refine hB _ _ _ _ _ (fun m1 hm1 => ?_)
          dsimp only [ugo, uwp, ust, uct, rfd, BisWord, BisWord_30, Nat.beq, lv_args, rlk, rs1, rs2, rdl, rky, rcd, rno, rsw, Value.category, List.filter, List.take, List.drop, List.reverse, List.reverseAux, List.cons_append, List.nil_append, Option.toList, Int.toNat, Int.reduceToNat, if_pos, if_neg, reduceIte, ↓reduceIte, Nat.reduceAdd, Nat.reduceEqDiff, Nat.reduceBEq, beq_self_eq_true, Bool.not_true, Bool.not_false, Bool.and_true, Bool.and_false, Bool.true_and, Bool.false_and, gI_sI, gI_sL, gI_sA, gI_sM, gL_sI, gL_sL, gL_sA, gL_sM, aI_sI, aI_sL, aI_sA, aI_sM, aL_sI, aL_sL, aL_sA, aL_sM, oi_0]; try dsimp only
          exact hW _ 31 [(0, .ref 1000), (1, .int x1)] _ _ _ (by simp [rdl, rky, Value.category]) ((ih m1 hm1).2.2.2.2 x1 0 _ hz)
        · intro x1 s0 Y hz
          refine hB _ _ _ _ _ (fun m1 hm1 => ?_)
          dsimp only [ugo, uwp, ust, uct, rfd, BisWord, BisWord_31, Nat.beq, lv_args, rlk, rs1, rs2, rdl, rky, rcd, rno, rsw, Value.category, List.filter, List.take, List.drop, List.reverse, List.reverseAux, List.cons_append, List.nil_append, Option.toList, Int.toNat, Int.reduceToNat, if_pos, if_neg, reduceIte, ↓reduceIte, Nat.reduceAdd, Nat.reduceEqDiff, Nat.reduceBEq, beq_self_eq_true, Bool.not_true, Bool.not_false, Bool.and_true, Bool.and_false, Bool.true_and, Bool.false_and, gI_sI, gI_sL, gI_sA, gI_sM, gL_sI, gL_sL, gL_sA, gL_sM, aI_sI, aI_sL, aI_sA, aI_sM, aL_sI, aL_sL, aL_sA, aL_sM]; try dsimp only
          unfold Qv_isWordK6
          try dsimp only
          exact ⟨⟨_, rfl⟩, hz⟩
    intro n0
    exact (all n0).1 a1 σ hP
  next => exact hP.elim
theorem w_isWordK6 : UMet 15 (fun _ _ => True) Qw_isWordK6 := fun A1 σ _ w τ h c hP => v_isWordK6 c A1 σ hP w τ h
def Pv_isTypeK6 (c : RS) : UP1 := fun A1 σ => match A1 with
  | [.int a1] => K6 c σ
  | _ => False
def Qv_isTypeK6 (c : RS) : UQ1 := fun A1 σ w τ => match A1 with
  | [.int a1] => (∃ r : Int32, w = some (.int r)) ∧ K6 c τ
  | _ => False
def Qw_isTypeK6 : UQ1 := fun A1 σ w τ => ∀ (c : RS), Pv_isTypeK6 c A1 σ → Qv_isTypeK6 c A1 σ w τ
set_option maxRecDepth 100000 in
set_option maxHeartbeats 4000000 in
theorem v_isTypeK6 (c : RS) : UMet 23 (Pv_isTypeK6 c) (Qv_isTypeK6 c) := by
  refine UMet.by BisType [] rfl uc0 ?_
  intro A1 σ hP K hB hW
  unfold Pv_isTypeK6 at hP
  split at hP
  next a1 =>
    have all : ∀ N : Nat, (∀ (x1 : Int32) (Y : RS), K6 c Y → K N 0 [(0, .ref 1000), (1, .int x1)] [] Y) ∧ (∀ (x1 : Int32) (Y : RS), K6 c Y → K N 10 [(0, .ref 1000), (1, .int x1)] [] Y) ∧ (∀ (x1 : Int32) (Y : RS), K6 c Y → K N 20 [(0, .ref 1000), (1, .int x1)] [] Y) ∧ (∀ (x1 : Int32) (Y : RS), K6 c Y → K N 24 [(0, .ref 1000), (1, .int x1)] [] Y) ∧ (∀ (x1 : Int32) (s0 : Int32) (Y : RS), K6 c Y → K N 25 [(0, .ref 1000), (1, .int x1)] [.int s0] Y) := by
      intro N
      induction N using Nat.strongRecOn with
      | ind N ih =>
        refine ⟨?_, ?_, ?_, ?_, ?_⟩
        · intro x1 Y hz
          refine hB _ _ _ _ _ (fun m1 hm1 => ?_)
          dsimp only [ugo, uwp, ust, uct, rfd, BisType, BisType_0, Nat.beq, lv_args, rlk, rs1, rs2, rdl, rky, rcd, rno, rsw, Value.category, List.filter, List.take, List.drop, List.reverse, List.reverseAux, List.cons_append, List.nil_append, Option.toList, Int.toNat, Int.reduceToNat, if_pos, if_neg, reduceIte, ↓reduceIte, Nat.reduceAdd, Nat.reduceEqDiff, Nat.reduceBEq, beq_self_eq_true, Bool.not_true, Bool.not_false, Bool.and_true, Bool.and_false, Bool.true_and, Bool.false_and, gI_sI, gI_sL, gI_sA, gI_sM, gL_sI, gL_sL, gL_sA, gL_sM, aI_sI, aI_sL, aI_sA, aI_sM, aL_sI, aL_sL, aL_sA, aL_sM, oi_4]; try dsimp only
          intro p2
          refine ⟨fun h3 => ?_, fun h3 => ?_⟩
          · exact hW _ 24 [(0, .ref 1000), (1, .int x1)] _ _ _ (by simp [rdl, rky, Value.category]) ((ih m1 hm1).2.2.2.1 x1 _ hz)
          · exact hW _ 10 [(0, .ref 1000), (1, .int x1)] _ _ _ (by simp [rdl, rky, Value.category]) ((ih m1 hm1).2.1 x1 _ hz)
        · intro x1 Y hz
          refine hB _ _ _ _ _ (fun m1 hm1 => ?_)
          dsimp only [ugo, uwp, ust, uct, rfd, BisType, BisType_10, Nat.beq, lv_args, rlk, rs1, rs2, rdl, rky, rcd, rno, rsw, Value.category, List.filter, List.take, List.drop, List.reverse, List.reverseAux, List.cons_append, List.nil_append, Option.toList, Int.toNat, Int.reduceToNat, if_pos, if_neg, reduceIte, ↓reduceIte, Nat.reduceAdd, Nat.reduceEqDiff, Nat.reduceBEq, beq_self_eq_true, Bool.not_true, Bool.not_false, Bool.and_true, Bool.and_false, Bool.true_and, Bool.false_and, gI_sI, gI_sL, gI_sA, gI_sM, gL_sI, gL_sL, gL_sA, gL_sM, aI_sI, aI_sL, aI_sA, aI_sM, aL_sI, aL_sL, aL_sA, aL_sM, oi_4]; try dsimp only
          intro p2
          refine ⟨fun h3 => ?_, fun h3 => ?_⟩
          · exact hW _ 24 [(0, .ref 1000), (1, .int x1)] _ _ _ (by simp [rdl, rky, Value.category]) ((ih m1 hm1).2.2.2.1 x1 _ hz)
          · exact hW _ 20 [(0, .ref 1000), (1, .int x1)] _ _ _ (by simp [rdl, rky, Value.category]) ((ih m1 hm1).2.2.1 x1 _ hz)
        · intro x1 Y hz
          refine hB _ _ _ _ _ (fun m1 hm1 => ?_)
          dsimp only [ugo, uwp, ust, uct, rfd, BisType, BisType_20, Nat.beq, lv_args, rlk, rs1, rs2, rdl, rky, rcd, rno, rsw, Value.category, List.filter, List.take, List.drop, List.reverse, List.reverseAux, List.cons_append, List.nil_append, Option.toList, Int.toNat, Int.reduceToNat, if_pos, if_neg, reduceIte, ↓reduceIte, Nat.reduceAdd, Nat.reduceEqDiff, Nat.reduceBEq, beq_self_eq_true, Bool.not_true, Bool.not_false, Bool.and_true, Bool.and_false, Bool.true_and, Bool.false_and, gI_sI, gI_sL, gI_sA, gI_sM, gL_sI, gL_sL, gL_sA, gL_sM, aI_sI, aI_sL, aI_sA, aI_sM, aL_sI, aL_sL, aL_sA, aL_sM, oi_1]; try dsimp only
          exact hW _ 25 [(0, .ref 1000), (1, .int x1)] _ _ _ (by simp [rdl, rky, Value.category]) ((ih m1 hm1).2.2.2.2 x1 1 _ hz)
        · intro x1 Y hz
          refine hB _ _ _ _ _ (fun m1 hm1 => ?_)
          dsimp only [ugo, uwp, ust, uct, rfd, BisType, BisType_24, Nat.beq, lv_args, rlk, rs1, rs2, rdl, rky, rcd, rno, rsw, Value.category, List.filter, List.take, List.drop, List.reverse, List.reverseAux, List.cons_append, List.nil_append, Option.toList, Int.toNat, Int.reduceToNat, if_pos, if_neg, reduceIte, ↓reduceIte, Nat.reduceAdd, Nat.reduceEqDiff, Nat.reduceBEq, beq_self_eq_true, Bool.not_true, Bool.not_false, Bool.and_true, Bool.and_false, Bool.true_and, Bool.false_and, gI_sI, gI_sL, gI_sA, gI_sM, gL_sI, gL_sL, gL_sA, gL_sM, aI_sI, aI_sL, aI_sA, aI_sM, aL_sI, aL_sL, aL_sA, aL_sM, oi_0]; try dsimp only
          exact hW _ 25 [(0, .ref 1000), (1, .int x1)] _ _ _ (by simp [rdl, rky, Value.category]) ((ih m1 hm1).2.2.2.2 x1 0 _ hz)
        · intro x1 s0 Y hz
          refine hB _ _ _ _ _ (fun m1 hm1 => ?_)
          dsimp only [ugo, uwp, ust, uct, rfd, BisType, BisType_25, Nat.beq, lv_args, rlk, rs1, rs2, rdl, rky, rcd, rno, rsw, Value.category, List.filter, List.take, List.drop, List.reverse, List.reverseAux, List.cons_append, List.nil_append, Option.toList, Int.toNat, Int.reduceToNat, if_pos, if_neg, reduceIte, ↓reduceIte, Nat.reduceAdd, Nat.reduceEqDiff, Nat.reduceBEq, beq_self_eq_true, Bool.not_true, Bool.not_false, Bool.and_true, Bool.and_false, Bool.true_and, Bool.false_and, gI_sI, gI_sL, gI_sA, gI_sM, gL_sI, gL_sL, gL_sA, gL_sM, aI_sI, aI_sL, aI_sA, aI_sM, aL_sI, aL_sL, aL_sA, aL_sM]; try dsimp only
          unfold Qv_isTypeK6
          try dsimp only
          exact ⟨⟨_, rfl⟩, hz⟩
    intro n0
    exact (all n0).1 a1 σ hP
  next => exact hP.elim
theorem w_isTypeK6 : UMet 23 (fun _ _ => True) Qw_isTypeK6 := fun A1 σ _ w τ h c hP => v_isTypeK6 c A1 σ hP w τ h
def Pv_isSignK6 (c : RS) : UP1 := fun A1 σ => match A1 with
  | [.int a1] => K6 c σ
  | _ => False
def Qv_isSignK6 (c : RS) : UQ1 := fun A1 σ w τ => match A1 with
  | [.int a1] => (∃ r : Int32, w = some (.int r)) ∧ K6 c τ
  | _ => False
def Qw_isSignK6 : UQ1 := fun A1 σ w τ => ∀ (c : RS), Pv_isSignK6 c A1 σ → Qv_isSignK6 c A1 σ w τ
set_option maxRecDepth 100000 in
set_option maxHeartbeats 4000000 in
theorem v_isSignK6 (c : RS) : UMet 14 (Pv_isSignK6 c) (Qv_isSignK6 c) := by
  refine UMet.by BisSign [] rfl uc0 ?_
  intro A1 σ hP K hB hW
  unfold Pv_isSignK6 at hP
  split at hP
  next a1 =>
    have all : ∀ N : Nat, (∀ (x1 : Int32) (Y : RS), K6 c Y → K N 0 [(0, .ref 1000), (1, .int x1)] [] Y) ∧ (∀ (x1 : Int32) (Y : RS), K6 c Y → K N 13 [(0, .ref 1000), (1, .int x1)] [] Y) ∧ (∀ (x1 : Int32) (Y : RS), K6 c Y → K N 26 [(0, .ref 1000), (1, .int x1)] [] Y) ∧ (∀ (x1 : Int32) (Y : RS), K6 c Y → K N 30 [(0, .ref 1000), (1, .int x1)] [] Y) ∧ (∀ (x1 : Int32) (s0 : Int32) (Y : RS), K6 c Y → K N 31 [(0, .ref 1000), (1, .int x1)] [.int s0] Y) := by
      intro N
      induction N using Nat.strongRecOn with
      | ind N ih =>
        refine ⟨?_, ?_, ?_, ?_, ?_⟩
        · intro x1 Y hz
          refine hB _ _ _ _ _ (fun m1 hm1 => ?_)
          dsimp only [ugo, uwp, ust, uct, rfd, BisSign, BisSign_0, Nat.beq, lv_args, rlk, rs1, rs2, rdl, rky, rcd, rno, rsw, Value.category, List.filter, List.take, List.drop, List.reverse, List.reverseAux, List.cons_append, List.nil_append, Option.toList, Int.toNat, Int.reduceToNat, if_pos, if_neg, reduceIte, ↓reduceIte, Nat.reduceAdd, Nat.reduceEqDiff, Nat.reduceBEq, beq_self_eq_true, Bool.not_true, Bool.not_false, Bool.and_true, Bool.and_false, Bool.true_and, Bool.false_and, gI_sI, gI_sL, gI_sA, gI_sM, gL_sI, gL_sL, gL_sA, gL_sM, aI_sI, aI_sL, aI_sA, aI_sM, aL_sI, aL_sL, aL_sA, aL_sM, oi_5]; try dsimp only
          intro p2
          refine ⟨fun h3 => ?_, fun h3 => ?_⟩
          · exact hW _ 30 [(0, .ref 1000), (1, .int x1)] _ _ _ (by simp [rdl, rky, Value.category]) ((ih m1 hm1).2.2.2.1 x1 _ hz)
          · exact hW _ 13 [(0, .ref 1000), (1, .int x1)] _ _ _ (by simp [rdl, rky, Value.category]) ((ih m1 hm1).2.1 x1 _ hz)
        · intro x1 Y hz
          refine hB _ _ _ _ _ (fun m1 hm1 => ?_)
          dsimp only [ugo, uwp, ust, uct, rfd, BisSign, BisSign_13, Nat.beq, lv_args, rlk, rs1, rs2, rdl, rky, rcd, rno, rsw, Value.category, List.filter, List.take, List.drop, List.reverse, List.reverseAux, List.cons_append, List.nil_append, Option.toList, Int.toNat, Int.reduceToNat, if_pos, if_neg, reduceIte, ↓reduceIte, Nat.reduceAdd, Nat.reduceEqDiff, Nat.reduceBEq, beq_self_eq_true, Bool.not_true, Bool.not_false, Bool.and_true, Bool.and_false, Bool.true_and, Bool.false_and, gI_sI, gI_sL, gI_sA, gI_sM, gL_sI, gL_sL, gL_sA, gL_sM, aI_sI, aI_sL, aI_sA, aI_sM, aL_sI, aL_sL, aL_sA, aL_sM]; try dsimp only
          intro p2
          refine ⟨fun h3 => ?_, fun h3 => ?_⟩
          · exact hW _ 30 [(0, .ref 1000), (1, .int x1)] _ _ _ (by simp [rdl, rky, Value.category]) ((ih m1 hm1).2.2.2.1 x1 _ hz)
          · exact hW _ 26 [(0, .ref 1000), (1, .int x1)] _ _ _ (by simp [rdl, rky, Value.category]) ((ih m1 hm1).2.2.1 x1 _ hz)
        · intro x1 Y hz
          refine hB _ _ _ _ _ (fun m1 hm1 => ?_)
          dsimp only [ugo, uwp, ust, uct, rfd, BisSign, BisSign_26, Nat.beq, lv_args, rlk, rs1, rs2, rdl, rky, rcd, rno, rsw, Value.category, List.filter, List.take, List.drop, List.reverse, List.reverseAux, List.cons_append, List.nil_append, Option.toList, Int.toNat, Int.reduceToNat, if_pos, if_neg, reduceIte, ↓reduceIte, Nat.reduceAdd, Nat.reduceEqDiff, Nat.reduceBEq, beq_self_eq_true, Bool.not_true, Bool.not_false, Bool.and_true, Bool.and_false, Bool.true_and, Bool.false_and, gI_sI, gI_sL, gI_sA, gI_sM, gL_sI, gL_sL, gL_sA, gL_sM, aI_sI, aI_sL, aI_sA, aI_sM, aL_sI, aL_sL, aL_sA, aL_sM, oi_1]; try dsimp only
          exact hW _ 31 [(0, .ref 1000), (1, .int x1)] _ _ _ (by simp [rdl, rky, Value.category]) ((ih m1 hm1).2.2.2.2 x1 1 _ hz)
        · intro x1 Y hz
          refine hB _ _ _ _ _ (fun m1 hm1 => ?_)
          dsimp only [ugo, uwp, ust, uct, rfd, BisSign, BisSign_30, Nat.beq, lv_args, rlk, rs1, rs2, rdl, rky, rcd, rno, rsw, Value.category, List.filter, List.take, List.drop, List.reverse, List.reverseAux, List.cons_append, List.nil_append, Option.toList, Int.toNat, Int.reduceToNat, if_pos, if_neg, reduceIte, ↓reduceIte, Nat.reduceAdd, Nat.reduceEqDiff, Nat.reduceBEq, beq_self_eq_true, Bool.not_true, Bool.not_false, Bool.and_true, Bool.and_false, Bool.true_and, Bool.false_and, gI_sI, gI_sL, gI_sA, gI_sM, gL_sI, gL_sL, gL_sA, gL_sM, aI_sI, aI_sL, aI_sA, aI_sM, aL_sI, aL_sL, aL_sA, aL_sM, oi_0]; try dsimp only
          exact hW _ 31 [(0, .ref 1000), (1, .int x1)] _ _ _ (by simp [rdl, rky, Value.category]) ((ih m1 hm1).2.2.2.2 x1 0 _ hz)
        · intro x1 s0 Y hz
          refine hB _ _ _ _ _ (fun m1 hm1 => ?_)
          dsimp only [ugo, uwp, ust, uct, rfd, BisSign, BisSign_31, Nat.beq, lv_args, rlk, rs1, rs2, rdl, rky, rcd, rno, rsw, Value.category, List.filter, List.take, List.drop, List.reverse, List.reverseAux, List.cons_append, List.nil_append, Option.toList, Int.toNat, Int.reduceToNat, if_pos, if_neg, reduceIte, ↓reduceIte, Nat.reduceAdd, Nat.reduceEqDiff, Nat.reduceBEq, beq_self_eq_true, Bool.not_true, Bool.not_false, Bool.and_true, Bool.and_false, Bool.true_and, Bool.false_and, gI_sI, gI_sL, gI_sA, gI_sM, gL_sI, gL_sL, gL_sA, gL_sM, aI_sI, aI_sL, aI_sA, aI_sM, aL_sI, aL_sL, aL_sA, aL_sM]; try dsimp only
          unfold Qv_isSignK6
          try dsimp only
          exact ⟨⟨_, rfl⟩, hz⟩
    intro n0
    exact (all n0).1 a1 σ hP
  next => exact hP.elim
theorem w_isSignK6 : UMet 14 (fun _ _ => True) Qw_isSignK6 := fun A1 σ _ w τ h c hP => v_isSignK6 c A1 σ hP w τ h
def Pv_wrongK6 (c : RS) : UP1 := fun A1 σ => match A1 with
  | [.int a1, .int a2] => K6 c σ
  | _ => False
def Qv_wrongK6 (c : RS) : UQ1 := fun A1 σ w τ => match A1 with
  | [.int a1, .int a2] => (w = some (.int 0)) ∧ K6 c τ
  | _ => False
def Qw_wrongK6 : UQ1 := fun A1 σ w τ => ∀ (c : RS), Pv_wrongK6 c A1 σ → Qv_wrongK6 c A1 σ w τ
set_option maxRecDepth 100000 in
set_option maxHeartbeats 4000000 in
theorem v_wrongK6 (c : RS) : UMet 12 (Pv_wrongK6 c) (Qv_wrongK6 c) := by
  refine UMet.by Bwrong [] rfl uc0 ?_
  intro A1 σ hP K hB hW
  unfold Pv_wrongK6 at hP
  split at hP
  next a1 a2 =>
    have all : ∀ N : Nat, (∀ (x1 : Int32) (x2 : Int32) (Y : RS), K6 c Y → K N 0 [(0, .ref 1000), (1, .int x1), (2, .int x2)] [] Y) ∧ (∀ (x1 : Int32) (x2 : Int32) (Y : RS), K6 c Y → K N 7 [(0, .ref 1000), (1, .int x1), (2, .int x2)] [] Y) ∧ (∀ (x1 : Int32) (x2 : Int32) (Y : RS), K6 c Y → K N 22 [(0, .ref 1000), (1, .int x1), (2, .int x2)] [] Y) := by
      intro N
      induction N using Nat.strongRecOn with
      | ind N ih =>
        refine ⟨?_, ?_, ?_⟩
        · intro x1 x2 Y hz
          refine hB _ _ _ _ _ (fun m1 hm1 => ?_)
          dsimp only [ugo, uwp, ust, uct, rfd, Bwrong, Bwrong_0, Nat.beq, lv_args, rlk, rs1, rs2, rdl, rky, rcd, rno, rsw, Value.category, List.filter, List.take, List.drop, List.reverse, List.reverseAux, List.cons_append, List.nil_append, Option.toList, Int.toNat, Int.reduceToNat, if_pos, if_neg, reduceIte, ↓reduceIte, Nat.reduceAdd, Nat.reduceEqDiff, Nat.reduceBEq, beq_self_eq_true, Bool.not_true, Bool.not_false, Bool.and_true, Bool.and_false, Bool.true_and, Bool.false_and, gI_sI, gI_sL, gI_sA, gI_sM, gL_sI, gL_sL, gL_sA, gL_sM, aI_sI, aI_sL, aI_sA, aI_sM, aL_sI, aL_sL, aL_sA, aL_sM]; try dsimp only
          refine ⟨fun h2 => ?_, fun h2 => ?_⟩
          · exact hW _ 22 [(0, .ref 1000), (1, .int x1), (2, .int x2)] _ _ _ (by simp [rdl, rky, Value.category]) ((ih m1 hm1).2.2 x1 x2 _ hz)
          · exact hW _ 7 [(0, .ref 1000), (1, .int x1), (2, .int x2)] _ _ _ (by simp [rdl, rky, Value.category]) ((ih m1 hm1).2.1 x1 x2 _ hz)
        · intro x1 x2 Y hz
          refine hB _ _ _ _ _ (fun m1 hm1 => ?_)
          dsimp only [ugo, uwp, ust, uct, rfd, Bwrong, Bwrong_7, Nat.beq, lv_args, rlk, rs1, rs2, rdl, rky, rcd, rno, rsw, Value.category, List.filter, List.take, List.drop, List.reverse, List.reverseAux, List.cons_append, List.nil_append, Option.toList, Int.toNat, Int.reduceToNat, if_pos, if_neg, reduceIte, ↓reduceIte, Nat.reduceAdd, Nat.reduceEqDiff, Nat.reduceBEq, beq_self_eq_true, Bool.not_true, Bool.not_false, Bool.and_true, Bool.and_false, Bool.true_and, Bool.false_and, gI_sI, gI_sL, gI_sA, gI_sM, gL_sI, gL_sL, gL_sA, gL_sM, aI_sI, aI_sL, aI_sA, aI_sM, aL_sI, aL_sL, aL_sA, aL_sM]; try dsimp only
          intro p2
          exact hW _ 22 [(0, .ref 1000), (1, .int x1), (2, .int x2)] _ _ _ (by simp [rdl, rky, Value.category]) ((ih m1 hm1).2.2 x1 x2 _ ((hz.i (by decide)).i (by decide)))
        · intro x1 x2 Y hz
          refine hB _ _ _ _ _ (fun m1 hm1 => ?_)
          dsimp only [ugo, uwp, ust, uct, rfd, Bwrong, Bwrong_22, Nat.beq, lv_args, rlk, rs1, rs2, rdl, rky, rcd, rno, rsw, Value.category, List.filter, List.take, List.drop, List.reverse, List.reverseAux, List.cons_append, List.nil_append, Option.toList, Int.toNat, Int.reduceToNat, if_pos, if_neg, reduceIte, ↓reduceIte, Nat.reduceAdd, Nat.reduceEqDiff, Nat.reduceBEq, beq_self_eq_true, Bool.not_true, Bool.not_false, Bool.and_true, Bool.and_false, Bool.true_and, Bool.false_and, gI_sI, gI_sL, gI_sA, gI_sM, gL_sI, gL_sL, gL_sA, gL_sM, aI_sI, aI_sL, aI_sA, aI_sM, aL_sI, aL_sL, aL_sA, aL_sM, oi_0]; try dsimp only
          unfold Qv_wrongK6
          try dsimp only
          exact ⟨rfl, hz⟩
    intro n0
    exact (all n0).1 a1 a2 σ hP
  next => exact hP.elim
theorem w_wrongK6 : UMet 12 (fun _ _ => True) Qw_wrongK6 := fun A1 σ _ w τ h c hP => v_wrongK6 c A1 σ hP w τ h
def Pv_takeK6 (c : RS) : UP1 := fun A1 σ => match A1 with
  | [] => K6 c σ
  | _ => False
def Qv_takeK6 (c : RS) : UQ1 := fun A1 σ w τ => match A1 with
  | [] => (∃ r : Int32, w = some (.int r)) ∧ K6 c τ
  | _ => False
def Qw_takeK6 : UQ1 := fun A1 σ w τ => ∀ (c : RS), Pv_takeK6 c A1 σ → Qv_takeK6 c A1 σ w τ
set_option maxRecDepth 100000 in
set_option maxHeartbeats 4000000 in
theorem v_takeK6 (c : RS) : UMet 17 (Pv_takeK6 c) (Qv_takeK6 c) := by
  refine UMet.by Btake [(12, (fun _ _ => True), Qw_wrongK6)] rfl (ucc w_wrongK6 uc0) ?_
  intro A1 σ hP K hB hW
  unfold Pv_takeK6 at hP
  split at hP
  next =>
    have all : ∀ N : Nat, (∀ (Y : RS), K6 c Y → K N 0 [(0, .ref 1000)] [] Y) ∧ (∀ (Y : RS), K6 c Y → K N 10 [(0, .ref 1000)] [] Y) ∧ (∀ (Y : RS), K6 c Y → K N 20 [(0, .ref 1000)] [] Y) := by
      intro N
      induction N using Nat.strongRecOn with
      | ind N ih =>
        refine ⟨?_, ?_, ?_⟩
        · intro Y hz
          refine hB _ _ _ _ _ (fun m1 hm1 => ?_)
          dsimp only [ugo, uwp, ust, uct, rfd, Btake, Btake_0, Nat.beq, lv_args, rlk, rs1, rs2, rdl, rky, rcd, rno, rsw, Value.category, List.filter, List.take, List.drop, List.reverse, List.reverseAux, List.cons_append, List.nil_append, Option.toList, Int.toNat, Int.reduceToNat, if_pos, if_neg, reduceIte, ↓reduceIte, Nat.reduceAdd, Nat.reduceEqDiff, Nat.reduceBEq, beq_self_eq_true, Bool.not_true, Bool.not_false, Bool.and_true, Bool.and_false, Bool.true_and, Bool.false_and, gI_sI, gI_sL, gI_sA, gI_sM, gL_sI, gL_sL, gL_sA, gL_sM, aI_sI, aI_sL, aI_sA, aI_sM, aL_sI, aL_sL, aL_sA, aL_sM, oi_500]; try dsimp only
          refine ⟨fun h2 => ?_, fun h2 => ?_⟩
          · exact hW _ 20 [(0, .ref 1000)] _ _ _ (by simp [rdl, rky, Value.category]) ((ih m1 hm1).2.2  _ hz)
          · exact hW _ 10 [(0, .ref 1000)] _ _ _ (by simp [rdl, rky, Value.category]) ((ih m1 hm1).2.1  _ hz)
        · intro Y hz
          refine hB _ _ _ _ _ (fun m1 hm1 => ?_)
          dsimp only [ugo, uwp, ust, uct, rfd, Btake, Btake_10, Nat.beq, lv_args, rlk, rs1, rs2, rdl, rky, rcd, rno, rsw, Value.category, List.filter, List.take, List.drop, List.reverse, List.reverseAux, List.cons_append, List.nil_append, Option.toList, Int.toNat, Int.reduceToNat, if_pos, if_neg, reduceIte, ↓reduceIte, Nat.reduceAdd, Nat.reduceEqDiff, Nat.reduceBEq, beq_self_eq_true, Bool.not_true, Bool.not_false, Bool.and_true, Bool.and_false, Bool.true_and, Bool.false_and, gI_sI, gI_sL, gI_sA, gI_sM, gL_sI, gL_sL, gL_sA, gL_sM, aI_sI, aI_sL, aI_sA, aI_sM, aL_sI, aL_sL, aL_sA, aL_sM, oi_3]; try dsimp only
          refine ⟨trivial, fun w2 τ2 hq2 => ?_⟩
          obtain ⟨rfl, hz2⟩ := hq2 c hz
          dsimp only [Option.toList, List.cons_append, List.nil_append, Nat.beq, gI_sI, gI_sL, gI_sA, gI_sM, gL_sI, gL_sL, gL_sA, gL_sM, aI_sI, aI_sL, aI_sA, aI_sM, aL_sI, aL_sL, aL_sA, aL_sM]
          unfold Qv_takeK6
          try dsimp only
          exact ⟨⟨_, rfl⟩, hz2⟩
        · intro Y hz
          refine hB _ _ _ _ _ (fun m1 hm1 => ?_)
          dsimp only [ugo, uwp, ust, uct, rfd, Btake, Btake_20, Nat.beq, lv_args, rlk, rs1, rs2, rdl, rky, rcd, rno, rsw, Value.category, List.filter, List.take, List.drop, List.reverse, List.reverseAux, List.cons_append, List.nil_append, Option.toList, Int.toNat, Int.reduceToNat, if_pos, if_neg, reduceIte, ↓reduceIte, Nat.reduceAdd, Nat.reduceEqDiff, Nat.reduceBEq, beq_self_eq_true, Bool.not_true, Bool.not_false, Bool.and_true, Bool.and_false, Bool.true_and, Bool.false_and, gI_sI, gI_sL, gI_sA, gI_sM, gL_sI, gL_sL, gL_sA, gL_sM, aI_sI, aI_sL, aI_sA, aI_sM, aL_sI, aL_sL, aL_sA, aL_sM, oi_1]; try dsimp only
          unfold Qv_takeK6
          try dsimp only
          exact ⟨⟨_, rfl⟩, (hz.i (by decide))⟩
    intro n0
    exact (all n0).1  σ hP
  next => exact hP.elim
theorem w_takeK6 : UMet 17 (fun _ _ => True) Qw_takeK6 := fun A1 σ _ w τ h c hP => v_takeK6 c A1 σ hP w τ h
def Pv_cantK6 (c : RS) : UP1 := fun A1 σ => match A1 with
  | [] => K6 c σ
  | _ => False
def Qv_cantK6 (c : RS) : UQ1 := fun A1 σ w τ => match A1 with
  | [] => (w = some (.int 0)) ∧ K6 c τ
  | _ => False
def Qw_cantK6 : UQ1 := fun A1 σ w τ => ∀ (c : RS), Pv_cantK6 c A1 σ → Qv_cantK6 c A1 σ w τ
set_option maxRecDepth 100000 in
set_option maxHeartbeats 4000000 in
theorem v_cantK6 (c : RS) : UMet 13 (Pv_cantK6 c) (Qv_cantK6 c) := by
  refine UMet.by Bcant [(12, (fun _ _ => True), Qw_wrongK6)] rfl (ucc w_wrongK6 uc0) ?_
  intro A1 σ hP K hB hW
  unfold Pv_cantK6 at hP
  split at hP
  next =>
    have all : ∀ N : Nat, (∀ (Y : RS), K6 c Y → K N 0 [(0, .ref 1000)] [] Y) ∧ (∀ (Y : RS), K6 c Y → K N 15 [(0, .ref 1000)] [.ref 1000] Y) ∧ (∀ (Y : RS), K6 c Y → K N 19 [(0, .ref 1000)] [.ref 1000] Y) ∧ (∀ (s0 : Int32) (Y : RS), K6 c Y → K N 20 [(0, .ref 1000)] [.int s0, .ref 1000] Y) := by
      intro N
      induction N using Nat.strongRecOn with
      | ind N ih =>
        refine ⟨?_, ?_, ?_, ?_⟩
        · intro Y hz
          refine hB _ _ _ _ _ (fun m1 hm1 => ?_)
          dsimp only [ugo, uwp, ust, uct, rfd, Bcant, Bcant_0, Nat.beq, lv_args, rlk, rs1, rs2, rdl, rky, rcd, rno, rsw, Value.category, List.filter, List.take, List.drop, List.reverse, List.reverseAux, List.cons_append, List.nil_append, Option.toList, Int.toNat, Int.reduceToNat, if_pos, if_neg, reduceIte, ↓reduceIte, Nat.reduceAdd, Nat.reduceEqDiff, Nat.reduceBEq, beq_self_eq_true, Bool.not_true, Bool.not_false, Bool.and_true, Bool.and_false, Bool.true_and, Bool.false_and, gI_sI, gI_sL, gI_sA, gI_sM, gL_sI, gL_sL, gL_sA, gL_sM, aI_sI, aI_sL, aI_sA, aI_sM, aL_sI, aL_sL, aL_sA, aL_sM, oi_6]; try dsimp only
          intro p2
          refine ⟨fun h3 => ?_, fun h3 => ?_⟩
          · exact hW _ 19 [(0, .ref 1000)] _ _ _ (by simp [rdl, rky, Value.category]) ((ih m1 hm1).2.2.1  _ hz)
          · exact hW _ 15 [(0, .ref 1000)] _ _ _ (by simp [rdl, rky, Value.category]) ((ih m1 hm1).2.1  _ hz)
        · intro Y hz
          refine hB _ _ _ _ _ (fun m1 hm1 => ?_)
          dsimp only [ugo, uwp, ust, uct, rfd, Bcant, Bcant_15, Nat.beq, lv_args, rlk, rs1, rs2, rdl, rky, rcd, rno, rsw, Value.category, List.filter, List.take, List.drop, List.reverse, List.reverseAux, List.cons_append, List.nil_append, Option.toList, Int.toNat, Int.reduceToNat, if_pos, if_neg, reduceIte, ↓reduceIte, Nat.reduceAdd, Nat.reduceEqDiff, Nat.reduceBEq, beq_self_eq_true, Bool.not_true, Bool.not_false, Bool.and_true, Bool.and_false, Bool.true_and, Bool.false_and, gI_sI, gI_sL, gI_sA, gI_sM, gL_sI, gL_sL, gL_sA, gL_sM, aI_sI, aI_sL, aI_sA, aI_sM, aL_sI, aL_sL, aL_sA, aL_sM, oi_1]; try dsimp only
          exact hW _ 20 [(0, .ref 1000)] _ _ _ (by simp [rdl, rky, Value.category]) ((ih m1 hm1).2.2.2 1 _ hz)
        · intro Y hz
          refine hB _ _ _ _ _ (fun m1 hm1 => ?_)
          dsimp only [ugo, uwp, ust, uct, rfd, Bcant, Bcant_19, Nat.beq, lv_args, rlk, rs1, rs2, rdl, rky, rcd, rno, rsw, Value.category, List.filter, List.take, List.drop, List.reverse, List.reverseAux, List.cons_append, List.nil_append, Option.toList, Int.toNat, Int.reduceToNat, if_pos, if_neg, reduceIte, ↓reduceIte, Nat.reduceAdd, Nat.reduceEqDiff, Nat.reduceBEq, beq_self_eq_true, Bool.not_true, Bool.not_false, Bool.and_true, Bool.and_false, Bool.true_and, Bool.false_and, gI_sI, gI_sL, gI_sA, gI_sM, gL_sI, gL_sL, gL_sA, gL_sM, aI_sI, aI_sL, aI_sA, aI_sM, aL_sI, aL_sL, aL_sA, aL_sM, oi_2]; try dsimp only
          exact hW _ 20 [(0, .ref 1000)] _ _ _ (by simp [rdl, rky, Value.category]) ((ih m1 hm1).2.2.2 2 _ hz)
        · intro s0 Y hz
          refine hB _ _ _ _ _ (fun m1 hm1 => ?_)
          dsimp only [ugo, uwp, ust, uct, rfd, Bcant, Bcant_20, Nat.beq, lv_args, rlk, rs1, rs2, rdl, rky, rcd, rno, rsw, Value.category, List.filter, List.take, List.drop, List.reverse, List.reverseAux, List.cons_append, List.nil_append, Option.toList, Int.toNat, Int.reduceToNat, if_pos, if_neg, reduceIte, ↓reduceIte, Nat.reduceAdd, Nat.reduceEqDiff, Nat.reduceBEq, beq_self_eq_true, Bool.not_true, Bool.not_false, Bool.and_true, Bool.and_false, Bool.true_and, Bool.false_and, gI_sI, gI_sL, gI_sA, gI_sM, gL_sI, gL_sL, gL_sA, gL_sM, aI_sI, aI_sL, aI_sA, aI_sM, aL_sI, aL_sL, aL_sA, aL_sM]; try dsimp only
          refine ⟨trivial, fun w2 τ2 hq2 => ?_⟩
          obtain ⟨rfl, hz2⟩ := hq2 c hz
          dsimp only [Option.toList, List.cons_append, List.nil_append, Nat.beq, gI_sI, gI_sL, gI_sA, gI_sM, gL_sI, gL_sL, gL_sA, gL_sM, aI_sI, aI_sL, aI_sA, aI_sM, aL_sI, aL_sL, aL_sA, aL_sM]
          unfold Qv_cantK6
          try dsimp only
          exact ⟨rfl, hz2⟩
    intro n0
    exact (all n0).1  σ hP
  next => exact hP.elim
theorem w_cantK6 : UMet 13 (fun _ _ => True) Qw_cantK6 := fun A1 σ _ w τ h c hP => v_cantK6 c A1 σ hP w τ h
def Pv_wantK6 (c : RS) : UP1 := fun A1 σ => match A1 with
  | [.int a1] => K6 c σ
  | _ => False
def Qv_wantK6 (c : RS) : UQ1 := fun A1 σ w τ => match A1 with
  | [.int a1] => (∃ r : Int32, w = some (.int r)) ∧ K6 c τ
  | _ => False
def Qw_wantK6 : UQ1 := fun A1 σ w τ => ∀ (c : RS), Pv_wantK6 c A1 σ → Qv_wantK6 c A1 σ w τ
set_option maxRecDepth 100000 in
set_option maxHeartbeats 4000000 in
theorem v_wantK6 (c : RS) : UMet 18 (Pv_wantK6 c) (Qv_wantK6 c) := by
  refine UMet.by Bwant [(13, (fun _ _ => True), Qw_cantK6), (14, (fun _ _ => True), Qw_isSignK6), (17, (fun _ _ => True), Qw_takeK6)] rfl (ucc w_cantK6 (ucc w_isSignK6 (ucc w_takeK6 uc0))) ?_
  intro A1 σ hP K hB hW
  unfold Pv_wantK6 at hP
  split at hP
  next a1 =>
    have all : ∀ N : Nat, (∀ (x1 : Int32) (Y : RS), K6 c Y → K N 0 [(0, .ref 1000), (1, .int x1)] [] Y) ∧ (∀ (x1 : Int32) (Y : RS), K6 c Y → K N 8 [(0, .ref 1000), (1, .int x1)] [] Y) ∧ (∀ (x1 : Int32) (Y : RS), K6 c Y → K N 15 [(0, .ref 1000), (1, .int x1)] [] Y) ∧ (∀ (x1 : Int32) (s0 : Int32) (Y : RS), K6 c Y → K N 19 [(0, .ref 1000), (1, .int x1)] [.int s0] Y) := by
      intro N
      induction N using Nat.strongRecOn with
      | ind N ih =>
        refine ⟨?_, ?_, ?_, ?_⟩
        · intro x1 Y hz
          refine hB _ _ _ _ _ (fun m1 hm1 => ?_)
          dsimp only [ugo, uwp, ust, uct, rfd, Bwant, Bwant_0, Nat.beq, lv_args, rlk, rs1, rs2, rdl, rky, rcd, rno, rsw, Value.category, List.filter, List.take, List.drop, List.reverse, List.reverseAux, List.cons_append, List.nil_append, Option.toList, Int.toNat, Int.reduceToNat, if_pos, if_neg, reduceIte, ↓reduceIte, Nat.reduceAdd, Nat.reduceEqDiff, Nat.reduceBEq, beq_self_eq_true, Bool.not_true, Bool.not_false, Bool.and_true, Bool.and_false, Bool.true_and, Bool.false_and, gI_sI, gI_sL, gI_sA, gI_sM, gL_sI, gL_sL, gL_sA, gL_sM, aI_sI, aI_sL, aI_sA, aI_sM, aL_sI, aL_sL, aL_sA, aL_sM]; try dsimp only
          refine ⟨trivial, fun w2 τ2 hq2 => ?_⟩
          obtain ⟨⟨r2, rfl⟩, hz2⟩ := hq2 c hz
          dsimp only [Option.toList, List.cons_append, List.nil_append, Nat.beq, gI_sI, gI_sL, gI_sA, gI_sM, gL_sI, gL_sL, gL_sA, gL_sM, aI_sI, aI_sL, aI_sA, aI_sM, aL_sI, aL_sL, aL_sA, aL_sM]
          refine ⟨fun h3 => ?_, fun h3 => ?_⟩
          · exact hW _ 15 [(0, .ref 1000), (1, .int x1)] _ _ _ (by simp [rdl, rky, Value.category]) ((ih m1 hm1).2.2.1 x1 _ hz2)
          · exact hW _ 8 [(0, .ref 1000), (1, .int x1)] _ _ _ (by simp [rdl, rky, Value.category]) ((ih m1 hm1).2.1 x1 _ hz2)
        · intro x1 Y hz
          refine hB _ _ _ _ _ (fun m1 hm1 => ?_)
          dsimp only [ugo, uwp, ust, uct, rfd, Bwant, Bwant_8, Nat.beq, lv_args, rlk, rs1, rs2, rdl, rky, rcd, rno, rsw, Value.category, List.filter, List.take, List.drop, List.reverse, List.reverseAux, List.cons_append, List.nil_append, Option.toList, Int.toNat, Int.reduceToNat, if_pos, if_neg, reduceIte, ↓reduceIte, Nat.reduceAdd, Nat.reduceEqDiff, Nat.reduceBEq, beq_self_eq_true, Bool.not_true, Bool.not_false, Bool.and_true, Bool.and_false, Bool.true_and, Bool.false_and, gI_sI, gI_sL, gI_sA, gI_sM, gL_sI, gL_sL, gL_sA, gL_sM, aI_sI, aI_sL, aI_sA, aI_sM, aL_sI, aL_sL, aL_sA, aL_sM]; try dsimp only
          refine ⟨trivial, fun w2 τ2 hq2 => ?_⟩
          obtain ⟨⟨r2, rfl⟩, hz2⟩ := hq2 c hz
          dsimp only [Option.toList, List.cons_append, List.nil_append, Nat.beq, gI_sI, gI_sL, gI_sA, gI_sM, gL_sI, gL_sL, gL_sA, gL_sM, aI_sI, aI_sL, aI_sA, aI_sM, aL_sI, aL_sL, aL_sA, aL_sM]
          exact hW _ 19 [(0, .ref 1000), (1, .int x1)] _ _ _ (by simp [rdl, rky, Value.category]) ((ih m1 hm1).2.2.2 x1 r2 _ hz2)
        · intro x1 Y hz
          refine hB _ _ _ _ _ (fun m1 hm1 => ?_)
          dsimp only [ugo, uwp, ust, uct, rfd, Bwant, Bwant_15, Nat.beq, lv_args, rlk, rs1, rs2, rdl, rky, rcd, rno, rsw, Value.category, List.filter, List.take, List.drop, List.reverse, List.reverseAux, List.cons_append, List.nil_append, Option.toList, Int.toNat, Int.reduceToNat, if_pos, if_neg, reduceIte, ↓reduceIte, Nat.reduceAdd, Nat.reduceEqDiff, Nat.reduceBEq, beq_self_eq_true, Bool.not_true, Bool.not_false, Bool.and_true, Bool.and_false, Bool.true_and, Bool.false_and, gI_sI, gI_sL, gI_sA, gI_sM, gL_sI, gL_sL, gL_sA, gL_sM, aI_sI, aI_sL, aI_sA, aI_sM, aL_sI, aL_sL, aL_sA, aL_sM]; try dsimp only
          refine ⟨trivial, fun w2 τ2 hq2 => ?_⟩
          obtain ⟨rfl, hz2⟩ := hq2 c hz
          dsimp only [Option.toList, List.cons_append, List.nil_append, Nat.beq, gI_sI, gI_sL, gI_sA, gI_sM, gL_sI, gL_sL, gL_sA, gL_sM, aI_sI, aI_sL, aI_sA, aI_sM, aL_sI, aL_sL, aL_sA, aL_sM]
          exact hW _ 19 [(0, .ref 1000), (1, .int x1)] _ _ _ (by simp [rdl, rky, Value.category]) ((ih m1 hm1).2.2.2 x1 0 _ hz2)
        · intro x1 s0 Y hz
          refine hB _ _ _ _ _ (fun m1 hm1 => ?_)
          dsimp only [ugo, uwp, ust, uct, rfd, Bwant, Bwant_19, Nat.beq, lv_args, rlk, rs1, rs2, rdl, rky, rcd, rno, rsw, Value.category, List.filter, List.take, List.drop, List.reverse, List.reverseAux, List.cons_append, List.nil_append, Option.toList, Int.toNat, Int.reduceToNat, if_pos, if_neg, reduceIte, ↓reduceIte, Nat.reduceAdd, Nat.reduceEqDiff, Nat.reduceBEq, beq_self_eq_true, Bool.not_true, Bool.not_false, Bool.and_true, Bool.and_false, Bool.true_and, Bool.false_and, gI_sI, gI_sL, gI_sA, gI_sM, gL_sI, gL_sL, gL_sA, gL_sM, aI_sI, aI_sL, aI_sA, aI_sM, aL_sI, aL_sL, aL_sA, aL_sM]; try dsimp only
          unfold Qv_wantK6
          try dsimp only
          exact ⟨⟨_, rfl⟩, hz⟩
    intro n0
    exact (all n0).1 a1 σ hP
  next => exact hP.elim
theorem w_wantK6 : UMet 18 (fun _ _ => True) Qw_wantK6 := fun A1 σ _ w τ h c hP => v_wantK6 c A1 σ hP w τ h
def Pv_thingK6 (c : RS) : UP1 := fun A1 σ => match A1 with
  | [.int a1, .int a2] => K6 c σ
  | _ => False
def Qv_thingK6 (c : RS) : UQ1 := fun A1 σ w τ => match A1 with
  | [.int a1, .int a2] => (∃ r : Int32, w = some (.int r)) ∧ K6 c τ
  | _ => False
def Qw_thingK6 : UQ1 := fun A1 σ w τ => ∀ (c : RS), Pv_thingK6 c A1 σ → Qv_thingK6 c A1 σ w τ
set_option maxRecDepth 100000 in
set_option maxHeartbeats 4000000 in
theorem v_thingK6 (c : RS) : UMet 35 (Pv_thingK6 c) (Qv_thingK6 c) := by
  refine UMet.by Bthing [] rfl uc0 ?_
  intro A1 σ hP K hB hW
  unfold Pv_thingK6 at hP
  split at hP
  next a1 a2 =>
    have all : ∀ N : Nat, (∀ (x1 : Int32) (x2 : Int32) (Y : RS), K6 c Y → K N 0 [(0, .ref 1000), (1, .int x1), (2, .int x2)] [] Y) := by
      intro N
      induction N using Nat.strongRecOn with
      | ind N ih =>
        skip
        · intro x1 x2 Y hz
          refine hB _ _ _ _ _ (fun m1 hm1 => ?_)
          dsimp only [ugo, uwp, ust, uct, rfd, Bthing, Bthing_0, Nat.beq, lv_args, rlk, rs1, rs2, rdl, rky, rcd, rno, rsw, Value.category, List.filter, List.take, List.drop, List.reverse, List.reverseAux, List.cons_append, List.nil_append, Option.toList, Int.toNat, Int.reduceToNat, if_pos, if_neg, reduceIte, ↓reduceIte, Nat.reduceAdd, Nat.reduceEqDiff, Nat.reduceBEq, beq_self_eq_true, Bool.not_true, Bool.not_false, Bool.and_true, Bool.and_false, Bool.true_and, Bool.false_and, gI_sI, gI_sL, gI_sA, gI_sM, gL_sI, gL_sL, gL_sA, gL_sM, aI_sI, aI_sL, aI_sA, aI_sM, aL_sI, aL_sL, aL_sA, aL_sM, oi_1, oi_m2]; try dsimp only
          intro p2
          intro p3
          intro p4
          intro p5
          intro p6
          intro p7
          intro p8
          intro p9
          intro p10
          intro p11
          intro p12
          intro p13
          unfold Qv_thingK6
          try dsimp only
          exact ⟨⟨_, rfl⟩, (((((((((((((hz.i (by decide)).a (by decide)).a (by decide)).a (by decide)).a (by decide)).a (by decide)).a (by decide)).a (by decide)).a (by decide)).a (by decide)).a (by decide)).a (by decide)).a (by decide))⟩
    intro n0
    exact all n0 a1 a2 σ hP
  next => exact hP.elim
theorem w_thingK6 : UMet 35 (fun _ _ => True) Qw_thingK6 := fun A1 σ _ w τ h c hP => v_thingK6 c A1 σ hP w τ h
def Pv_wrongJ4 (c : RS) : UP1 := fun A1 σ => match A1 with
  | [.int a1, .int a2] => J4 c σ
  | _ => False
def Qv_wrongJ4 (c : RS) : UQ1 := fun A1 σ w τ => match A1 with
  | [.int a1, .int a2] => (w = some (.int 0)) ∧ J4 c τ
  | _ => False
def Qw_wrongJ4 : UQ1 := fun A1 σ w τ => ∀ (c : RS), Pv_wrongJ4 c A1 σ → Qv_wrongJ4 c A1 σ w τ
set_option maxRecDepth 100000 in
set_option maxHeartbeats 4000000 in
theorem v_wrongJ4 (c : RS) : UMet 12 (Pv_wrongJ4 c) (Qv_wrongJ4 c) := by
  refine UMet.by Bwrong [] rfl uc0 ?_
  intro A1 σ hP K hB hW
  unfold Pv_wrongJ4 at hP
  split at hP
  next a1 a2 =>
    have all : ∀ N : Nat, (∀ (x1 : Int32) (x2 : Int32) (Y : RS), J4 c Y → K N 0 [(0, .ref 1000), (1, .int x1), (2, .int x2)] [] Y) ∧ (∀ (x1 : Int32) (x2 : Int32) (Y : RS), J4 c Y → K N 7 [(0, .ref 1000), (1, .int x1), (2, .int x2)] [] Y) ∧ (∀ (x1 : Int32) (x2 : Int32) (Y : RS), J4 c Y → K N 22 [(0, .ref 1000), (1, .int x1), (2, .int x2)] [] Y) := by
      intro N
      induction N using Nat.strongRecOn with
      | ind N ih =>
        refine ⟨?_, ?_, ?_⟩
        · intro x1 x2 Y hz
          refine hB _ _ _ _ _ (fun m1 hm1 => ?_)
          dsimp only [ugo, uwp, ust, uct, rfd, Bwrong, Bwrong_0, Nat.beq, lv_args, rlk, rs1, rs2, rdl, rky, rcd, rno, rsw, Value.category, List.filter, List.take, List.drop, List.reverse, List.reverseAux, List.cons_append, List.nil_append, Option.toList, Int.toNat, Int.reduceToNat, if_pos, if_neg, reduceIte, ↓reduceIte, Nat.reduceAdd, Nat.reduceEqDiff, Nat.reduceBEq, beq_self_eq_true, Bool.not_true, Bool.not_false, Bool.and_true, Bool.and_false, Bool.true_and, Bool.false_and, gI_sI, gI_sL, gI_sA, gI_sM, gL_sI, gL_sL, gL_sA, gL_sM, aI_sI, aI_sL, aI_sA, aI_sM, aL_sI, aL_sL, aL_sA, aL_sM]; try dsimp only
          refine ⟨fun h2 => ?_, fun h2 => ?_⟩
          · exact hW _ 22 [(0, .ref 1000), (1, .int x1), (2, .int x2)] _ _ _ (by simp [rdl, rky, Value.category]) ((ih m1 hm1).2.2 x1 x2 _ hz)
          · exact hW _ 7 [(0, .ref 1000), (1, .int x1), (2, .int x2)] _ _ _ (by simp [rdl, rky, Value.category]) ((ih m1 hm1).2.1 x1 x2 _ hz)
        · intro x1 x2 Y hz
          refine hB _ _ _ _ _ (fun m1 hm1 => ?_)
          dsimp only [ugo, uwp, ust, uct, rfd, Bwrong, Bwrong_7, Nat.beq, lv_args, rlk, rs1, rs2, rdl, rky, rcd, rno, rsw, Value.category, List.filter, List.take, List.drop, List.reverse, List.reverseAux, List.cons_append, List.nil_append, Option.toList, Int.toNat, Int.reduceToNat, if_pos, if_neg, reduceIte, ↓reduceIte, Nat.reduceAdd, Nat.reduceEqDiff, Nat.reduceBEq, beq_self_eq_true, Bool.not_true, Bool.not_false, Bool.and_true, Bool.and_false, Bool.true_and, Bool.false_and, gI_sI, gI_sL, gI_sA, gI_sM, gL_sI, gL_sL, gL_sA, gL_sM, aI_sI, aI_sL, aI_sA, aI_sM, aL_sI, aL_sL, aL_sA, aL_sM]; try dsimp only
          intro p2
          exact hW _ 22 [(0, .ref 1000), (1, .int x1), (2, .int x2)] _ _ _ (by simp [rdl, rky, Value.category]) ((ih m1 hm1).2.2 x1 x2 _ ((hz.i (by decide)).i (by decide)))
        · intro x1 x2 Y hz
          refine hB _ _ _ _ _ (fun m1 hm1 => ?_)
          dsimp only [ugo, uwp, ust, uct, rfd, Bwrong, Bwrong_22, Nat.beq, lv_args, rlk, rs1, rs2, rdl, rky, rcd, rno, rsw, Value.category, List.filter, List.take, List.drop, List.reverse, List.reverseAux, List.cons_append, List.nil_append, Option.toList, Int.toNat, Int.reduceToNat, if_pos, if_neg, reduceIte, ↓reduceIte, Nat.reduceAdd, Nat.reduceEqDiff, Nat.reduceBEq, beq_self_eq_true, Bool.not_true, Bool.not_false, Bool.and_true, Bool.and_false, Bool.true_and, Bool.false_and, gI_sI, gI_sL, gI_sA, gI_sM, gL_sI, gL_sL, gL_sA, gL_sM, aI_sI, aI_sL, aI_sA, aI_sM, aL_sI, aL_sL, aL_sA, aL_sM, oi_0]; try dsimp only
          unfold Qv_wrongJ4
          try dsimp only
          exact ⟨rfl, hz⟩
    intro n0
    exact (all n0).1 a1 a2 σ hP
  next => exact hP.elim
theorem w_wrongJ4 : UMet 12 (fun _ _ => True) Qw_wrongJ4 := fun A1 σ _ w τ h c hP => v_wrongJ4 c A1 σ hP w τ h
def Pv_cantJ4 (c : RS) : UP1 := fun A1 σ => match A1 with
  | [] => J4 c σ
  | _ => False
def Qv_cantJ4 (c : RS) : UQ1 := fun A1 σ w τ => match A1 with
  | [] => (w = some (.int 0)) ∧ J4 c τ
  | _ => False
def Qw_cantJ4 : UQ1 := fun A1 σ w τ => ∀ (c : RS), Pv_cantJ4 c A1 σ → Qv_cantJ4 c A1 σ w τ
set_option maxRecDepth 100000 in
set_option maxHeartbeats 4000000 in
theorem v_cantJ4 (c : RS) : UMet 13 (Pv_cantJ4 c) (Qv_cantJ4 c) := by
  refine UMet.by Bcant [(12, (fun _ _ => True), Qw_wrongJ4)] rfl (ucc w_wrongJ4 uc0) ?_
  intro A1 σ hP K hB hW
  unfold Pv_cantJ4 at hP
  split at hP
  next =>
    have all : ∀ N : Nat, (∀ (Y : RS), J4 c Y → K N 0 [(0, .ref 1000)] [] Y) ∧ (∀ (Y : RS), J4 c Y → K N 15 [(0, .ref 1000)] [.ref 1000] Y) ∧ (∀ (Y : RS), J4 c Y → K N 19 [(0, .ref 1000)] [.ref 1000] Y) ∧ (∀ (s0 : Int32) (Y : RS), J4 c Y → K N 20 [(0, .ref 1000)] [.int s0, .ref 1000] Y) := by
      intro N
      induction N using Nat.strongRecOn with
      | ind N ih =>
        refine ⟨?_, ?_, ?_, ?_⟩
        · intro Y hz
          refine hB _ _ _ _ _ (fun m1 hm1 => ?_)
          dsimp only [ugo, uwp, ust, uct, rfd, Bcant, Bcant_0, Nat.beq, lv_args, rlk, rs1, rs2, rdl, rky, rcd, rno, rsw, Value.category, List.filter, List.take, List.drop, List.reverse, List.reverseAux, List.cons_append, List.nil_append, Option.toList, Int.toNat, Int.reduceToNat, if_pos, if_neg, reduceIte, ↓reduceIte, Nat.reduceAdd, Nat.reduceEqDiff, Nat.reduceBEq, beq_self_eq_true, Bool.not_true, Bool.not_false, Bool.and_true, Bool.and_false, Bool.true_and, Bool.false_and, gI_sI, gI_sL, gI_sA, gI_sM, gL_sI, gL_sL, gL_sA, gL_sM, aI_sI, aI_sL, aI_sA, aI_sM, aL_sI, aL_sL, aL_sA, aL_sM, oi_6]; try dsimp only
          intro p2
          refine ⟨fun h3 => ?_, fun h3 => ?_⟩
          · exact hW _ 19 [(0, .ref 1000)] _ _ _ (by simp [rdl, rky, Value.category]) ((ih m1 hm1).2.2.1  _ hz)
          · exact hW _ 15 [(0, .ref 1000)] _ _ _ (by simp [rdl, rky, Value.category]) ((ih m1 hm1).2.1  _ hz)
        · intro Y hz
          refine hB _ _ _ _ _ (fun m1 hm1 => ?_)
          dsimp only [ugo, uwp, ust, uct, rfd, Bcant, Bcant_15, Nat.beq, lv_args, rlk, rs1, rs2, rdl, rky, rcd, rno, rsw, Value.category, List.filter, List.take, List.drop, List.reverse, List.reverseAux, List.cons_append, List.nil_append, Option.toList, Int.toNat, Int.reduceToNat, if_pos, if_neg, reduceIte, ↓reduceIte, Nat.reduceAdd, Nat.reduceEqDiff, Nat.reduceBEq, beq_self_eq_true, Bool.not_true, Bool.not_false, Bool.and_true, Bool.and_false, Bool.true_and, Bool.false_and, gI_sI, gI_sL, gI_sA, gI_sM, gL_sI, gL_sL, gL_sA, gL_sM, aI_sI, aI_sL, aI_sA, aI_sM, aL_sI, aL_sL, aL_sA, aL_sM, oi_1]; try dsimp only
          exact hW _ 20 [(0, .ref 1000)] _ _ _ (by simp [rdl, rky, Value.category]) ((ih m1 hm1).2.2.2 1 _ hz)
        · intro Y hz
          refine hB _ _ _ _ _ (fun m1 hm1 => ?_)
          dsimp only [ugo, uwp, ust, uct, rfd, Bcant, Bcant_19, Nat.beq, lv_args, rlk, rs1, rs2, rdl, rky, rcd, rno, rsw, Value.category, List.filter, List.take, List.drop, List.reverse, List.reverseAux, List.cons_append, List.nil_append, Option.toList, Int.toNat, Int.reduceToNat, if_pos, if_neg, reduceIte, ↓reduceIte, Nat.reduceAdd, Nat.reduceEqDiff, Nat.reduceBEq, beq_self_eq_true, Bool.not_true, Bool.not_false, Bool.and_true, Bool.and_false, Bool.true_and, Bool.false_and, gI_sI, gI_sL, gI_sA, gI_sM, gL_sI, gL_sL, gL_sA, gL_sM, aI_sI, aI_sL, aI_sA, aI_sM, aL_sI, aL_sL, aL_sA, aL_sM, oi_2]; try dsimp only
          exact hW _ 20 [(0, .ref 1000)] _ _ _ (by simp [rdl, rky, Value.category]) ((ih m1 hm1).2.2.2 2 _ hz)
        · intro s0 Y hz
          refine hB _ _ _ _ _ (fun m1 hm1 => ?_)
          dsimp only [ugo, uwp, ust, uct, rfd, Bcant, Bcant_20, Nat.beq, lv_args, rlk, rs1, rs2, rdl, rky, rcd, rno, rsw, Value.category, List.filter, List.take, List.drop, List.reverse, List.reverseAux, List.cons_append, List.nil_append, Option.toList, Int.toNat, Int.reduceToNat, if_pos, if_neg, reduceIte, ↓reduceIte, Nat.reduceAdd, Nat.reduceEqDiff, Nat.reduceBEq, beq_self_eq_true, Bool.not_true, Bool.not_false, Bool.and_true, Bool.and_false, Bool.true_and, Bool.false_and, gI_sI, gI_sL, gI_sA, gI_sM, gL_sI, gL_sL, gL_sA, gL_sM, aI_sI, aI_sL, aI_sA, aI_sM, aL_sI, aL_sL, aL_sA, aL_sM]; try dsimp only
          refine ⟨trivial, fun w2 τ2 hq2 => ?_⟩
          obtain ⟨rfl, hz2⟩ := hq2 c hz
          dsimp only [Option.toList, List.cons_append, List.nil_append, Nat.beq, gI_sI, gI_sL, gI_sA, gI_sM, gL_sI, gL_sL, gL_sA, gL_sM, aI_sI, aI_sL, aI_sA, aI_sM, aL_sI, aL_sL, aL_sA, aL_sM]
          unfold Qv_cantJ4
          try dsimp only
          exact ⟨rfl, hz2⟩
    intro n0
    exact (all n0).1  σ hP
  next => exact hP.elim
theorem w_cantJ4 : UMet 13 (fun _ _ => True) Qw_cantJ4 := fun A1 σ _ w τ h c hP => v_cantJ4 c A1 σ hP w τ h
def Pv_emitJ4 (c : RS) : UP1 := fun A1 σ => match A1 with
  | [.int a1, .int a2, .int a3] => J4 c σ
  | _ => False
def Qv_emitJ4 (c : RS) : UQ1 := fun A1 σ w τ => match A1 with
  | [.int a1, .int a2, .int a3] => (∃ r : Int32, w = some (.int r)) ∧ J4 c τ
  | _ => False
def Qw_emitJ4 : UQ1 := fun A1 σ w τ => ∀ (c : RS), Pv_emitJ4 c A1 σ → Qv_emitJ4 c A1 σ w τ
set_option maxRecDepth 100000 in
set_option maxHeartbeats 4000000 in
theorem v_emitJ4 (c : RS) : UMet 20 (Pv_emitJ4 c) (Qv_emitJ4 c) := by
  refine UMet.by Bemit [] rfl uc0 ?_
  intro A1 σ hP K hB hW
  unfold Pv_emitJ4 at hP
  split at hP
  next a1 a2 a3 =>
    intro n0
    refine hB _ _ _ _ _ (fun m1 hm1 => ?_)
    dsimp only [ugo, uwp, ust, uct, rfd, Bemit, Bemit_0, Nat.beq, lv_args, rlk, rs1, rs2, rdl, rky, rcd, rno, rsw, Value.category, List.filter, List.take, List.drop, List.reverse, List.reverseAux, List.cons_append, List.nil_append, Option.toList, Int.toNat, Int.reduceToNat, if_pos, if_neg, reduceIte, ↓reduceIte, Nat.reduceAdd, Nat.reduceEqDiff, Nat.reduceBEq, beq_self_eq_true, Bool.not_true, Bool.not_false, Bool.and_true, Bool.and_false, Bool.true_and, Bool.false_and, gI_sI, gI_sL, gI_sA, gI_sM, gL_sI, gL_sL, gL_sA, gL_sM, aI_sI, aI_sL, aI_sA, aI_sM, aL_sI, aL_sL, aL_sA, aL_sM, oi_0, oi_1]; try dsimp only
    intro p2
    intro p3
    intro p4
    intro p5
    intro p6
    intro p7
    unfold Qv_emitJ4
    try dsimp only
    obtain ⟨b1, b2⟩ : 0 ≤ gI σ 18 ∧ gI σ 18 < 4000 := vin (by assumption) (by decide) (by decide)
    exact ⟨⟨_, rfl⟩, (((((((hP.e b1 b2).a (by decide)).a (by decide)).a (by decide)).a (by decide)).a (by decide)).a (by decide))⟩
  next => exact hP.elim
theorem w_emitJ4 : UMet 20 (fun _ _ => True) Qw_emitJ4 := fun A1 σ _ w τ h c hP => v_emitJ4 c A1 σ hP w τ h
def Pv_emitExpJ4 (c : RS) : UP1 := fun A1 σ => match A1 with
  | [.int a1, .int a2, .int a3, .int a4, .int a5] => J4 c σ
  | _ => False
def Qv_emitExpJ4 (c : RS) : UQ1 := fun A1 σ w τ => match A1 with
  | [.int a1, .int a2, .int a3, .int a4, .int a5] => (∃ r : Int32, w = some (.int r)) ∧ J4 c τ
  | _ => False
def Qw_emitExpJ4 : UQ1 := fun A1 σ w τ => ∀ (c : RS), Pv_emitExpJ4 c A1 σ → Qv_emitExpJ4 c A1 σ w τ
set_option maxRecDepth 100000 in
set_option maxHeartbeats 4000000 in
theorem v_emitExpJ4 (c : RS) : UMet 21 (Pv_emitExpJ4 c) (Qv_emitExpJ4 c) := by
  refine UMet.by BemitExp [(20, (fun _ _ => True), Qw_emitJ4)] rfl (ucc w_emitJ4 uc0) ?_
  intro A1 σ hP K hB hW
  unfold Pv_emitExpJ4 at hP
  split at hP
  next a1 a2 a3 a4 a5 =>
    have all : ∀ N : Nat, (∀ (x1 : Int32) (x2 : Int32) (x3 : Int32) (x4 : Int32) (x5 : Int32) (Y : RS), J4 c Y → K N 0 [(0, .ref 1000), (1, .int x1), (2, .int x2), (3, .int x3), (4, .int x4), (5, .int x5)] [] Y) := by
      intro N
      induction N using Nat.strongRecOn with
      | ind N ih =>
        skip
        · intro x1 x2 x3 x4 x5 Y hz
          refine hB _ _ _ _ _ (fun m1 hm1 => ?_)
          dsimp only [ugo, uwp, ust, uct, rfd, BemitExp, BemitExp_0, Nat.beq, lv_args, rlk, rs1, rs2, rdl, rky, rcd, rno, rsw, Value.category, List.filter, List.take, List.drop, List.reverse, List.reverseAux, List.cons_append, List.nil_append, Option.toList, Int.toNat, Int.reduceToNat, if_pos, if_neg, reduceIte, ↓reduceIte, Nat.reduceAdd, Nat.reduceEqDiff, Nat.reduceBEq, beq_self_eq_true, Bool.not_true, Bool.not_false, Bool.and_true, Bool.and_false, Bool.true_and, Bool.false_and, gI_sI, gI_sL, gI_sA, gI_sM, gL_sI, gL_sL, gL_sA, gL_sM, aI_sI, aI_sL, aI_sA, aI_sM, aL_sI, aL_sL, aL_sA, aL_sM]; try dsimp only
          refine ⟨trivial, fun w2 τ2 hq2 => ?_⟩
          obtain ⟨⟨r2, rfl⟩, hz2⟩ := hq2 c hz
          dsimp only [Option.toList, List.cons_append, List.nil_append, Nat.beq, gI_sI, gI_sL, gI_sA, gI_sM, gL_sI, gL_sL, gL_sA, gL_sM, aI_sI, aI_sL, aI_sA, aI_sM, aL_sI, aL_sL, aL_sA, aL_sM]
          intro p3
          intro p4
          unfold Qv_emitExpJ4
          try dsimp only
          exact ⟨⟨_, rfl⟩, ((hz2.a (by decide)).a (by decide))⟩
    intro n0
    exact all n0 a1 a2 a3 a4 a5 σ hP
  next => exact hP.elim
theorem w_emitExpJ4 : UMet 21 (fun _ _ => True) Qw_emitExpJ4 := fun A1 σ _ w τ h c hP => v_emitExpJ4 c A1 σ hP w τ h
def Pv_takeJ4 (c : RS) : UP1 := fun A1 σ => match A1 with
  | [] => J4 c σ
  | _ => False
def Qv_takeJ4 (c : RS) : UQ1 := fun A1 σ w τ => match A1 with
  | [] => (∃ r : Int32, w = some (.int r)) ∧ J4 c τ
  | _ => False
def Qw_takeJ4 : UQ1 := fun A1 σ w τ => ∀ (c : RS), Pv_takeJ4 c A1 σ → Qv_takeJ4 c A1 σ w τ
set_option maxRecDepth 100000 in
set_option maxHeartbeats 4000000 in
theorem v_takeJ4 (c : RS) : UMet 17 (Pv_takeJ4 c) (Qv_takeJ4 c) := by
  refine UMet.by Btake [(12, (fun _ _ => True), Qw_wrongJ4)] rfl (ucc w_wrongJ4 uc0) ?_
  intro A1 σ hP K hB hW
  unfold Pv_takeJ4 at hP
  split at hP
  next =>
    have all : ∀ N : Nat, (∀ (Y : RS), J4 c Y → K N 0 [(0, .ref 1000)] [] Y) ∧ (∀ (Y : RS), J4 c Y → K N 10 [(0, .ref 1000)] [] Y) ∧ (∀ (Y : RS), J4 c Y → K N 20 [(0, .ref 1000)] [] Y) := by
      intro N
      induction N using Nat.strongRecOn with
      | ind N ih =>
        refine ⟨?_, ?_, ?_⟩
        · intro Y hz
          refine hB _ _ _ _ _ (fun m1 hm1 => ?_)
          dsimp only [ugo, uwp, ust, uct, rfd, Btake, Btake_0, Nat.beq, lv_args, rlk, rs1, rs2, rdl, rky, rcd, rno, rsw, Value.category, List.filter, List.take, List.drop, List.reverse, List.reverseAux, List.cons_append, List.nil_append, Option.toList, Int.toNat, Int.reduceToNat, if_pos, if_neg, reduceIte, ↓reduceIte, Nat.reduceAdd, Nat.reduceEqDiff, Nat.reduceBEq, beq_self_eq_true, Bool.not_true, Bool.not_false, Bool.and_true, Bool.and_false, Bool.true_and, Bool.false_and, gI_sI, gI_sL, gI_sA, gI_sM, gL_sI, gL_sL, gL_sA, gL_sM, aI_sI, aI_sL, aI_sA, aI_sM, aL_sI, aL_sL, aL_sA, aL_sM, oi_500]; try dsimp only
          refine ⟨fun h2 => ?_, fun h2 => ?_⟩
          · exact hW _ 20 [(0, .ref 1000)] _ _ _ (by simp [rdl, rky, Value.category]) ((ih m1 hm1).2.2  _ hz)
          · exact hW _ 10 [(0, .ref 1000)] _ _ _ (by simp [rdl, rky, Value.category]) ((ih m1 hm1).2.1  _ hz)
        · intro Y hz
          refine hB _ _ _ _ _ (fun m1 hm1 => ?_)
          dsimp only [ugo, uwp, ust, uct, rfd, Btake, Btake_10, Nat.beq, lv_args, rlk, rs1, rs2, rdl, rky, rcd, rno, rsw, Value.category, List.filter, List.take, List.drop, List.reverse, List.reverseAux, List.cons_append, List.nil_append, Option.toList, Int.toNat, Int.reduceToNat, if_pos, if_neg, reduceIte, ↓reduceIte, Nat.reduceAdd, Nat.reduceEqDiff, Nat.reduceBEq, beq_self_eq_true, Bool.not_true, Bool.not_false, Bool.and_true, Bool.and_false, Bool.true_and, Bool.false_and, gI_sI, gI_sL, gI_sA, gI_sM, gL_sI, gL_sL, gL_sA, gL_sM, aI_sI, aI_sL, aI_sA, aI_sM, aL_sI, aL_sL, aL_sA, aL_sM, oi_3]; try dsimp only
          refine ⟨trivial, fun w2 τ2 hq2 => ?_⟩
          obtain ⟨rfl, hz2⟩ := hq2 c hz
          dsimp only [Option.toList, List.cons_append, List.nil_append, Nat.beq, gI_sI, gI_sL, gI_sA, gI_sM, gL_sI, gL_sL, gL_sA, gL_sM, aI_sI, aI_sL, aI_sA, aI_sM, aL_sI, aL_sL, aL_sA, aL_sM]
          unfold Qv_takeJ4
          try dsimp only
          exact ⟨⟨_, rfl⟩, hz2⟩
        · intro Y hz
          refine hB _ _ _ _ _ (fun m1 hm1 => ?_)
          dsimp only [ugo, uwp, ust, uct, rfd, Btake, Btake_20, Nat.beq, lv_args, rlk, rs1, rs2, rdl, rky, rcd, rno, rsw, Value.category, List.filter, List.take, List.drop, List.reverse, List.reverseAux, List.cons_append, List.nil_append, Option.toList, Int.toNat, Int.reduceToNat, if_pos, if_neg, reduceIte, ↓reduceIte, Nat.reduceAdd, Nat.reduceEqDiff, Nat.reduceBEq, beq_self_eq_true, Bool.not_true, Bool.not_false, Bool.and_true, Bool.and_false, Bool.true_and, Bool.false_and, gI_sI, gI_sL, gI_sA, gI_sM, gL_sI, gL_sL, gL_sA, gL_sM, aI_sI, aI_sL, aI_sA, aI_sM, aL_sI, aL_sL, aL_sA, aL_sM, oi_1]; try dsimp only
          unfold Qv_takeJ4
          try dsimp only
          exact ⟨⟨_, rfl⟩, (hz.i (by decide))⟩
    intro n0
    exact (all n0).1  σ hP
  next => exact hP.elim
theorem w_takeJ4 : UMet 17 (fun _ _ => True) Qw_takeJ4 := fun A1 σ _ w τ h c hP => v_takeJ4 c A1 σ hP w τ h
def Pv_wholeJ4 (c : RS) : UP1 := fun A1 σ => match A1 with
  | [.int a1] => J4 c σ
  | _ => False
def Qv_wholeJ4 (c : RS) : UQ1 := fun A1 σ w τ => match A1 with
  | [.int a1] => (w = none) ∧ J4 c τ
  | _ => False
def Qw_wholeJ4 : UQ1 := fun A1 σ w τ => ∀ (c : RS), Pv_wholeJ4 c A1 σ → Qv_wholeJ4 c A1 σ w τ
set_option maxRecDepth 100000 in
set_option maxHeartbeats 4000000 in
theorem v_wholeJ4 (c : RS) : UMet 26 (Pv_wholeJ4 c) (Qv_wholeJ4 c) := by
  refine UMet.by Bwhole [] rfl uc0 ?_
  intro A1 σ hP K hB hW
  unfold Pv_wholeJ4 at hP
  split at hP
  next a1 =>
    have all : ∀ N : Nat, (∀ (x1 : Int32) (Y : RS), J4 c Y → K N 0 [(0, .ref 1000), (1, .int x1)] [] Y) := by
      intro N
      induction N using Nat.strongRecOn with
      | ind N ih =>
        skip
        · intro x1 Y hz
          refine hB _ _ _ _ _ (fun m1 hm1 => ?_)
          dsimp only [ugo, uwp, ust, uct, rfd, Bwhole, Bwhole_0, Nat.beq, lv_args, rlk, rs1, rs2, rdl, rky, rcd, rno, rsw, Value.category, List.filter, List.take, List.drop, List.reverse, List.reverseAux, List.cons_append, List.nil_append, Option.toList, Int.toNat, Int.reduceToNat, if_pos, if_neg, reduceIte, ↓reduceIte, Nat.reduceAdd, Nat.reduceEqDiff, Nat.reduceBEq, beq_self_eq_true, Bool.not_true, Bool.not_false, Bool.and_true, Bool.and_false, Bool.true_and, Bool.false_and, gI_sI, gI_sL, gI_sA, gI_sM, gL_sI, gL_sL, gL_sA, gL_sM, aI_sI, aI_sL, aI_sA, aI_sM, aL_sI, aL_sL, aL_sA, aL_sM, oi_1]; try dsimp only
          intro p2
          unfold Qv_wholeJ4
          try dsimp only
          exact ⟨rfl, ((hz.a (by decide)).i (by decide))⟩
    intro n0
    exact all n0 a1 σ hP
  next => exact hP.elim
theorem w_wholeJ4 : UMet 26 (fun _ _ => True) Qw_wholeJ4 := fun A1 σ _ w τ h c hP => v_wholeJ4 c A1 σ hP w τ h
def Pv_closeCallJ4 (c : RS) : UP1 := fun A1 σ => match A1 with
  | [] => J4 c σ
  | _ => False
def Qv_closeCallJ4 (c : RS) : UQ1 := fun A1 σ w τ => match A1 with
  | [] => (∃ r : Int32, w = some (.int r)) ∧ J4 c τ
  | _ => False
def Qw_closeCallJ4 : UQ1 := fun A1 σ w τ => ∀ (c : RS), Pv_closeCallJ4 c A1 σ → Qv_closeCallJ4 c A1 σ w τ
set_option maxRecDepth 100000 in
set_option maxHeartbeats 4000000 in
theorem v_closeCallJ4 (c : RS) : UMet 31 (Pv_closeCallJ4 c) (Qv_closeCallJ4 c) := by
  refine UMet.by BcloseCall [(21, (fun _ _ => True), Qw_emitExpJ4), (17, (fun _ _ => True), Qw_takeJ4), (26, (fun _ _ => True), Qw_wholeJ4)] rfl (ucc w_emitExpJ4 (ucc w_takeJ4 (ucc w_wholeJ4 uc0))) ?_
  intro A1 σ hP K hB hW
  unfold Pv_closeCallJ4 at hP
  split at hP
  next =>
    have all : ∀ N : Nat, (∀ (Y : RS), J4 c Y → K N 0 [(0, .ref 1000)] [] Y) ∧ (∀ (x1 : Int32) (x2 : Int32) (Y : RS), J4 c Y → K N 32 [(0, .ref 1000), (1, .int x1), (2, .int x2)] [] Y) ∧ (∀ (x1 : Int32) (x2 : Int32) (Y : RS), J4 c Y → K N 34 [(0, .ref 1000), (1, .int x1), (2, .int x2)] [] Y) := by
      intro N
      induction N using Nat.strongRecOn with
      | ind N ih =>
        refine ⟨?_, ?_, ?_⟩
        · intro Y hz
          refine hB _ _ _ _ _ (fun m1 hm1 => ?_)
          dsimp only [ugo, uwp, ust, uct, rfd, BcloseCall, BcloseCall_0, Nat.beq, lv_args, rlk, rs1, rs2, rdl, rky, rcd, rno, rsw, Value.category, List.filter, List.take, List.drop, List.reverse, List.reverseAux, List.cons_append, List.nil_append, Option.toList, Int.toNat, Int.reduceToNat, if_pos, if_neg, reduceIte, ↓reduceIte, Nat.reduceAdd, Nat.reduceEqDiff, Nat.reduceBEq, beq_self_eq_true, Bool.not_true, Bool.not_false, Bool.and_true, Bool.and_false, Bool.true_and, Bool.false_and, gI_sI, gI_sL, gI_sA, gI_sM, gL_sI, gL_sL, gL_sA, gL_sM, aI_sI, aI_sL, aI_sA, aI_sM, aL_sI, aL_sL, aL_sA, aL_sM, oi_1]; try dsimp only
          intro p2
          refine ⟨trivial, fun w3 τ3 hq3 => ?_⟩
          obtain ⟨⟨r3, rfl⟩, hz3⟩ := hq3 c (hz.i (by decide))
          dsimp only [Option.toList, List.cons_append, List.nil_append, Nat.beq, gI_sI, gI_sL, gI_sA, gI_sM, gL_sI, gL_sL, gL_sA, gL_sM, aI_sI, aI_sL, aI_sA, aI_sM, aL_sI, aL_sL, aL_sA, aL_sM]
          refine ⟨fun h4 => ?_, fun h4 => ?_⟩
          · exact hW _ 34 [(0, .ref 1000), (1, .int ((aI Y 27) (((gI Y 29) - 1)).toNatClampNeg)), (2, .int (gI Y 14))] _ _ _ (by simp [rdl, rky, Value.category]) ((ih m1 hm1).2.2 ((aI Y 27) (((gI Y 29) - 1)).toNatClampNeg) (gI Y 14) _ hz3)
          · exact hW _ 32 [(0, .ref 1000), (1, .int ((aI Y 27) (((gI Y 29) - 1)).toNatClampNeg)), (2, .int (gI Y 14))] _ _ _ (by simp [rdl, rky, Value.category]) ((ih m1 hm1).2.1 ((aI Y 27) (((gI Y 29) - 1)).toNatClampNeg) (gI Y 14) _ hz3)
        · intro x1 x2 Y hz
          refine hB _ _ _ _ _ (fun m1 hm1 => ?_)
          dsimp only [ugo, uwp, ust, uct, rfd, BcloseCall, BcloseCall_32, Nat.beq, lv_args, rlk, rs1, rs2, rdl, rky, rcd, rno, rsw, Value.category, List.filter, List.take, List.drop, List.reverse, List.reverseAux, List.cons_append, List.nil_append, Option.toList, Int.toNat, Int.reduceToNat, if_pos, if_neg, reduceIte, ↓reduceIte, Nat.reduceAdd, Nat.reduceEqDiff, Nat.reduceBEq, beq_self_eq_true, Bool.not_true, Bool.not_false, Bool.and_true, Bool.and_false, Bool.true_and, Bool.false_and, gI_sI, gI_sL, gI_sA, gI_sM, gL_sI, gL_sL, gL_sA, gL_sM, aI_sI, aI_sL, aI_sA, aI_sM, aL_sI, aL_sL, aL_sA, aL_sM, oi_0]; try dsimp only
          unfold Qv_closeCallJ4
          try dsimp only
          exact ⟨⟨_, rfl⟩, hz⟩
        · intro x1 x2 Y hz
          refine hB _ _ _ _ _ (fun m1 hm1 => ?_)
          dsimp only [ugo, uwp, ust, uct, rfd, BcloseCall, BcloseCall_34, Nat.beq, lv_args, rlk, rs1, rs2, rdl, rky, rcd, rno, rsw, Value.category, List.filter, List.take, List.drop, List.reverse, List.reverseAux, List.cons_append, List.nil_append, Option.toList, Int.toNat, Int.reduceToNat, if_pos, if_neg, reduceIte, ↓reduceIte, Nat.reduceAdd, Nat.reduceEqDiff, Nat.reduceBEq, beq_self_eq_true, Bool.not_true, Bool.not_false, Bool.and_true, Bool.and_false, Bool.true_and, Bool.false_and, gI_sI, gI_sL, gI_sA, gI_sM, gL_sI, gL_sL, gL_sA, gL_sM, aI_sI, aI_sL, aI_sA, aI_sM, aL_sI, aL_sL, aL_sA, aL_sM, oi_0, oi_1, oi_18]; try dsimp only
          intro p2
          intro p3
          refine ⟨trivial, fun w4 τ4 hq4 => ?_⟩
          obtain ⟨⟨r4, rfl⟩, hz4⟩ := hq4 c ((hz.i (by decide)).i (by decide))
          dsimp only [Option.toList, List.cons_append, List.nil_append, Nat.beq, gI_sI, gI_sL, gI_sA, gI_sM, gL_sI, gL_sL, gL_sA, gL_sM, aI_sI, aI_sL, aI_sA, aI_sM, aL_sI, aL_sL, aL_sA, aL_sM]
          refine ⟨trivial, fun w5 τ5 hq5 => ?_⟩
          obtain ⟨rfl, hz5⟩ := hq5 c ((hz4.i (by decide)).i (by decide))
          dsimp only [Option.toList, List.cons_append, List.nil_append, Nat.beq, gI_sI, gI_sL, gI_sA, gI_sM, gL_sI, gL_sL, gL_sA, gL_sM, aI_sI, aI_sL, aI_sA, aI_sM, aL_sI, aL_sL, aL_sA, aL_sM]
          unfold Qv_closeCallJ4
          try dsimp only
          exact ⟨⟨_, rfl⟩, (hz5.i (by decide))⟩
    intro n0
    exact (all n0).1  σ hP
  next => exact hP.elim
theorem w_closeCallJ4 : UMet 31 (fun _ _ => True) Qw_closeCallJ4 := fun A1 σ _ w τ h c hP => v_closeCallJ4 c A1 σ hP w τ h
def Pv_strengthJ4 (c : RS) : UP1 := fun A1 σ => match A1 with
  | [.int a1] => J4 c σ
  | _ => False
def Qv_strengthJ4 (c : RS) : UQ1 := fun A1 σ w τ => match A1 with
  | [.int a1] => (∃ r : Int32, w = some (.int r)) ∧ J4 c τ
  | _ => False
def Qw_strengthJ4 : UQ1 := fun A1 σ w τ => ∀ (c : RS), Pv_strengthJ4 c A1 σ → Qv_strengthJ4 c A1 σ w τ
set_option maxRecDepth 100000 in
set_option maxHeartbeats 4000000 in
theorem v_strengthJ4 (c : RS) : UMet 22 (Pv_strengthJ4 c) (Qv_strengthJ4 c) := by
  refine UMet.by Bstrength [] rfl uc0 ?_
  intro A1 σ hP K hB hW
  unfold Pv_strengthJ4 at hP
  split at hP
  next a1 =>
    have all : ∀ N : Nat, (∀ (x1 : Int32) (Y : RS), J4 c Y → K N 0 [(0, .ref 1000), (1, .int x1)] [] Y) ∧ (∀ (x1 : Int32) (Y : RS), J4 c Y → K N 164 [(0, .ref 1000), (1, .int x1)] [] Y) ∧ (∀ (x1 : Int32) (Y : RS), J4 c Y → K N 166 [(0, .ref 1000), (1, .int x1)] [] Y) ∧ (∀ (x1 : Int32) (Y : RS), J4 c Y → K N 168 [(0, .ref 1000), (1, .int x1)] [] Y) ∧ (∀ (x1 : Int32) (Y : RS), J4 c Y → K N 170 [(0, .ref 1000), (1, .int x1)] [] Y) ∧ (∀ (x1 : Int32) (Y : RS), J4 c Y → K N 172 [(0, .ref 1000), (1, .int x1)] [] Y) ∧ (∀ (x1 : Int32) (Y : RS), J4 c Y → K N 174 [(0, .ref 1000), (1, .int x1)] [] Y) ∧ (∀ (x1 : Int32) (Y : RS), J4 c Y → K N 177 [(0, .ref 1000), (1, .int x1)] [] Y) ∧ (∀ (x1 : Int32) (Y : RS), J4 c Y → K N 180 [(0, .ref 1000), (1, .int x1)] [] Y) ∧ (∀ (x1 : Int32) (Y : RS), J4 c Y → K N 183 [(0, .ref 1000), (1, .int x1)] [] Y) ∧ (∀ (x1 : Int32) (Y : RS), J4 c Y → K N 186 [(0, .ref 1000), (1, .int x1)] [] Y) ∧ (∀ (x1 : Int32) (Y : RS), J4 c Y → K N 189 [(0, .ref 1000), (1, .int x1)] [] Y) := by
      intro N
      induction N using Nat.strongRecOn with
      | ind N ih =>
        refine ⟨?_, ?_, ?_, ?_, ?_, ?_, ?_, ?_, ?_, ?_, ?_, ?_⟩
        · intro x1 Y hz
          refine hB _ _ _ _ _ (fun m1 hm1 => ?_)
          dsimp only [ugo, uwp, ust, uct, rfd, Bstrength, Bstrength_0, Nat.beq, lv_args, rlk, rs1, rs2, rdl, rky, rcd, rno, rsw, Value.category, List.filter, List.take, List.drop, List.reverse, List.reverseAux, List.cons_append, List.nil_append, Option.toList, Int.toNat, Int.reduceToNat, if_pos, if_neg, reduceIte, ↓reduceIte, Nat.reduceAdd, Nat.reduceEqDiff, Nat.reduceBEq, beq_self_eq_true, Bool.not_true, Bool.not_false, Bool.and_true, Bool.and_false, Bool.true_and, Bool.false_and, gI_sI, gI_sL, gI_sA, gI_sM, gL_sI, gL_sL, gL_sA, gL_sM, aI_sI, aI_sL, aI_sA, aI_sM, aL_sI, aL_sL, aL_sA, aL_sM]; try dsimp only
          refine ⟨fun h2 => ?_, fun h2 => ?_⟩
          · exact hW _ 186 [(0, .ref 1000), (1, .int x1)] _ _ _ (by simp [rdl, rky, Value.category]) ((ih m1 hm1).2.2.2.2.2.2.2.2.2.2.1 x1 _ hz)
          refine ⟨fun h3 => ?_, fun h3 => ?_⟩
          · exact hW _ 172 [(0, .ref 1000), (1, .int x1)] _ _ _ (by simp [rdl, rky, Value.category]) ((ih m1 hm1).2.2.2.2.2.1 x1 _ hz)
          refine ⟨fun h4 => ?_, fun h4 => ?_⟩
          · exact hW _ 186 [(0, .ref 1000), (1, .int x1)] _ _ _ (by simp [rdl, rky, Value.category]) ((ih m1 hm1).2.2.2.2.2.2.2.2.2.2.1 x1 _ hz)
          refine ⟨fun h5 => ?_, fun h5 => ?_⟩
          · exact hW _ 183 [(0, .ref 1000), (1, .int x1)] _ _ _ (by simp [rdl, rky, Value.category]) ((ih m1 hm1).2.2.2.2.2.2.2.2.2.1 x1 _ hz)
          refine ⟨fun h6 => ?_, fun h6 => ?_⟩
          · exact hW _ 183 [(0, .ref 1000), (1, .int x1)] _ _ _ (by simp [rdl, rky, Value.category]) ((ih m1 hm1).2.2.2.2.2.2.2.2.2.1 x1 _ hz)
          refine ⟨fun h7 => ?_, fun h7 => ?_⟩
          · exact hW _ 186 [(0, .ref 1000), (1, .int x1)] _ _ _ (by simp [rdl, rky, Value.category]) ((ih m1 hm1).2.2.2.2.2.2.2.2.2.2.1 x1 _ hz)
          refine ⟨fun h8 => ?_, fun h8 => ?_⟩
          · exact hW _ 177 [(0, .ref 1000), (1, .int x1)] _ _ _ (by simp [rdl, rky, Value.category]) ((ih m1 hm1).2.2.2.2.2.2.2.1 x1 _ hz)
          refine ⟨fun h9 => ?_, fun h9 => ?_⟩
          · exact hW _ 177 [(0, .ref 1000), (1, .int x1)] _ _ _ (by simp [rdl, rky, Value.category]) ((ih m1 hm1).2.2.2.2.2.2.2.1 x1 _ hz)
          refine ⟨fun h10 => ?_, fun h10 => ?_⟩
          · exact hW _ 170 [(0, .ref 1000), (1, .int x1)] _ _ _ (by simp [rdl, rky, Value.category]) ((ih m1 hm1).2.2.2.2.1 x1 _ hz)
          refine ⟨fun h11 => ?_, fun h11 => ?_⟩
          · exact hW _ 168 [(0, .ref 1000), (1, .int x1)] _ _ _ (by simp [rdl, rky, Value.category]) ((ih m1 hm1).2.2.2.1 x1 _ hz)
          refine ⟨fun h12 => ?_, fun h12 => ?_⟩
          · exact hW _ 174 [(0, .ref 1000), (1, .int x1)] _ _ _ (by simp [rdl, rky, Value.category]) ((ih m1 hm1).2.2.2.2.2.2.1 x1 _ hz)
          refine ⟨fun h13 => ?_, fun h13 => ?_⟩
          · exact hW _ 174 [(0, .ref 1000), (1, .int x1)] _ _ _ (by simp [rdl, rky, Value.category]) ((ih m1 hm1).2.2.2.2.2.2.1 x1 _ hz)
          refine ⟨fun h14 => ?_, fun h14 => ?_⟩
          · exact hW _ 177 [(0, .ref 1000), (1, .int x1)] _ _ _ (by simp [rdl, rky, Value.category]) ((ih m1 hm1).2.2.2.2.2.2.2.1 x1 _ hz)
          refine ⟨fun h15 => ?_, fun h15 => ?_⟩
          · exact hW _ 177 [(0, .ref 1000), (1, .int x1)] _ _ _ (by simp [rdl, rky, Value.category]) ((ih m1 hm1).2.2.2.2.2.2.2.1 x1 _ hz)
          refine ⟨fun h16 => ?_, fun h16 => ?_⟩
          · exact hW _ 180 [(0, .ref 1000), (1, .int x1)] _ _ _ (by simp [rdl, rky, Value.category]) ((ih m1 hm1).2.2.2.2.2.2.2.2.1 x1 _ hz)
          refine ⟨fun h17 => ?_, fun h17 => ?_⟩
          · exact hW _ 180 [(0, .ref 1000), (1, .int x1)] _ _ _ (by simp [rdl, rky, Value.category]) ((ih m1 hm1).2.2.2.2.2.2.2.2.1 x1 _ hz)
          refine ⟨fun h18 => ?_, fun h18 => ?_⟩
          · exact hW _ 180 [(0, .ref 1000), (1, .int x1)] _ _ _ (by simp [rdl, rky, Value.category]) ((ih m1 hm1).2.2.2.2.2.2.2.2.1 x1 _ hz)
          refine ⟨fun h19 => ?_, fun h19 => ?_⟩
          · exact hW _ 166 [(0, .ref 1000), (1, .int x1)] _ _ _ (by simp [rdl, rky, Value.category]) ((ih m1 hm1).2.2.1 x1 _ hz)
          refine ⟨fun h20 => ?_, fun h20 => ?_⟩
          · exact hW _ 164 [(0, .ref 1000), (1, .int x1)] _ _ _ (by simp [rdl, rky, Value.category]) ((ih m1 hm1).2.1 x1 _ hz)
          exact hW _ 189 [(0, .ref 1000), (1, .int x1)] _ _ _ (by simp [rdl, rky, Value.category]) ((ih m1 hm1).2.2.2.2.2.2.2.2.2.2.2 x1 _ hz)
        · intro x1 Y hz
          refine hB _ _ _ _ _ (fun m1 hm1 => ?_)
          dsimp only [ugo, uwp, ust, uct, rfd, Bstrength, Bstrength_164, Nat.beq, lv_args, rlk, rs1, rs2, rdl, rky, rcd, rno, rsw, Value.category, List.filter, List.take, List.drop, List.reverse, List.reverseAux, List.cons_append, List.nil_append, Option.toList, Int.toNat, Int.reduceToNat, if_pos, if_neg, reduceIte, ↓reduceIte, Nat.reduceAdd, Nat.reduceEqDiff, Nat.reduceBEq, beq_self_eq_true, Bool.not_true, Bool.not_false, Bool.and_true, Bool.and_false, Bool.true_and, Bool.false_and, gI_sI, gI_sL, gI_sA, gI_sM, gL_sI, gL_sL, gL_sA, gL_sM, aI_sI, aI_sL, aI_sA, aI_sM, aL_sI, aL_sL, aL_sA, aL_sM, oi_1]; try dsimp only
          unfold Qv_strengthJ4
          try dsimp only
          exact ⟨⟨_, rfl⟩, hz⟩
        · intro x1 Y hz
          refine hB _ _ _ _ _ (fun m1 hm1 => ?_)
          dsimp only [ugo, uwp, ust, uct, rfd, Bstrength, Bstrength_166, Nat.beq, lv_args, rlk, rs1, rs2, rdl, rky, rcd, rno, rsw, Value.category, List.filter, List.take, List.drop, List.reverse, List.reverseAux, List.cons_append, List.nil_append, Option.toList, Int.toNat, Int.reduceToNat, if_pos, if_neg, reduceIte, ↓reduceIte, Nat.reduceAdd, Nat.reduceEqDiff, Nat.reduceBEq, beq_self_eq_true, Bool.not_true, Bool.not_false, Bool.and_true, Bool.and_false, Bool.true_and, Bool.false_and, gI_sI, gI_sL, gI_sA, gI_sM, gL_sI, gL_sL, gL_sA, gL_sM, aI_sI, aI_sL, aI_sA, aI_sM, aL_sI, aL_sL, aL_sA, aL_sM, oi_2]; try dsimp only
          unfold Qv_strengthJ4
          try dsimp only
          exact ⟨⟨_, rfl⟩, hz⟩
        · intro x1 Y hz
          refine hB _ _ _ _ _ (fun m1 hm1 => ?_)
          dsimp only [ugo, uwp, ust, uct, rfd, Bstrength, Bstrength_168, Nat.beq, lv_args, rlk, rs1, rs2, rdl, rky, rcd, rno, rsw, Value.category, List.filter, List.take, List.drop, List.reverse, List.reverseAux, List.cons_append, List.nil_append, Option.toList, Int.toNat, Int.reduceToNat, if_pos, if_neg, reduceIte, ↓reduceIte, Nat.reduceAdd, Nat.reduceEqDiff, Nat.reduceBEq, beq_self_eq_true, Bool.not_true, Bool.not_false, Bool.and_true, Bool.and_false, Bool.true_and, Bool.false_and, gI_sI, gI_sL, gI_sA, gI_sM, gL_sI, gL_sL, gL_sA, gL_sM, aI_sI, aI_sL, aI_sA, aI_sM, aL_sI, aL_sL, aL_sA, aL_sM, oi_3]; try dsimp only
          unfold Qv_strengthJ4
          try dsimp only
          exact ⟨⟨_, rfl⟩, hz⟩
        · intro x1 Y hz
          refine hB _ _ _ _ _ (fun m1 hm1 => ?_)
          dsimp only [ugo, uwp, ust, uct, rfd, Bstrength, Bstrength_170, Nat.beq, lv_args, rlk, rs1, rs2, rdl, rky, rcd, rno, rsw, Value.category, List.filter, List.take, List.drop, List.reverse, List.reverseAux, List.cons_append, List.nil_append, Option.toList, Int.toNat, Int.reduceToNat, if_pos, if_neg, reduceIte, ↓reduceIte, Nat.reduceAdd, Nat.reduceEqDiff, Nat.reduceBEq, beq_self_eq_true, Bool.not_true, Bool.not_false, Bool.and_true, Bool.and_false, Bool.true_and, Bool.false_and, gI_sI, gI_sL, gI_sA, gI_sM, gL_sI, gL_sL, gL_sA, gL_sM, aI_sI, aI_sL, aI_sA, aI_sM, aL_sI, aL_sL, aL_sA, aL_sM, oi_4]; try dsimp only
          unfold Qv_strengthJ4
          try dsimp only
          exact ⟨⟨_, rfl⟩, hz⟩
        · intro x1 Y hz
          refine hB _ _ _ _ _ (fun m1 hm1 => ?_)
          dsimp only [ugo, uwp, ust, uct, rfd, Bstrength, Bstrength_172, Nat.beq, lv_args, rlk, rs1, rs2, rdl, rky, rcd, rno, rsw, Value.category, List.filter, List.take, List.drop, List.reverse, List.reverseAux, List.cons_append, List.nil_append, Option.toList, Int.toNat, Int.reduceToNat, if_pos, if_neg, reduceIte, ↓reduceIte, Nat.reduceAdd, Nat.reduceEqDiff, Nat.reduceBEq, beq_self_eq_true, Bool.not_true, Bool.not_false, Bool.and_true, Bool.and_false, Bool.true_and, Bool.false_and, gI_sI, gI_sL, gI_sA, gI_sM, gL_sI, gL_sL, gL_sA, gL_sM, aI_sI, aI_sL, aI_sA, aI_sM, aL_sI, aL_sL, aL_sA, aL_sM, oi_5]; try dsimp only
          unfold Qv_strengthJ4
          try dsimp only
          exact ⟨⟨_, rfl⟩, hz⟩
        · intro x1 Y hz
          refine hB _ _ _ _ _ (fun m1 hm1 => ?_)
          dsimp only [ugo, uwp, ust, uct, rfd, Bstrength, Bstrength_174, Nat.beq, lv_args, rlk, rs1, rs2, rdl, rky, rcd, rno, rsw, Value.category, List.filter, List.take, List.drop, List.reverse, List.reverseAux, List.cons_append, List.nil_append, Option.toList, Int.toNat, Int.reduceToNat, if_pos, if_neg, reduceIte, ↓reduceIte, Nat.reduceAdd, Nat.reduceEqDiff, Nat.reduceBEq, beq_self_eq_true, Bool.not_true, Bool.not_false, Bool.and_true, Bool.and_false, Bool.true_and, Bool.false_and, gI_sI, gI_sL, gI_sA, gI_sM, gL_sI, gL_sL, gL_sA, gL_sM, aI_sI, aI_sL, aI_sA, aI_sM, aL_sI, aL_sL, aL_sA, aL_sM, oi_6]; try dsimp only
          unfold Qv_strengthJ4
          try dsimp only
          exact ⟨⟨_, rfl⟩, hz⟩
        · intro x1 Y hz
          refine hB _ _ _ _ _ (fun m1 hm1 => ?_)
          dsimp only [ugo, uwp, ust, uct, rfd, Bstrength, Bstrength_177, Nat.beq, lv_args, rlk, rs1, rs2, rdl, rky, rcd, rno, rsw, Value.category, List.filter, List.take, List.drop, List.reverse, List.reverseAux, List.cons_append, List.nil_append, Option.toList, Int.toNat, Int.reduceToNat, if_pos, if_neg, reduceIte, ↓reduceIte, Nat.reduceAdd, Nat.reduceEqDiff, Nat.reduceBEq, beq_self_eq_true, Bool.not_true, Bool.not_false, Bool.and_true, Bool.and_false, Bool.true_and, Bool.false_and, gI_sI, gI_sL, gI_sA, gI_sM, gL_sI, gL_sL, gL_sA, gL_sM, aI_sI, aI_sL, aI_sA, aI_sM, aL_sI, aL_sL, aL_sA, aL_sM, oi_7]; try dsimp only
          unfold Qv_strengthJ4
          try dsimp only
          exact ⟨⟨_, rfl⟩, hz⟩
        · intro x1 Y hz
          refine hB _ _ _ _ _ (fun m1 hm1 => ?_)
          dsimp only [ugo, uwp, ust, uct, rfd, Bstrength, Bstrength_180, Nat.beq, lv_args, rlk, rs1, rs2, rdl, rky, rcd, rno, rsw, Value.category, List.filter, List.take, List.drop, List.reverse, List.reverseAux, List.cons_append, List.nil_append, Option.toList, Int.toNat, Int.reduceToNat, if_pos, if_neg, reduceIte, ↓reduceIte, Nat.reduceAdd, Nat.reduceEqDiff, Nat.reduceBEq, beq_self_eq_true, Bool.not_true, Bool.not_false, Bool.and_true, Bool.and_false, Bool.true_and, Bool.false_and, gI_sI, gI_sL, gI_sA, gI_sM, gL_sI, gL_sL, gL_sA, gL_sM, aI_sI, aI_sL, aI_sA, aI_sM, aL_sI, aL_sL, aL_sA, aL_sM, oi_8]; try dsimp only
          unfold Qv_strengthJ4
          try dsimp only
          exact ⟨⟨_, rfl⟩, hz⟩
        · intro x1 Y hz
          refine hB _ _ _ _ _ (fun m1 hm1 => ?_)
          dsimp only [ugo, uwp, ust, uct, rfd, Bstrength, Bstrength_183, Nat.beq, lv_args, rlk, rs1, rs2, rdl, rky, rcd, rno, rsw, Value.category, List.filter, List.take, List.drop, List.reverse, List.reverseAux, List.cons_append, List.nil_append, Option.toList, Int.toNat, Int.reduceToNat, if_pos, if_neg, reduceIte, ↓reduceIte, Nat.reduceAdd, Nat.reduceEqDiff, Nat.reduceBEq, beq_self_eq_true, Bool.not_true, Bool.not_false, Bool.and_true, Bool.and_false, Bool.true_and, Bool.false_and, gI_sI, gI_sL, gI_sA, gI_sM, gL_sI, gL_sL, gL_sA, gL_sM, aI_sI, aI_sL, aI_sA, aI_sM, aL_sI, aL_sL, aL_sA, aL_sM, oi_9]; try dsimp only
          unfold Qv_strengthJ4
          try dsimp only
          exact ⟨⟨_, rfl⟩, hz⟩
        · intro x1 Y hz
          refine hB _ _ _ _ _ (fun m1 hm1 => ?_)
          dsimp only [ugo, uwp, ust, uct, rfd, Bstrength, Bstrength_186, Nat.beq, lv_args, rlk, rs1, rs2, rdl, rky, rcd, rno, rsw, Value.category, List.filter, List.take, List.drop, List.reverse, List.reverseAux, List.cons_append, List.nil_append, Option.toList, Int.toNat, Int.reduceToNat, if_pos, if_neg, reduceIte, ↓reduceIte, Nat.reduceAdd, Nat.reduceEqDiff, Nat.reduceBEq, beq_self_eq_true, Bool.not_true, Bool.not_false, Bool.and_true, Bool.and_false, Bool.true_and, Bool.false_and, gI_sI, gI_sL, gI_sA, gI_sM, gL_sI, gL_sL, gL_sA, gL_sM, aI_sI, aI_sL, aI_sA, aI_sM, aL_sI, aL_sL, aL_sA, aL_sM, oi_10]; try dsimp only
          unfold Qv_strengthJ4
          try dsimp only
          exact ⟨⟨_, rfl⟩, hz⟩
        · intro x1 Y hz
          refine hB _ _ _ _ _ (fun m1 hm1 => ?_)
          dsimp only [ugo, uwp, ust, uct, rfd, Bstrength, Bstrength_189, Nat.beq, lv_args, rlk, rs1, rs2, rdl, rky, rcd, rno, rsw, Value.category, List.filter, List.take, List.drop, List.reverse, List.reverseAux, List.cons_append, List.nil_append, Option.toList, Int.toNat, Int.reduceToNat, if_pos, if_neg, reduceIte, ↓reduceIte, Nat.reduceAdd, Nat.reduceEqDiff, Nat.reduceBEq, beq_self_eq_true, Bool.not_true, Bool.not_false, Bool.and_true, Bool.and_false, Bool.true_and, Bool.false_and, gI_sI, gI_sL, gI_sA, gI_sM, gL_sI, gL_sL, gL_sA, gL_sM, aI_sI, aI_sL, aI_sA, aI_sM, aL_sI, aL_sL, aL_sA, aL_sM, oi_0]; try dsimp only
          unfold Qv_strengthJ4
          try dsimp only
          exact ⟨⟨_, rfl⟩, hz⟩
    intro n0
    exact (all n0).1 a1 σ hP
  next => exact hP.elim
theorem w_strengthJ4 : UMet 22 (fun _ _ => True) Qw_strengthJ4 := fun A1 σ _ w τ h c hP => v_strengthJ4 c A1 σ hP w τ h
def Pv_reduceJ4 (c : RS) : UP1 := fun A1 σ => match A1 with
  | [.int a1] => J4 c σ
  | _ => False
def Qv_reduceJ4 (c : RS) : UQ1 := fun A1 σ w τ => match A1 with
  | [.int a1] => (w = none) ∧ J4 c τ
  | _ => False
def Qw_reduceJ4 : UQ1 := fun A1 σ w τ => ∀ (c : RS), Pv_reduceJ4 c A1 σ → Qv_reduceJ4 c A1 σ w τ
set_option maxRecDepth 100000 in
set_option maxHeartbeats 4000000 in
theorem v_reduceJ4 (c : RS) : UMet 32 (Pv_reduceJ4 c) (Qv_reduceJ4 c) := by
  refine UMet.by Breduce [(21, (fun _ _ => True), Qw_emitExpJ4), (22, (fun _ _ => True), Qw_strengthJ4)] rfl (ucc w_emitExpJ4 (ucc w_strengthJ4 uc0)) ?_
  intro A1 σ hP K hB hW
  unfold Pv_reduceJ4 at hP
  split at hP
  next a1 =>
    have all : ∀ N : Nat, (∀ (x1 : Int32) (Y : RS), J4 c Y → K N 0 [(0, .ref 1000), (1, .int x1)] [] Y) ∧ (∀ (x1 : Int32) (Y : RS), J4 c Y → K N 7 [(0, .ref 1000), (1, .int x1)] [] Y) ∧ (∀ (x1 : Int32) (Y : RS), J4 c Y → K N 11 [(0, .ref 1000), (1, .int x1)] [] Y) ∧ (∀ (x1 : Int32) (s0 : Int32) (Y : RS), J4 c Y → K N 12 [(0, .ref 1000), (1, .int x1)] [.int s0] Y) ∧ (∀ (x1 : Int32) (x2 : Int32) (Y : RS), J4 c Y → K N 13 [(0, .ref 1000), (1, .int x1), (2, .int x2)] [] Y) ∧ (∀ (x1 : Int32) (x2 : Int32) (Y : RS), J4 c Y → K N 17 [(0, .ref 1000), (1, .int x1), (2, .int x2)] [] Y) ∧ (∀ (x1 : Int32) (x2 : Int32) (x3 : Int32) (Y : RS), J4 c Y → K N 33 [(0, .ref 1000), (1, .int x1), (2, .int x2), (3, .int x3)] [] Y) ∧ (∀ (x1 : Int32) (x2 : Int32) (x3 : Int32) (Y : RS), J4 c Y → K N 38 [(0, .ref 1000), (1, .int x1), (2, .int x2), (3, .int x3)] [] Y) ∧ (∀ (x1 : Int32) (x2 : Int32) (x3 : Int32) (Y : RS), J4 c Y → K N 43 [(0, .ref 1000), (1, .int x1), (2, .int x2), (3, .int x3)] [] Y) ∧ (∀ (x1 : Int32) (x2 : Int32) (x3 : Int32) (Y : RS), J4 c Y → K N 62 [(0, .ref 1000), (1, .int x1), (2, .int x2), (3, .int x3)] [] Y) ∧ (∀ (x1 : Int32) (x2 : Int32) (x3 : Int32) (Y : RS), J4 c Y → K N 66 [(0, .ref 1000), (1, .int x1), (2, .int x2), (3, .int x3)] [] Y) ∧ (∀ (x1 : Int32) (x2 : Int32) (x3 : Int32) (s0 : Int32) (Y : RS), J4 c Y → K N 67 [(0, .ref 1000), (1, .int x1), (2, .int x2), (3, .int x3)] [.int s0] Y) ∧ (∀ (x1 : Int32) (x2 : Int32) (x3 : Int32) (x4 : Int32) (Y : RS), J4 c Y → K N 74 [(0, .ref 1000), (1, .int x1), (2, .int x2), (3, .int x3), (4, .int x4)] [] Y) ∧ (∀ (x1 : Int32) (x2 : Int32) (x3 : Int32) (x4 : Int32) (Y : RS), J4 c Y → K N 75 [(0, .ref 1000), (1, .int x1), (2, .int x2), (3, .int x3), (4, .int x4)] [] Y) ∧ (∀ (x1 : Int32) (x2 : Int32) (x3 : Int32) (x4 : Int32) (x5 : Int32) (x6 : Int32) (Y : RS), J4 c Y → K N 112 [(0, .ref 1000), (1, .int x1), (2, .int x2), (3, .int x3), (4, .int x4), (5, .int x5), (6, .int x6)] [] Y) ∧ (∀ (x1 : Int32) (x2 : Int32) (x3 : Int32) (x4 : Int32) (x5 : Int32) (x6 : Int32) (Y : RS), J4 c Y → K N 130 [(0, .ref 1000), (1, .int x1), (2, .int x2), (3, .int x3), (4, .int x4), (5, .int x5), (6, .int x6)] [] Y) ∧ (∀ (x1 : Int32) (x2 : Int32) (x3 : Int32) (x4 : Int32) (x5 : Int32) (x6 : Int32) (Y : RS), J4 c Y → K N 135 [(0, .ref 1000), (1, .int x1), (2, .int x2), (3, .int x3), (4, .int x4), (5, .int x5), (6, .int x6)] [] Y) ∧ (∀ (x1 : Int32) (x2 : Int32) (x3 : Int32) (x4 : Int32) (x5 : Int32) (x6 : Int32) (Y : RS), J4 c Y → K N 143 [(0, .ref 1000), (1, .int x1), (2, .int x2), (3, .int x3), (4, .int x4), (5, .int x5), (6, .int x6)] [] Y) ∧ (∀ (x1 : Int32) (x2 : Int32) (x3 : Int32) (x4 : Int32) (x5 : Int32) (x6 : Int32) (Y : RS), J4 c Y → K N 148 [(0, .ref 1000), (1, .int x1), (2, .int x2), (3, .int x3), (4, .int x4), (5, .int x5), (6, .int x6)] [] Y) ∧ (∀ (x1 : Int32) (x2 : Int32) (x3 : Int32) (x4 : Int32) (x5 : Int32) (x6 : Int32) (s0 : Int32) (Y : RS), J4 c Y → K N 150 [(0, .ref 1000), (1, .int x1), (2, .int x2), (3, .int x3), (4, .int x4), (5, .int x5), (6, .int x6)] [.int s0] Y) ∧ (∀ (x1 : Int32) (x2 : Int32) (x3 : Int32) (x4 : Int32) (x5 : Int32) (x6 : Int32) (Y : RS), J4 c Y → K N 202 [(0, .ref 1000), (1, .int x1), (2, .int x2), (3, .int x3), (4, .int x4), (5, .int x5), (6, .int x6)] [] Y) ∧ (∀ (x1 : Int32) (x2 : Int32) (x3 : Int32) (x4 : Int32) (x5 : Int32) (x6 : Int32) (Y : RS), J4 c Y → K N 231 [(0, .ref 1000), (1, .int x1), (2, .int x2), (3, .int x3), (4, .int x4), (5, .int x5), (6, .int x6)] [.ref 1000, .ref 1000] Y) ∧ (∀ (x1 : Int32) (x2 : Int32) (x3 : Int32) (x4 : Int32) (x5 : Int32) (x6 : Int32) (Y : RS), J4 c Y → K N 235 [(0, .ref 1000), (1, .int x1), (2, .int x2), (3, .int x3), (4, .int x4), (5, .int x5), (6, .int x6)] [.ref 1000, .ref 1000] Y) ∧ (∀ (x1 : Int32) (x2 : Int32) (x3 : Int32) (x4 : Int32) (x5 : Int32) (x6 : Int32) (s0 : Int32) (Y : RS), J4 c Y → K N 237 [(0, .ref 1000), (1, .int x1), (2, .int x2), (3, .int x3), (4, .int x4), (5, .int x5), (6, .int x6)] [.int s0, .ref 1000, .ref 1000] Y) ∧ (∀ (x1 : Int32) (x2 : Int32) (x3 : Int32) (x4 : Int32) (x5 : Int32) (x6 : Int32) (Y : RS), J4 c Y → K N 253 [(0, .ref 1000), (1, .int x1), (2, .int x2), (3, .int x3), (4, .int x4), (5, .int x5), (6, .int x6)] [] Y) ∧ (∀ (x1 : Int32) (x2 : Int32) (x3 : Int32) (x4 : Int32) (x5 : Int32) (x6 : Int32) (Y : RS), J4 c Y → K N 260 [(0, .ref 1000), (1, .int x1), (2, .int x2), (3, .int x3), (4, .int x4), (5, .int x5), (6, .int x6)] [] Y) ∧ (∀ (x1 : Int32) (x2 : Int32) (x3 : Int32) (x4 : Int32) (x5 : Int32) (x6 : Int32) (Y : RS), J4 c Y → K N 264 [(0, .ref 1000), (1, .int x1), (2, .int x2), (3, .int x3), (4, .int x4), (5, .int x5), (6, .int x6)] [] Y) ∧ (∀ (x1 : Int32) (x2 : Int32) (x3 : Int32) (x4 : Int32) (x5 : Int32) (x6 : Int32) (s0 : Int32) (Y : RS), J4 c Y → K N 265 [(0, .ref 1000), (1, .int x1), (2, .int x2), (3, .int x3), (4, .int x4), (5, .int x5), (6, .int x6)] [.int s0] Y) ∧ (∀ (x1 : Int32) (x2 : Int32) (Y : RS), J4 c Y → K N 269 [(0, .ref 1000), (1, .int x1), (2, .int x2)] [] Y) := by
      intro N
      induction N using Nat.strongRecOn with
      | ind N ih =>
        refine ⟨?_, ?_, ?_, ?_, ?_, ?_, ?_, ?_, ?_, ?_, ?_, ?_, ?_, ?_, ?_, ?_, ?_, ?_, ?_, ?_, ?_, ?_, ?_, ?_, ?_, ?_, ?_, ?_, ?_⟩
        · intro x1 Y hz
          refine hB _ _ _ _ _ (fun m1 hm1 => ?_)
          dsimp only [ugo, uwp, ust, uct, rfd, Breduce, Breduce_0, Nat.beq, lv_args, rlk, rs1, rs2, rdl, rky, rcd, rno, rsw, Value.category, List.filter, List.take, List.drop, List.reverse, List.reverseAux, List.cons_append, List.nil_append, Option.toList, Int.toNat, Int.reduceToNat, if_pos, if_neg, reduceIte, ↓reduceIte, Nat.reduceAdd, Nat.reduceEqDiff, Nat.reduceBEq, beq_self_eq_true, Bool.not_true, Bool.not_false, Bool.and_true, Bool.and_false, Bool.true_and, Bool.false_and, gI_sI, gI_sL, gI_sA, gI_sM, gL_sI, gL_sL, gL_sA, gL_sM, aI_sI, aI_sL, aI_sA, aI_sM, aL_sI, aL_sL, aL_sA, aL_sM]; try dsimp only
          refine ⟨fun h2 => ?_, fun h2 => ?_⟩
          · exact hW _ 11 [(0, .ref 1000), (1, .int x1)] _ _ _ (by simp [rdl, rky, Value.category]) ((ih m1 hm1).2.2.1 x1 _ hz)
          · exact hW _ 7 [(0, .ref 1000), (1, .int x1)] _ _ _ (by simp [rdl, rky, Value.category]) ((ih m1 hm1).2.1 x1 _ hz)
        · intro x1 Y hz
          refine hB _ _ _ _ _ (fun m1 hm1 => ?_)
          dsimp only [ugo, uwp, ust, uct, rfd, Breduce, Breduce_7, Nat.beq, lv_args, rlk, rs1, rs2, rdl, rky, rcd, rno, rsw, Value.category, List.filter, List.take, List.drop, List.reverse, List.reverseAux, List.cons_append, List.nil_append, Option.toList, Int.toNat, Int.reduceToNat, if_pos, if_neg, reduceIte, ↓reduceIte, Nat.reduceAdd, Nat.reduceEqDiff, Nat.reduceBEq, beq_self_eq_true, Bool.not_true, Bool.not_false, Bool.and_true, Bool.and_false, Bool.true_and, Bool.false_and, gI_sI, gI_sL, gI_sA, gI_sM, gL_sI, gL_sL, gL_sA, gL_sM, aI_sI, aI_sL, aI_sA, aI_sM, aL_sI, aL_sL, aL_sA, aL_sM, oi_1]; try dsimp only
          exact hW _ 12 [(0, .ref 1000), (1, .int x1)] _ _ _ (by simp [rdl, rky, Value.category]) ((ih m1 hm1).2.2.2.1 x1 1 _ hz)
        · intro x1 Y hz
          refine hB _ _ _ _ _ (fun m1 hm1 => ?_)
          dsimp only [ugo, uwp, ust, uct, rfd, Breduce, Breduce_11, Nat.beq, lv_args, rlk, rs1, rs2, rdl, rky, rcd, rno, rsw, Value.category, List.filter, List.take, List.drop, List.reverse, List.reverseAux, List.cons_append, List.nil_append, Option.toList, Int.toNat, Int.reduceToNat, if_pos, if_neg, reduceIte, ↓reduceIte, Nat.reduceAdd, Nat.reduceEqDiff, Nat.reduceBEq, beq_self_eq_true, Bool.not_true, Bool.not_false, Bool.and_true, Bool.and_false, Bool.true_and, Bool.false_and, gI_sI, gI_sL, gI_sA, gI_sM, gL_sI, gL_sL, gL_sA, gL_sM, aI_sI, aI_sL, aI_sA, aI_sM, aL_sI, aL_sL, aL_sA, aL_sM, oi_0]; try dsimp only
          exact hW _ 12 [(0, .ref 1000), (1, .int x1)] _ _ _ (by simp [rdl, rky, Value.category]) ((ih m1 hm1).2.2.2.1 x1 0 _ hz)
        · intro x1 s0 Y hz
          refine hB _ _ _ _ _ (fun m1 hm1 => ?_)
          dsimp only [ugo, uwp, ust, uct, rfd, Breduce, Breduce_12, Nat.beq, lv_args, rlk, rs1, rs2, rdl, rky, rcd, rno, rsw, Value.category, List.filter, List.take, List.drop, List.reverse, List.reverseAux, List.cons_append, List.nil_append, Option.toList, Int.toNat, Int.reduceToNat, if_pos, if_neg, reduceIte, ↓reduceIte, Nat.reduceAdd, Nat.reduceEqDiff, Nat.reduceBEq, beq_self_eq_true, Bool.not_true, Bool.not_false, Bool.and_true, Bool.and_false, Bool.true_and, Bool.false_and, gI_sI, gI_sL, gI_sA, gI_sM, gL_sI, gL_sL, gL_sA, gL_sM, aI_sI, aI_sL, aI_sA, aI_sM, aL_sI, aL_sL, aL_sA, aL_sM]; try dsimp only
          exact hW _ 13 [(0, .ref 1000), (1, .int x1), (2, .int s0)] _ _ _ (by simp [rdl, rky, Value.category]) ((ih m1 hm1).2.2.2.2.1 x1 s0 _ hz)
        · intro x1 x2 Y hz
          refine hB _ _ _ _ _ (fun m1 hm1 => ?_)
          dsimp only [ugo, uwp, ust, uct, rfd, Breduce, Breduce_13, Nat.beq, lv_args, rlk, rs1, rs2, rdl, rky, rcd, rno, rsw, Value.category, List.filter, List.take, List.drop, List.reverse, List.reverseAux, List.cons_append, List.nil_append, Option.toList, Int.toNat, Int.reduceToNat, if_pos, if_neg, reduceIte, ↓reduceIte, Nat.reduceAdd, Nat.reduceEqDiff, Nat.reduceBEq, beq_self_eq_true, Bool.not_true, Bool.not_false, Bool.and_true, Bool.and_false, Bool.true_and, Bool.false_and, gI_sI, gI_sL, gI_sA, gI_sM, gL_sI, gL_sL, gL_sA, gL_sM, aI_sI, aI_sL, aI_sA, aI_sM, aL_sI, aL_sL, aL_sA, aL_sM]; try dsimp only
          refine ⟨fun h2 => ?_, fun h2 => ?_⟩
          · exact hW _ 269 [(0, .ref 1000), (1, .int x1), (2, .int x2)] _ _ _ (by simp [rdl, rky, Value.category]) ((ih m1 hm1).2.2.2.2.2.2.2.2.2.2.2.2.2.2.2.2.2.2.2.2.2.2.2.2.2.2.2.2 x1 x2 _ hz)
          · exact hW _ 17 [(0, .ref 1000), (1, .int x1), (2, .int x2)] _ _ _ (by simp [rdl, rky, Value.category]) ((ih m1 hm1).2.2.2.2.2.1 x1 x2 _ hz)
        · intro x1 x2 Y hz
          refine hB _ _ _ _ _ (fun m1 hm1 => ?_)
          dsimp only [ugo, uwp, ust, uct, rfd, Breduce, Breduce_17, Nat.beq, lv_args, rlk, rs1, rs2, rdl, rky, rcd, rno, rsw, Value.category, List.filter, List.take, List.drop, List.reverse, List.reverseAux, List.cons_append, List.nil_append, Option.toList, Int.toNat, Int.reduceToNat, if_pos, if_neg, reduceIte, ↓reduceIte, Nat.reduceAdd, Nat.reduceEqDiff, Nat.reduceBEq, beq_self_eq_true, Bool.not_true, Bool.not_false, Bool.and_true, Bool.and_false, Bool.true_and, Bool.false_and, gI_sI, gI_sL, gI_sA, gI_sM, gL_sI, gL_sL, gL_sA, gL_sM, aI_sI, aI_sL, aI_sA, aI_sM, aL_sI, aL_sL, aL_sA, aL_sM, oi_1]; try dsimp only
          intro p2
          refine ⟨fun h3 => ?_, fun h3 => ?_⟩
          · exact hW _ 62 [(0, .ref 1000), (1, .int x1), (2, .int x2), (3, .int ((aI Y 25) (((gI Y 29) - 1)).toNatClampNeg))] _ _ _ (by simp [rdl, rky, Value.category]) ((ih m1 hm1).2.2.2.2.2.2.2.2.2.1 x1 x2 ((aI Y 25) (((gI Y 29) - 1)).toNatClampNeg) _ hz)
          · exact hW _ 33 [(0, .ref 1000), (1, .int x1), (2, .int x2), (3, .int ((aI Y 25) (((gI Y 29) - 1)).toNatClampNeg))] _ _ _ (by simp [rdl, rky, Value.category]) ((ih m1 hm1).2.2.2.2.2.2.1 x1 x2 ((aI Y 25) (((gI Y 29) - 1)).toNatClampNeg) _ hz)
        · intro x1 x2 x3 Y hz
          refine hB _ _ _ _ _ (fun m1 hm1 => ?_)
          dsimp only [ugo, uwp, ust, uct, rfd, Breduce, Breduce_33, Nat.beq, lv_args, rlk, rs1, rs2, rdl, rky, rcd, rno, rsw, Value.category, List.filter, List.take, List.drop, List.reverse, List.reverseAux, List.cons_append, List.nil_append, Option.toList, Int.toNat, Int.reduceToNat, if_pos, if_neg, reduceIte, ↓reduceIte, Nat.reduceAdd, Nat.reduceEqDiff, Nat.reduceBEq, beq_self_eq_true, Bool.not_true, Bool.not_false, Bool.and_true, Bool.and_false, Bool.true_and, Bool.false_and, gI_sI, gI_sL, gI_sA, gI_sM, gL_sI, gL_sL, gL_sA, gL_sM, aI_sI, aI_sL, aI_sA, aI_sM, aL_sI, aL_sL, aL_sA, aL_sM, oi_1]; try dsimp only
          refine ⟨fun h2 => ?_, fun h2 => ?_⟩
          · exact hW _ 62 [(0, .ref 1000), (1, .int x1), (2, .int x2), (3, .int x3)] _ _ _ (by simp [rdl, rky, Value.category]) ((ih m1 hm1).2.2.2.2.2.2.2.2.2.1 x1 x2 x3 _ hz)
          · exact hW _ 38 [(0, .ref 1000), (1, .int x1), (2, .int x2), (3, .int x3)] _ _ _ (by simp [rdl, rky, Value.category]) ((ih m1 hm1).2.2.2.2.2.2.2.1 x1 x2 x3 _ hz)
        · intro x1 x2 x3 Y hz
          refine hB _ _ _ _ _ (fun m1 hm1 => ?_)
          dsimp only [ugo, uwp, ust, uct, rfd, Breduce, Breduce_38, Nat.beq, lv_args, rlk, rs1, rs2, rdl, rky, rcd, rno, rsw, Value.category, List.filter, List.take, List.drop, List.reverse, List.reverseAux, List.cons_append, List.nil_append, Option.toList, Int.toNat, Int.reduceToNat, if_pos, if_neg, reduceIte, ↓reduceIte, Nat.reduceAdd, Nat.reduceEqDiff, Nat.reduceBEq, beq_self_eq_true, Bool.not_true, Bool.not_false, Bool.and_true, Bool.and_false, Bool.true_and, Bool.false_and, gI_sI, gI_sL, gI_sA, gI_sM, gL_sI, gL_sL, gL_sA, gL_sM, aI_sI, aI_sL, aI_sA, aI_sM, aL_sI, aL_sL, aL_sA, aL_sM, oi_2]; try dsimp only
          refine ⟨fun h2 => ?_, fun h2 => ?_⟩
          · exact hW _ 66 [(0, .ref 1000), (1, .int x1), (2, .int x2), (3, .int x3)] _ _ _ (by simp [rdl, rky, Value.category]) ((ih m1 hm1).2.2.2.2.2.2.2.2.2.2.1 x1 x2 x3 _ hz)
          · exact hW _ 43 [(0, .ref 1000), (1, .int x1), (2, .int x2), (3, .int x3)] _ _ _ (by simp [rdl, rky, Value.category]) ((ih m1 hm1).2.2.2.2.2.2.2.2.1 x1 x2 x3 _ hz)
        · intro x1 x2 x3 Y hz
          refine hB _ _ _ _ _ (fun m1 hm1 => ?_)
          dsimp only [ugo, uwp, ust, uct, rfd, Breduce, Breduce_43, Nat.beq, lv_args, rlk, rs1, rs2, rdl, rky, rcd, rno, rsw, Value.category, List.filter, List.take, List.drop, List.reverse, List.reverseAux, List.cons_append, List.nil_append, Option.toList, Int.toNat, Int.reduceToNat, if_pos, if_neg, reduceIte, ↓reduceIte, Nat.reduceAdd, Nat.reduceEqDiff, Nat.reduceBEq, beq_self_eq_true, Bool.not_true, Bool.not_false, Bool.and_true, Bool.and_false, Bool.true_and, Bool.false_and, gI_sI, gI_sL, gI_sA, gI_sM, gL_sI, gL_sL, gL_sA, gL_sM, aI_sI, aI_sL, aI_sA, aI_sM, aL_sI, aL_sL, aL_sA, aL_sM, oi_1]; try dsimp only
          intro p2
          refine ⟨trivial, fun w3 τ3 hq3 => ?_⟩
          obtain ⟨⟨r3, rfl⟩, hz3⟩ := hq3 c hz
          dsimp only [Option.toList, List.cons_append, List.nil_append, Nat.beq, gI_sI, gI_sL, gI_sA, gI_sM, gL_sI, gL_sL, gL_sA, gL_sM, aI_sI, aI_sL, aI_sA, aI_sM, aL_sI, aL_sL, aL_sA, aL_sM]
          refine ⟨fun h4 => ?_, fun h4 => ?_⟩
          · exact hW _ 66 [(0, .ref 1000), (1, .int x1), (2, .int x2), (3, .int x3)] _ _ _ (by simp [rdl, rky, Value.category]) ((ih m1 hm1).2.2.2.2.2.2.2.2.2.2.1 x1 x2 x3 _ hz3)
          · exact hW _ 62 [(0, .ref 1000), (1, .int x1), (2, .int x2), (3, .int x3)] _ _ _ (by simp [rdl, rky, Value.category]) ((ih m1 hm1).2.2.2.2.2.2.2.2.2.1 x1 x2 x3 _ hz3)
        · intro x1 x2 x3 Y hz
          refine hB _ _ _ _ _ (fun m1 hm1 => ?_)
          dsimp only [ugo, uwp, ust, uct, rfd, Breduce, Breduce_62, Nat.beq, lv_args, rlk, rs1, rs2, rdl, rky, rcd, rno, rsw, Value.category, List.filter, List.take, List.drop, List.reverse, List.reverseAux, List.cons_append, List.nil_append, Option.toList, Int.toNat, Int.reduceToNat, if_pos, if_neg, reduceIte, ↓reduceIte, Nat.reduceAdd, Nat.reduceEqDiff, Nat.reduceBEq, beq_self_eq_true, Bool.not_true, Bool.not_false, Bool.and_true, Bool.and_false, Bool.true_and, Bool.false_and, gI_sI, gI_sL, gI_sA, gI_sM, gL_sI, gL_sL, gL_sA, gL_sM, aI_sI, aI_sL, aI_sA, aI_sM, aL_sI, aL_sL, aL_sA, aL_sM, oi_1]; try dsimp only
          exact hW _ 67 [(0, .ref 1000), (1, .int x1), (2, .int x2), (3, .int x3)] _ _ _ (by simp [rdl, rky, Value.category]) ((ih m1 hm1).2.2.2.2.2.2.2.2.2.2.2.1 x1 x2 x3 1 _ hz)
        · intro x1 x2 x3 Y hz
          refine hB _ _ _ _ _ (fun m1 hm1 => ?_)
          dsimp only [ugo, uwp, ust, uct, rfd, Breduce, Breduce_66, Nat.beq, lv_args, rlk, rs1, rs2, rdl, rky, rcd, rno, rsw, Value.category, List.filter, List.take, List.drop, List.reverse, List.reverseAux, List.cons_append, List.nil_append, Option.toList, Int.toNat, Int.reduceToNat, if_pos, if_neg, reduceIte, ↓reduceIte, Nat.reduceAdd, Nat.reduceEqDiff, Nat.reduceBEq, beq_self_eq_true, Bool.not_true, Bool.not_false, Bool.and_true, Bool.and_false, Bool.true_and, Bool.false_and, gI_sI, gI_sL, gI_sA, gI_sM, gL_sI, gL_sL, gL_sA, gL_sM, aI_sI, aI_sL, aI_sA, aI_sM, aL_sI, aL_sL, aL_sA, aL_sM, oi_0]; try dsimp only
          exact hW _ 67 [(0, .ref 1000), (1, .int x1), (2, .int x2), (3, .int x3)] _ _ _ (by simp [rdl, rky, Value.category]) ((ih m1 hm1).2.2.2.2.2.2.2.2.2.2.2.1 x1 x2 x3 0 _ hz)
        · intro x1 x2 x3 s0 Y hz
          refine hB _ _ _ _ _ (fun m1 hm1 => ?_)
          dsimp only [ugo, uwp, ust, uct, rfd, Breduce, Breduce_67, Nat.beq, lv_args, rlk, rs1, rs2, rdl, rky, rcd, rno, rsw, Value.category, List.filter, List.take, List.drop, List.reverse, List.reverseAux, List.cons_append, List.nil_append, Option.toList, Int.toNat, Int.reduceToNat, if_pos, if_neg, reduceIte, ↓reduceIte, Nat.reduceAdd, Nat.reduceEqDiff, Nat.reduceBEq, beq_self_eq_true, Bool.not_true, Bool.not_false, Bool.and_true, Bool.and_false, Bool.true_and, Bool.false_and, gI_sI, gI_sL, gI_sA, gI_sM, gL_sI, gL_sL, gL_sA, gL_sM, aI_sI, aI_sL, aI_sA, aI_sM, aL_sI, aL_sL, aL_sA, aL_sM]; try dsimp only
          refine ⟨fun h2 => ?_, fun h2 => ?_⟩
          · exact hW _ 75 [(0, .ref 1000), (1, .int x1), (2, .int x2), (3, .int x3), (4, .int s0)] _ _ _ (by simp [rdl, rky, Value.category]) ((ih m1 hm1).2.2.2.2.2.2.2.2.2.2.2.2.2.1 x1 x2 x3 s0 _ hz)
          · exact hW _ 74 [(0, .ref 1000), (1, .int x1), (2, .int x2), (3, .int x3), (4, .int s0)] _ _ _ (by simp [rdl, rky, Value.category]) ((ih m1 hm1).2.2.2.2.2.2.2.2.2.2.2.2.1 x1 x2 x3 s0 _ hz)
        · intro x1 x2 x3 x4 Y hz
          refine hB _ _ _ _ _ (fun m1 hm1 => ?_)
          dsimp only [ugo, uwp, ust, uct, rfd, Breduce, Breduce_74, Nat.beq, lv_args, rlk, rs1, rs2, rdl, rky, rcd, rno, rsw, Value.category, List.filter, List.take, List.drop, List.reverse, List.reverseAux, List.cons_append, List.nil_append, Option.toList, Int.toNat, Int.reduceToNat, if_pos, if_neg, reduceIte, ↓reduceIte, Nat.reduceAdd, Nat.reduceEqDiff, Nat.reduceBEq, beq_self_eq_true, Bool.not_true, Bool.not_false, Bool.and_true, Bool.and_false, Bool.true_and, Bool.false_and, gI_sI, gI_sL, gI_sA, gI_sM, gL_sI, gL_sL, gL_sA, gL_sM, aI_sI, aI_sL, aI_sA, aI_sM, aL_sI, aL_sL, aL_sA, aL_sM]; try dsimp only
          unfold Qv_reduceJ4
          try dsimp only
          exact ⟨rfl, hz⟩
        · intro x1 x2 x3 x4 Y hz
          refine hB _ _ _ _ _ (fun m1 hm1 => ?_)
          dsimp only [ugo, uwp, ust, uct, rfd, Breduce, Breduce_75, Nat.beq, lv_args, rlk, rs1, rs2, rdl, rky, rcd, rno, rsw, Value.category, List.filter, List.take, List.drop, List.reverse, List.reverseAux, List.cons_append, List.nil_append, Option.toList, Int.toNat, Int.reduceToNat, if_pos, if_neg, reduceIte, ↓reduceIte, Nat.reduceAdd, Nat.reduceEqDiff, Nat.reduceBEq, beq_self_eq_true, Bool.not_true, Bool.not_false, Bool.and_true, Bool.and_false, Bool.true_and, Bool.false_and, gI_sI, gI_sL, gI_sA, gI_sM, gL_sI, gL_sL, gL_sA, gL_sM, aI_sI, aI_sL, aI_sA, aI_sM, aL_sI, aL_sL, aL_sA, aL_sM, oi_1, oi_2]; try dsimp only
          intro p2
          intro p3
          refine ⟨fun h4 => ?_, fun h4 => ?_⟩
          · exact hW _ 202 [(0, .ref 1000), (1, .int x1), (2, .int x2), (3, .int x3), (4, .int x4), (5, .int ((aI Y 26) (((gI Y 29) - 1)).toNatClampNeg)), (6, .int ((aI Y 27) (((gI Y 29) - 1)).toNatClampNeg))] _ _ _ (by simp [rdl, rky, Value.category]) ((ih m1 hm1).2.2.2.2.2.2.2.2.2.2.2.2.2.2.2.2.2.2.2.2.1 x1 x2 x3 x4 ((aI Y 26) (((gI Y 29) - 1)).toNatClampNeg) ((aI Y 27) (((gI Y 29) - 1)).toNatClampNeg) _ (hz.i (by decide)))
          · exact hW _ 112 [(0, .ref 1000), (1, .int x1), (2, .int x2), (3, .int x3), (4, .int x4), (5, .int ((aI Y 26) (((gI Y 29) - 1)).toNatClampNeg)), (6, .int ((aI Y 27) (((gI Y 29) - 1)).toNatClampNeg))] _ _ _ (by simp [rdl, rky, Value.category]) ((ih m1 hm1).2.2.2.2.2.2.2.2.2.2.2.2.2.2.1 x1 x2 x3 x4 ((aI Y 26) (((gI Y 29) - 1)).toNatClampNeg) ((aI Y 27) (((gI Y 29) - 1)).toNatClampNeg) _ (hz.i (by decide)))
        · intro x1 x2 x3 x4 x5 x6 Y hz
          refine hB _ _ _ _ _ (fun m1 hm1 => ?_)
          dsimp only [ugo, uwp, ust, uct, rfd, Breduce, Breduce_112, Nat.beq, lv_args, rlk, rs1, rs2, rdl, rky, rcd, rno, rsw, Value.category, List.filter, List.take, List.drop, List.reverse, List.reverseAux, List.cons_append, List.nil_append, Option.toList, Int.toNat, Int.reduceToNat, if_pos, if_neg, reduceIte, ↓reduceIte, Nat.reduceAdd, Nat.reduceEqDiff, Nat.reduceBEq, beq_self_eq_true, Bool.not_true, Bool.not_false, Bool.and_true, Bool.and_false, Bool.true_and, Bool.false_and, gI_sI, gI_sL, gI_sA, gI_sM, gL_sI, gL_sL, gL_sA, gL_sM, aI_sI, aI_sL, aI_sA, aI_sM, aL_sI, aL_sL, aL_sA, aL_sM, oi_1, oi_307]; try dsimp only
          refine ⟨fun h2 => ?_, fun h2 => ?_⟩
          · exact hW _ 135 [(0, .ref 1000), (1, .int x1), (2, .int x2), (3, .int x3), (4, .int x4), (5, .int x5), (6, .int x6)] _ _ _ (by simp [rdl, rky, Value.category]) ((ih m1 hm1).2.2.2.2.2.2.2.2.2.2.2.2.2.2.2.2.1 x1 x2 x3 x4 x5 x6 _ (hz.i (by decide)))
          · exact hW _ 130 [(0, .ref 1000), (1, .int x1), (2, .int x2), (3, .int x3), (4, .int x4), (5, .int x5), (6, .int x6)] _ _ _ (by simp [rdl, rky, Value.category]) ((ih m1 hm1).2.2.2.2.2.2.2.2.2.2.2.2.2.2.2.1 x1 x2 x3 x4 x5 x6 _ (hz.i (by decide)))
        · intro x1 x2 x3 x4 x5 x6 Y hz
          refine hB _ _ _ _ _ (fun m1 hm1 => ?_)
          dsimp only [ugo, uwp, ust, uct, rfd, Breduce, Breduce_130, Nat.beq, lv_args, rlk, rs1, rs2, rdl, rky, rcd, rno, rsw, Value.category, List.filter, List.take, List.drop, List.reverse, List.reverseAux, List.cons_append, List.nil_append, Option.toList, Int.toNat, Int.reduceToNat, if_pos, if_neg, reduceIte, ↓reduceIte, Nat.reduceAdd, Nat.reduceEqDiff, Nat.reduceBEq, beq_self_eq_true, Bool.not_true, Bool.not_false, Bool.and_true, Bool.and_false, Bool.true_and, Bool.false_and, gI_sI, gI_sL, gI_sA, gI_sM, gL_sI, gL_sL, gL_sA, gL_sM, aI_sI, aI_sL, aI_sA, aI_sM, aL_sI, aL_sL, aL_sA, aL_sM, oi_9]; try dsimp only
          exact hW _ 150 [(0, .ref 1000), (1, .int x1), (2, .int x2), (3, .int x3), (4, .int x4), (5, .int x5), (6, .int x6)] _ _ _ (by simp [rdl, rky, Value.category]) ((ih m1 hm1).2.2.2.2.2.2.2.2.2.2.2.2.2.2.2.2.2.2.2.1 x1 x2 x3 x4 x5 x6 9 _ hz)
        · intro x1 x2 x3 x4 x5 x6 Y hz
          refine hB _ _ _ _ _ (fun m1 hm1 => ?_)
          dsimp only [ugo, uwp, ust, uct, rfd, Breduce, Breduce_135, Nat.beq, lv_args, rlk, rs1, rs2, rdl, rky, rcd, rno, rsw, Value.category, List.filter, List.take, List.drop, List.reverse, List.reverseAux, List.cons_append, List.nil_append, Option.toList, Int.toNat, Int.reduceToNat, if_pos, if_neg, reduceIte, ↓reduceIte, Nat.reduceAdd, Nat.reduceEqDiff, Nat.reduceBEq, beq_self_eq_true, Bool.not_true, Bool.not_false, Bool.and_true, Bool.and_false, Bool.true_and, Bool.false_and, gI_sI, gI_sL, gI_sA, gI_sM, gL_sI, gL_sL, gL_sA, gL_sM, aI_sI, aI_sL, aI_sA, aI_sM, aL_sI, aL_sL, aL_sA, aL_sM, oi_308]; try dsimp only
          refine ⟨fun h2 => ?_, fun h2 => ?_⟩
          · exact hW _ 148 [(0, .ref 1000), (1, .int x1), (2, .int x2), (3, .int x3), (4, .int x4), (5, .int x5), (6, .int x6)] _ _ _ (by simp [rdl, rky, Value.category]) ((ih m1 hm1).2.2.2.2.2.2.2.2.2.2.2.2.2.2.2.2.2.2.1 x1 x2 x3 x4 x5 x6 _ hz)
          · exact hW _ 143 [(0, .ref 1000), (1, .int x1), (2, .int x2), (3, .int x3), (4, .int x4), (5, .int x5), (6, .int x6)] _ _ _ (by simp [rdl, rky, Value.category]) ((ih m1 hm1).2.2.2.2.2.2.2.2.2.2.2.2.2.2.2.2.2.1 x1 x2 x3 x4 x5 x6 _ hz)
        · intro x1 x2 x3 x4 x5 x6 Y hz
          refine hB _ _ _ _ _ (fun m1 hm1 => ?_)
          dsimp only [ugo, uwp, ust, uct, rfd, Breduce, Breduce_143, Nat.beq, lv_args, rlk, rs1, rs2, rdl, rky, rcd, rno, rsw, Value.category, List.filter, List.take, List.drop, List.reverse, List.reverseAux, List.cons_append, List.nil_append, Option.toList, Int.toNat, Int.reduceToNat, if_pos, if_neg, reduceIte, ↓reduceIte, Nat.reduceAdd, Nat.reduceEqDiff, Nat.reduceBEq, beq_self_eq_true, Bool.not_true, Bool.not_false, Bool.and_true, Bool.and_false, Bool.true_and, Bool.false_and, gI_sI, gI_sL, gI_sA, gI_sM, gL_sI, gL_sL, gL_sA, gL_sM, aI_sI, aI_sL, aI_sA, aI_sM, aL_sI, aL_sL, aL_sA, aL_sM, oi_11]; try dsimp only
          exact hW _ 150 [(0, .ref 1000), (1, .int x1), (2, .int x2), (3, .int x3), (4, .int x4), (5, .int x5), (6, .int x6)] _ _ _ (by simp [rdl, rky, Value.category]) ((ih m1 hm1).2.2.2.2.2.2.2.2.2.2.2.2.2.2.2.2.2.2.2.1 x1 x2 x3 x4 x5 x6 11 _ hz)
        · intro x1 x2 x3 x4 x5 x6 Y hz
          refine hB _ _ _ _ _ (fun m1 hm1 => ?_)
          dsimp only [ugo, uwp, ust, uct, rfd, Breduce, Breduce_148, Nat.beq, lv_args, rlk, rs1, rs2, rdl, rky, rcd, rno, rsw, Value.category, List.filter, List.take, List.drop, List.reverse, List.reverseAux, List.cons_append, List.nil_append, Option.toList, Int.toNat, Int.reduceToNat, if_pos, if_neg, reduceIte, ↓reduceIte, Nat.reduceAdd, Nat.reduceEqDiff, Nat.reduceBEq, beq_self_eq_true, Bool.not_true, Bool.not_false, Bool.and_true, Bool.and_false, Bool.true_and, Bool.false_and, gI_sI, gI_sL, gI_sA, gI_sM, gL_sI, gL_sL, gL_sA, gL_sM, aI_sI, aI_sL, aI_sA, aI_sM, aL_sI, aL_sL, aL_sA, aL_sM, oi_7]; try dsimp only
          exact hW _ 150 [(0, .ref 1000), (1, .int x1), (2, .int x2), (3, .int x3), (4, .int x4), (5, .int x5), (6, .int x6)] _ _ _ (by simp [rdl, rky, Value.category]) ((ih m1 hm1).2.2.2.2.2.2.2.2.2.2.2.2.2.2.2.2.2.2.2.1 x1 x2 x3 x4 x5 x6 7 _ hz)
        · intro x1 x2 x3 x4 x5 x6 s0 Y hz
          refine hB _ _ _ _ _ (fun m1 hm1 => ?_)
          dsimp only [ugo, uwp, ust, uct, rfd, Breduce, Breduce_150, Nat.beq, lv_args, rlk, rs1, rs2, rdl, rky, rcd, rno, rsw, Value.category, List.filter, List.take, List.drop, List.reverse, List.reverseAux, List.cons_append, List.nil_append, Option.toList, Int.toNat, Int.reduceToNat, if_pos, if_neg, reduceIte, ↓reduceIte, Nat.reduceAdd, Nat.reduceEqDiff, Nat.reduceBEq, beq_self_eq_true, Bool.not_true, Bool.not_false, Bool.and_true, Bool.and_false, Bool.true_and, Bool.false_and, gI_sI, gI_sL, gI_sA, gI_sM, gL_sI, gL_sL, gL_sA, gL_sM, aI_sI, aI_sL, aI_sA, aI_sM, aL_sI, aL_sL, aL_sA, aL_sM, oi_1]; try dsimp only
          intro p2
          refine ⟨trivial, fun w3 τ3 hq3 => ?_⟩
          obtain ⟨⟨r3, rfl⟩, hz3⟩ := hq3 c hz
          dsimp only [Option.toList, List.cons_append, List.nil_append, Nat.beq, gI_sI, gI_sL, gI_sA, gI_sM, gL_sI, gL_sL, gL_sA, gL_sM, aI_sI, aI_sL, aI_sA, aI_sM, aL_sI, aL_sL, aL_sA, aL_sM]
          intro p4
          intro p5
          exact hW _ 253 [(0, .ref 1000), (1, .int x1), (2, .int x2), (3, .int x3), (4, .int x4), (5, .int x5), (6, .int x6)] _ _ _ (by simp [rdl, rky, Value.category]) ((ih m1 hm1).2.2.2.2.2.2.2.2.2.2.2.2.2.2.2.2.2.2.2.2.2.2.2.2.1 x1 x2 x3 x4 x5 x6 _ ((hz3.i (by decide)).a (by decide)))
        · intro x1 x2 x3 x4 x5 x6 Y hz
          refine hB _ _ _ _ _ (fun m1 hm1 => ?_)
          dsimp only [ugo, uwp, ust, uct, rfd, Breduce, Breduce_202, Nat.beq, lv_args, rlk, rs1, rs2, rdl, rky, rcd, rno, rsw, Value.category, List.filter, List.take, List.drop, List.reverse, List.reverseAux, List.cons_append, List.nil_append, Option.toList, Int.toNat, Int.reduceToNat, if_pos, if_neg, reduceIte, ↓reduceIte, Nat.reduceAdd, Nat.reduceEqDiff, Nat.reduceBEq, beq_self_eq_true, Bool.not_true, Bool.not_false, Bool.and_true, Bool.and_false, Bool.true_and, Bool.false_and, gI_sI, gI_sL, gI_sA, gI_sM, gL_sI, gL_sL, gL_sA, gL_sM, aI_sI, aI_sL, aI_sA, aI_sM, aL_sI, aL_sL, aL_sA, aL_sM, oi_1]; try dsimp only
          intro p2
          refine ⟨fun h3 => ?_, fun h3 => ?_⟩
          · exact hW _ 235 [(0, .ref 1000), (1, .int x1), (2, .int x2), (3, .int x3), (4, .int x4), (5, .int x5), (6, .int x6)] _ _ _ (by simp [rdl, rky, Value.category]) ((ih m1 hm1).2.2.2.2.2.2.2.2.2.2.2.2.2.2.2.2.2.2.2.2.2.2.1 x1 x2 x3 x4 x5 x6 _ ((hz.i (by decide)).a (by decide)))
          · exact hW _ 231 [(0, .ref 1000), (1, .int x1), (2, .int x2), (3, .int x3), (4, .int x4), (5, .int x5), (6, .int x6)] _ _ _ (by simp [rdl, rky, Value.category]) ((ih m1 hm1).2.2.2.2.2.2.2.2.2.2.2.2.2.2.2.2.2.2.2.2.2.1 x1 x2 x3 x4 x5 x6 _ ((hz.i (by decide)).a (by decide)))
        · intro x1 x2 x3 x4 x5 x6 Y hz
          refine hB _ _ _ _ _ (fun m1 hm1 => ?_)
          dsimp only [ugo, uwp, ust, uct, rfd, Breduce, Breduce_231, Nat.beq, lv_args, rlk, rs1, rs2, rdl, rky, rcd, rno, rsw, Value.category, List.filter, List.take, List.drop, List.reverse, List.reverseAux, List.cons_append, List.nil_append, Option.toList, Int.toNat, Int.reduceToNat, if_pos, if_neg, reduceIte, ↓reduceIte, Nat.reduceAdd, Nat.reduceEqDiff, Nat.reduceBEq, beq_self_eq_true, Bool.not_true, Bool.not_false, Bool.and_true, Bool.and_false, Bool.true_and, Bool.false_and, gI_sI, gI_sL, gI_sA, gI_sM, gL_sI, gL_sL, gL_sA, gL_sM, aI_sI, aI_sL, aI_sA, aI_sM, aL_sI, aL_sL, aL_sA, aL_sM, oi_5]; try dsimp only
          exact hW _ 237 [(0, .ref 1000), (1, .int x1), (2, .int x2), (3, .int x3), (4, .int x4), (5, .int x5), (6, .int x6)] _ _ _ (by simp [rdl, rky, Value.category]) ((ih m1 hm1).2.2.2.2.2.2.2.2.2.2.2.2.2.2.2.2.2.2.2.2.2.2.2.1 x1 x2 x3 x4 x5 x6 5 _ hz)
        · intro x1 x2 x3 x4 x5 x6 Y hz
          refine hB _ _ _ _ _ (fun m1 hm1 => ?_)
          dsimp only [ugo, uwp, ust, uct, rfd, Breduce, Breduce_235, Nat.beq, lv_args, rlk, rs1, rs2, rdl, rky, rcd, rno, rsw, Value.category, List.filter, List.take, List.drop, List.reverse, List.reverseAux, List.cons_append, List.nil_append, Option.toList, Int.toNat, Int.reduceToNat, if_pos, if_neg, reduceIte, ↓reduceIte, Nat.reduceAdd, Nat.reduceEqDiff, Nat.reduceBEq, beq_self_eq_true, Bool.not_true, Bool.not_false, Bool.and_true, Bool.and_false, Bool.true_and, Bool.false_and, gI_sI, gI_sL, gI_sA, gI_sM, gL_sI, gL_sL, gL_sA, gL_sM, aI_sI, aI_sL, aI_sA, aI_sM, aL_sI, aL_sL, aL_sA, aL_sM, oi_6]; try dsimp only
          exact hW _ 237 [(0, .ref 1000), (1, .int x1), (2, .int x2), (3, .int x3), (4, .int x4), (5, .int x5), (6, .int x6)] _ _ _ (by simp [rdl, rky, Value.category]) ((ih m1 hm1).2.2.2.2.2.2.2.2.2.2.2.2.2.2.2.2.2.2.2.2.2.2.2.1 x1 x2 x3 x4 x5 x6 6 _ hz)
        · intro x1 x2 x3 x4 x5 x6 s0 Y hz
          refine hB _ _ _ _ _ (fun m1 hm1 => ?_)
          dsimp only [ugo, uwp, ust, uct, rfd, Breduce, Breduce_237, Nat.beq, lv_args, rlk, rs1, rs2, rdl, rky, rcd, rno, rsw, Value.category, List.filter, List.take, List.drop, List.reverse, List.reverseAux, List.cons_append, List.nil_append, Option.toList, Int.toNat, Int.reduceToNat, if_pos, if_neg, reduceIte, ↓reduceIte, Nat.reduceAdd, Nat.reduceEqDiff, Nat.reduceBEq, beq_self_eq_true, Bool.not_true, Bool.not_false, Bool.and_true, Bool.and_false, Bool.true_and, Bool.false_and, gI_sI, gI_sL, gI_sA, gI_sM, gL_sI, gL_sL, gL_sA, gL_sM, aI_sI, aI_sL, aI_sA, aI_sM, aL_sI, aL_sL, aL_sA, aL_sM]; try dsimp only
          refine ⟨trivial, fun w2 τ2 hq2 => ?_⟩
          obtain ⟨⟨r2, rfl⟩, hz2⟩ := hq2 c hz
          dsimp only [Option.toList, List.cons_append, List.nil_append, Nat.beq, gI_sI, gI_sL, gI_sA, gI_sM, gL_sI, gL_sL, gL_sA, gL_sM, aI_sI, aI_sL, aI_sA, aI_sM, aL_sI, aL_sL, aL_sA, aL_sM]
          exact hW _ 253 [(0, .ref 1000), (1, .int x1), (2, .int x2), (3, .int x3), (4, .int x4), (5, .int x5), (6, .int x6)] _ _ _ (by simp [rdl, rky, Value.category]) ((ih m1 hm1).2.2.2.2.2.2.2.2.2.2.2.2.2.2.2.2.2.2.2.2.2.2.2.2.1 x1 x2 x3 x4 x5 x6 _ (hz2.i (by decide)))
        · intro x1 x2 x3 x4 x5 x6 Y hz
          refine hB _ _ _ _ _ (fun m1 hm1 => ?_)
          dsimp only [ugo, uwp, ust, uct, rfd, Breduce, Breduce_253, Nat.beq, lv_args, rlk, rs1, rs2, rdl, rky, rcd, rno, rsw, Value.category, List.filter, List.take, List.drop, List.reverse, List.reverseAux, List.cons_append, List.nil_append, Option.toList, Int.toNat, Int.reduceToNat, if_pos, if_neg, reduceIte, ↓reduceIte, Nat.reduceAdd, Nat.reduceEqDiff, Nat.reduceBEq, beq_self_eq_true, Bool.not_true, Bool.not_false, Bool.and_true, Bool.and_false, Bool.true_and, Bool.false_and, gI_sI, gI_sL, gI_sA, gI_sM, gL_sI, gL_sL, gL_sA, gL_sM, aI_sI, aI_sL, aI_sA, aI_sM, aL_sI, aL_sL, aL_sA, aL_sM]; try dsimp only
          refine ⟨fun h2 => ?_, fun h2 => ?_⟩
          · exact hW _ 264 [(0, .ref 1000), (1, .int x1), (2, .int x2), (3, .int x3), (4, .int x4), (5, .int x5), (6, .int x6)] _ _ _ (by simp [rdl, rky, Value.category]) ((ih m1 hm1).2.2.2.2.2.2.2.2.2.2.2.2.2.2.2.2.2.2.2.2.2.2.2.2.2.2.1 x1 x2 x3 x4 x5 x6 _ hz)
          · exact hW _ 260 [(0, .ref 1000), (1, .int x1), (2, .int x2), (3, .int x3), (4, .int x4), (5, .int x5), (6, .int x6)] _ _ _ (by simp [rdl, rky, Value.category]) ((ih m1 hm1).2.2.2.2.2.2.2.2.2.2.2.2.2.2.2.2.2.2.2.2.2.2.2.2.2.1 x1 x2 x3 x4 x5 x6 _ hz)
        · intro x1 x2 x3 x4 x5 x6 Y hz
          refine hB _ _ _ _ _ (fun m1 hm1 => ?_)
          dsimp only [ugo, uwp, ust, uct, rfd, Breduce, Breduce_260, Nat.beq, lv_args, rlk, rs1, rs2, rdl, rky, rcd, rno, rsw, Value.category, List.filter, List.take, List.drop, List.reverse, List.reverseAux, List.cons_append, List.nil_append, Option.toList, Int.toNat, Int.reduceToNat, if_pos, if_neg, reduceIte, ↓reduceIte, Nat.reduceAdd, Nat.reduceEqDiff, Nat.reduceBEq, beq_self_eq_true, Bool.not_true, Bool.not_false, Bool.and_true, Bool.and_false, Bool.true_and, Bool.false_and, gI_sI, gI_sL, gI_sA, gI_sM, gL_sI, gL_sL, gL_sA, gL_sM, aI_sI, aI_sL, aI_sA, aI_sM, aL_sI, aL_sL, aL_sA, aL_sM, oi_1]; try dsimp only
          exact hW _ 265 [(0, .ref 1000), (1, .int x1), (2, .int x2), (3, .int x3), (4, .int x4), (5, .int x5), (6, .int x6)] _ _ _ (by simp [rdl, rky, Value.category]) ((ih m1 hm1).2.2.2.2.2.2.2.2.2.2.2.2.2.2.2.2.2.2.2.2.2.2.2.2.2.2.2.1 x1 x2 x3 x4 x5 x6 1 _ hz)
        · intro x1 x2 x3 x4 x5 x6 Y hz
          refine hB _ _ _ _ _ (fun m1 hm1 => ?_)
          dsimp only [ugo, uwp, ust, uct, rfd, Breduce, Breduce_264, Nat.beq, lv_args, rlk, rs1, rs2, rdl, rky, rcd, rno, rsw, Value.category, List.filter, List.take, List.drop, List.reverse, List.reverseAux, List.cons_append, List.nil_append, Option.toList, Int.toNat, Int.reduceToNat, if_pos, if_neg, reduceIte, ↓reduceIte, Nat.reduceAdd, Nat.reduceEqDiff, Nat.reduceBEq, beq_self_eq_true, Bool.not_true, Bool.not_false, Bool.and_true, Bool.and_false, Bool.true_and, Bool.false_and, gI_sI, gI_sL, gI_sA, gI_sM, gL_sI, gL_sL, gL_sA, gL_sM, aI_sI, aI_sL, aI_sA, aI_sM, aL_sI, aL_sL, aL_sA, aL_sM, oi_0]; try dsimp only
          exact hW _ 265 [(0, .ref 1000), (1, .int x1), (2, .int x2), (3, .int x3), (4, .int x4), (5, .int x5), (6, .int x6)] _ _ _ (by simp [rdl, rky, Value.category]) ((ih m1 hm1).2.2.2.2.2.2.2.2.2.2.2.2.2.2.2.2.2.2.2.2.2.2.2.2.2.2.2.1 x1 x2 x3 x4 x5 x6 0 _ hz)
        · intro x1 x2 x3 x4 x5 x6 s0 Y hz
          refine hB _ _ _ _ _ (fun m1 hm1 => ?_)
          dsimp only [ugo, uwp, ust, uct, rfd, Breduce, Breduce_265, Nat.beq, lv_args, rlk, rs1, rs2, rdl, rky, rcd, rno, rsw, Value.category, List.filter, List.take, List.drop, List.reverse, List.reverseAux, List.cons_append, List.nil_append, Option.toList, Int.toNat, Int.reduceToNat, if_pos, if_neg, reduceIte, ↓reduceIte, Nat.reduceAdd, Nat.reduceEqDiff, Nat.reduceBEq, beq_self_eq_true, Bool.not_true, Bool.not_false, Bool.and_true, Bool.and_false, Bool.true_and, Bool.false_and, gI_sI, gI_sL, gI_sA, gI_sM, gL_sI, gL_sL, gL_sA, gL_sM, aI_sI, aI_sL, aI_sA, aI_sM, aL_sI, aL_sL, aL_sA, aL_sM]; try dsimp only
          exact hW _ 13 [(0, .ref 1000), (1, .int x1), (2, .int s0)] _ _ _ (by simp [rdl, rky, Value.category]) ((ih m1 hm1).2.2.2.2.1 x1 s0 _ hz)
        · intro x1 x2 Y hz
          refine hB _ _ _ _ _ (fun m1 hm1 => ?_)
          dsimp only [ugo, uwp, ust, uct, rfd, Breduce, Breduce_269, Nat.beq, lv_args, rlk, rs1, rs2, rdl, rky, rcd, rno, rsw, Value.category, List.filter, List.take, List.drop, List.reverse, List.reverseAux, List.cons_append, List.nil_append, Option.toList, Int.toNat, Int.reduceToNat, if_pos, if_neg, reduceIte, ↓reduceIte, Nat.reduceAdd, Nat.reduceEqDiff, Nat.reduceBEq, beq_self_eq_true, Bool.not_true, Bool.not_false, Bool.and_true, Bool.and_false, Bool.true_and, Bool.false_and, gI_sI, gI_sL, gI_sA, gI_sM, gL_sI, gL_sL, gL_sA, gL_sM, aI_sI, aI_sL, aI_sA, aI_sM, aL_sI, aL_sL, aL_sA, aL_sM]; try dsimp only
          unfold Qv_reduceJ4
          try dsimp only
          exact ⟨rfl, hz⟩
    intro n0
    exact (all n0).1 a1 σ hP
  next => exact hP.elim
theorem w_reduceJ4 : UMet 32 (fun _ _ => True) Qw_reduceJ4 := fun A1 σ _ w τ h c hP => v_reduceJ4 c A1 σ hP w τ h
def Pv_completeJ4 (c : RS) : UP1 := fun A1 σ => match A1 with
  | [] => J4 c σ
  | _ => False
def Qv_completeJ4 (c : RS) : UQ1 := fun A1 σ w τ => match A1 with
  | [] => (w = none) ∧ J4 c τ
  | _ => False
def Qw_completeJ4 : UQ1 := fun A1 σ w τ => ∀ (c : RS), Pv_completeJ4 c A1 σ → Qv_completeJ4 c A1 σ w τ
set_option maxRecDepth 100000 in
set_option maxHeartbeats 4000000 in
theorem v_completeJ4 (c : RS) : UMet 33 (Pv_completeJ4 c) (Qv_completeJ4 c) := by
  refine UMet.by Bcomplete [(21, (fun _ _ => True), Qw_emitExpJ4), (32, (fun _ _ => True), Qw_reduceJ4)] rfl (ucc w_emitExpJ4 (ucc w_reduceJ4 uc0)) ?_
  intro A1 σ hP K hB hW
  unfold Pv_completeJ4 at hP
  split at hP
  next =>
    have all : ∀ N : Nat, (∀ (Y : RS), J4 c Y → K N 0 [(0, .ref 1000)] [] Y) ∧ (∀ (Y : RS), J4 c Y → K N 12 [(0, .ref 1000)] [] Y) ∧ (∀ (Y : RS), J4 c Y → K N 16 [(0, .ref 1000)] [] Y) ∧ (∀ (s0 : Int32) (Y : RS), J4 c Y → K N 17 [(0, .ref 1000)] [.int s0] Y) ∧ (∀ (x1 : Int32) (Y : RS), J4 c Y → K N 18 [(0, .ref 1000), (1, .int x1)] [] Y) ∧ (∀ (x1 : Int32) (Y : RS), J4 c Y → K N 22 [(0, .ref 1000), (1, .int x1)] [] Y) ∧ (∀ (x1 : Int32) (x2 : Int32) (Y : RS), J4 c Y → K N 40 [(0, .ref 1000), (1, .int x1), (2, .int x2)] [] Y) ∧ (∀ (x1 : Int32) (x2 : Int32) (Y : RS), J4 c Y → K N 45 [(0, .ref 1000), (1, .int x1), (2, .int x2)] [] Y) ∧ (∀ (x1 : Int32) (x2 : Int32) (Y : RS), J4 c Y → K N 46 [(0, .ref 1000), (1, .int x1), (2, .int x2)] [] Y) ∧ (∀ (x1 : Int32) (x2 : Int32) (x3 : Int32) (Y : RS), J4 c Y → K N 82 [(0, .ref 1000), (1, .int x1), (2, .int x2), (3, .int x3)] [] Y) ∧ (∀ (x1 : Int32) (x2 : Int32) (x3 : Int32) (Y : RS), J4 c Y → K N 160 [(0, .ref 1000), (1, .int x1), (2, .int x2), (3, .int x3)] [] Y) ∧ (∀ (x1 : Int32) (x2 : Int32) (x3 : Int32) (Y : RS), J4 c Y → K N 217 [(0, .ref 1000), (1, .int x1), (2, .int x2), (3, .int x3)] [] Y) ∧ (∀ (x1 : Int32) (x2 : Int32) (x3 : Int32) (Y : RS), J4 c Y → K N 229 [(0, .ref 1000), (1, .int x1), (2, .int x2), (3, .int x3)] [] Y) ∧ (∀ (x1 : Int32) (x2 : Int32) (x3 : Int32) (Y : RS), J4 c Y → K N 233 [(0, .ref 1000), (1, .int x1), (2, .int x2), (3, .int x3)] [] Y) ∧ (∀ (x1 : Int32) (x2 : Int32) (x3 : Int32) (s0 : Int32) (Y : RS), J4 c Y → K N 234 [(0, .ref 1000), (1, .int x1), (2, .int x2), (3, .int x3)] [.int s0] Y) ∧ (∀ (x1 : Int32) (Y : RS), J4 c Y → K N 238 [(0, .ref 1000), (1, .int x1)] [] Y) := by
      intro N
      induction N using Nat.strongRecOn with
      | ind N ih =>
        refine ⟨?_, ?_, ?_, ?_, ?_, ?_, ?_, ?_, ?_, ?_, ?_, ?_, ?_, ?_, ?_, ?_⟩
        · intro Y hz
          refine hB _ _ _ _ _ (fun m1 hm1 => ?_)
          dsimp only [ugo, uwp, ust, uct, rfd, Bcomplete, Bcomplete_0, Nat.beq, lv_args, rlk, rs1, rs2, rdl, rky, rcd, rno, rsw, Value.category, List.filter, List.take, List.drop, List.reverse, List.reverseAux, List.cons_append, List.nil_append, Option.toList, Int.toNat, Int.reduceToNat, if_pos, if_neg, reduceIte, ↓reduceIte, Nat.reduceAdd, Nat.reduceEqDiff, Nat.reduceBEq, beq_self_eq_true, Bool.not_true, Bool.not_false, Bool.and_true, Bool.and_false, Bool.true_and, Bool.false_and, gI_sI, gI_sL, gI_sA, gI_sM, gL_sI, gL_sL, gL_sA, gL_sM, aI_sI, aI_sL, aI_sA, aI_sM, aL_sI, aL_sL, aL_sA, aL_sM, oi_1]; try dsimp only
          refine ⟨trivial, fun w2 τ2 hq2 => ?_⟩
          obtain ⟨rfl, hz2⟩ := hq2 c hz
          dsimp only [Option.toList, List.cons_append, List.nil_append, Nat.beq, gI_sI, gI_sL, gI_sA, gI_sM, gL_sI, gL_sL, gL_sA, gL_sM, aI_sI, aI_sL, aI_sA, aI_sM, aL_sI, aL_sL, aL_sA, aL_sM]
          refine ⟨fun h3 => ?_, fun h3 => ?_⟩
          · exact hW _ 16 [(0, .ref 1000)] _ _ _ (by simp [rdl, rky, Value.category]) ((ih m1 hm1).2.2.1  _ hz2)
          · exact hW _ 12 [(0, .ref 1000)] _ _ _ (by simp [rdl, rky, Value.category]) ((ih m1 hm1).2.1  _ hz2)
        · intro Y hz
          refine hB _ _ _ _ _ (fun m1 hm1 => ?_)
          dsimp only [ugo, uwp, ust, uct, rfd, Bcomplete, Bcomplete_12, Nat.beq, lv_args, rlk, rs1, rs2, rdl, rky, rcd, rno, rsw, Value.category, List.filter, List.take, List.drop, List.reverse, List.reverseAux, List.cons_append, List.nil_append, Option.toList, Int.toNat, Int.reduceToNat, if_pos, if_neg, reduceIte, ↓reduceIte, Nat.reduceAdd, Nat.reduceEqDiff, Nat.reduceBEq, beq_self_eq_true, Bool.not_true, Bool.not_false, Bool.and_true, Bool.and_false, Bool.true_and, Bool.false_and, gI_sI, gI_sL, gI_sA, gI_sM, gL_sI, gL_sL, gL_sA, gL_sM, aI_sI, aI_sL, aI_sA, aI_sM, aL_sI, aL_sL, aL_sA, aL_sM, oi_1]; try dsimp only
          exact hW _ 17 [(0, .ref 1000)] _ _ _ (by simp [rdl, rky, Value.category]) ((ih m1 hm1).2.2.2.1 1 _ hz)
        · intro Y hz
          refine hB _ _ _ _ _ (fun m1 hm1 => ?_)
          dsimp only [ugo, uwp, ust, uct, rfd, Bcomplete, Bcomplete_16, Nat.beq, lv_args, rlk, rs1, rs2, rdl, rky, rcd, rno, rsw, Value.category, List.filter, List.take, List.drop, List.reverse, List.reverseAux, List.cons_append, List.nil_append, Option.toList, Int.toNat, Int.reduceToNat, if_pos, if_neg, reduceIte, ↓reduceIte, Nat.reduceAdd, Nat.reduceEqDiff, Nat.reduceBEq, beq_self_eq_true, Bool.not_true, Bool.not_false, Bool.and_true, Bool.and_false, Bool.true_and, Bool.false_and, gI_sI, gI_sL, gI_sA, gI_sM, gL_sI, gL_sL, gL_sA, gL_sM, aI_sI, aI_sL, aI_sA, aI_sM, aL_sI, aL_sL, aL_sA, aL_sM, oi_0]; try dsimp only
          exact hW _ 17 [(0, .ref 1000)] _ _ _ (by simp [rdl, rky, Value.category]) ((ih m1 hm1).2.2.2.1 0 _ hz)
        · intro s0 Y hz
          refine hB _ _ _ _ _ (fun m1 hm1 => ?_)
          dsimp only [ugo, uwp, ust, uct, rfd, Bcomplete, Bcomplete_17, Nat.beq, lv_args, rlk, rs1, rs2, rdl, rky, rcd, rno, rsw, Value.category, List.filter, List.take, List.drop, List.reverse, List.reverseAux, List.cons_append, List.nil_append, Option.toList, Int.toNat, Int.reduceToNat, if_pos, if_neg, reduceIte, ↓reduceIte, Nat.reduceAdd, Nat.reduceEqDiff, Nat.reduceBEq, beq_self_eq_true, Bool.not_true, Bool.not_false, Bool.and_true, Bool.and_false, Bool.true_and, Bool.false_and, gI_sI, gI_sL, gI_sA, gI_sM, gL_sI, gL_sL, gL_sA, gL_sM, aI_sI, aI_sL, aI_sA, aI_sM, aL_sI, aL_sL, aL_sA, aL_sM]; try dsimp only
          exact hW _ 18 [(0, .ref 1000), (1, .int s0)] _ _ _ (by simp [rdl, rky, Value.category]) ((ih m1 hm1).2.2.2.2.1 s0 _ hz)
        · intro x1 Y hz
          refine hB _ _ _ _ _ (fun m1 hm1 => ?_)
          dsimp only [ugo, uwp, ust, uct, rfd, Bcomplete, Bcomplete_18, Nat.beq, lv_args, rlk, rs1, rs2, rdl, rky, rcd, rno, rsw, Value.category, List.filter, List.take, List.drop, List.reverse, List.reverseAux, List.cons_append, List.nil_append, Option.toList, Int.toNat, Int.reduceToNat, if_pos, if_neg, reduceIte, ↓reduceIte, Nat.reduceAdd, Nat.reduceEqDiff, Nat.reduceBEq, beq_self_eq_true, Bool.not_true, Bool.not_false, Bool.and_true, Bool.and_false, Bool.true_and, Bool.false_and, gI_sI, gI_sL, gI_sA, gI_sM, gL_sI, gL_sL, gL_sA, gL_sM, aI_sI, aI_sL, aI_sA, aI_sM, aL_sI, aL_sL, aL_sA, aL_sM]; try dsimp only
          refine ⟨fun h2 => ?_, fun h2 => ?_⟩
          · exact hW _ 238 [(0, .ref 1000), (1, .int x1)] _ _ _ (by simp [rdl, rky, Value.category]) ((ih m1 hm1).2.2.2.2.2.2.2.2.2.2.2.2.2.2.2 x1 _ hz)
          · exact hW _ 22 [(0, .ref 1000), (1, .int x1)] _ _ _ (by simp [rdl, rky, Value.category]) ((ih m1 hm1).2.2.2.2.2.1 x1 _ hz)
        · intro x1 Y hz
          refine hB _ _ _ _ _ (fun m1 hm1 => ?_)
          dsimp only [ugo, uwp, ust, uct, rfd, Bcomplete, Bcomplete_22, Nat.beq, lv_args, rlk, rs1, rs2, rdl, rky, rcd, rno, rsw, Value.category, List.filter, List.take, List.drop, List.reverse, List.reverseAux, List.cons_append, List.nil_append, Option.toList, Int.toNat, Int.reduceToNat, if_pos, if_neg, reduceIte, ↓reduceIte, Nat.reduceAdd, Nat.reduceEqDiff, Nat.reduceBEq, beq_self_eq_true, Bool.not_true, Bool.not_false, Bool.and_true, Bool.and_false, Bool.true_and, Bool.false_and, gI_sI, gI_sL, gI_sA, gI_sM, gL_sI, gL_sL, gL_sA, gL_sM, aI_sI, aI_sL, aI_sA, aI_sM, aL_sI, aL_sL, aL_sA, aL_sM, oi_1, oi_7]; try dsimp only
          intro p2
          refine ⟨fun h3 => ?_, fun h3 => ?_⟩
          · exact hW _ 46 [(0, .ref 1000), (1, .int x1), (2, .int ((aI Y 25) (((gI Y 29) - 1)).toNatClampNeg))] _ _ _ (by simp [rdl, rky, Value.category]) ((ih m1 hm1).2.2.2.2.2.2.2.2.1 x1 ((aI Y 25) (((gI Y 29) - 1)).toNatClampNeg) _ hz)
          · exact hW _ 40 [(0, .ref 1000), (1, .int x1), (2, .int ((aI Y 25) (((gI Y 29) - 1)).toNatClampNeg))] _ _ _ (by simp [rdl, rky, Value.category]) ((ih m1 hm1).2.2.2.2.2.2.1 x1 ((aI Y 25) (((gI Y 29) - 1)).toNatClampNeg) _ hz)
        · intro x1 x2 Y hz
          refine hB _ _ _ _ _ (fun m1 hm1 => ?_)
          dsimp only [ugo, uwp, ust, uct, rfd, Bcomplete, Bcomplete_40, Nat.beq, lv_args, rlk, rs1, rs2, rdl, rky, rcd, rno, rsw, Value.category, List.filter, List.take, List.drop, List.reverse, List.reverseAux, List.cons_append, List.nil_append, Option.toList, Int.toNat, Int.reduceToNat, if_pos, if_neg, reduceIte, ↓reduceIte, Nat.reduceAdd, Nat.reduceEqDiff, Nat.reduceBEq, beq_self_eq_true, Bool.not_true, Bool.not_false, Bool.and_true, Bool.and_false, Bool.true_and, Bool.false_and, gI_sI, gI_sL, gI_sA, gI_sM, gL_sI, gL_sL, gL_sA, gL_sM, aI_sI, aI_sL, aI_sA, aI_sM, aL_sI, aL_sL, aL_sA, aL_sM, oi_5]; try dsimp only
          refine ⟨fun h2 => ?_, fun h2 => ?_⟩
          · exact hW _ 46 [(0, .ref 1000), (1, .int x1), (2, .int x2)] _ _ _ (by simp [rdl, rky, Value.category]) ((ih m1 hm1).2.2.2.2.2.2.2.2.1 x1 x2 _ hz)
          · exact hW _ 45 [(0, .ref 1000), (1, .int x1), (2, .int x2)] _ _ _ (by simp [rdl, rky, Value.category]) ((ih m1 hm1).2.2.2.2.2.2.2.1 x1 x2 _ hz)
        · intro x1 x2 Y hz
          refine hB _ _ _ _ _ (fun m1 hm1 => ?_)
          dsimp only [ugo, uwp, ust, uct, rfd, Bcomplete, Bcomplete_45, Nat.beq, lv_args, rlk, rs1, rs2, rdl, rky, rcd, rno, rsw, Value.category, List.filter, List.take, List.drop, List.reverse, List.reverseAux, List.cons_append, List.nil_append, Option.toList, Int.toNat, Int.reduceToNat, if_pos, if_neg, reduceIte, ↓reduceIte, Nat.reduceAdd, Nat.reduceEqDiff, Nat.reduceBEq, beq_self_eq_true, Bool.not_true, Bool.not_false, Bool.and_true, Bool.and_false, Bool.true_and, Bool.false_and, gI_sI, gI_sL, gI_sA, gI_sM, gL_sI, gL_sL, gL_sA, gL_sM, aI_sI, aI_sL, aI_sA, aI_sM, aL_sI, aL_sL, aL_sA, aL_sM]; try dsimp only
          unfold Qv_completeJ4
          try dsimp only
          exact ⟨rfl, hz⟩
        · intro x1 x2 Y hz
          refine hB _ _ _ _ _ (fun m1 hm1 => ?_)
          dsimp only [ugo, uwp, ust, uct, rfd, Bcomplete, Bcomplete_46, Nat.beq, lv_args, rlk, rs1, rs2, rdl, rky, rcd, rno, rsw, Value.category, List.filter, List.take, List.drop, List.reverse, List.reverseAux, List.cons_append, List.nil_append, Option.toList, Int.toNat, Int.reduceToNat, if_pos, if_neg, reduceIte, ↓reduceIte, Nat.reduceAdd, Nat.reduceEqDiff, Nat.reduceBEq, beq_self_eq_true, Bool.not_true, Bool.not_false, Bool.and_true, Bool.and_false, Bool.true_and, Bool.false_and, gI_sI, gI_sL, gI_sA, gI_sM, gL_sI, gL_sL, gL_sA, gL_sM, aI_sI, aI_sL, aI_sA, aI_sM, aL_sI, aL_sL, aL_sA, aL_sM, oi_1, oi_7]; try dsimp only
          intro p2
          refine ⟨fun h3 => ?_, fun h3 => ?_⟩
          · exact hW _ 160 [(0, .ref 1000), (1, .int x1), (2, .int x2), (3, .int ((aI Y 27) (((gI Y 29) - 1)).toNatClampNeg))] _ _ _ (by simp [rdl, rky, Value.category]) ((ih m1 hm1).2.2.2.2.2.2.2.2.2.2.1 x1 x2 ((aI Y 27) (((gI Y 29) - 1)).toNatClampNeg) _ ((hz.i (by decide)).i (by decide)))
          · exact hW _ 82 [(0, .ref 1000), (1, .int x1), (2, .int x2), (3, .int ((aI Y 27) (((gI Y 29) - 1)).toNatClampNeg))] _ _ _ (by simp [rdl, rky, Value.category]) ((ih m1 hm1).2.2.2.2.2.2.2.2.2.1 x1 x2 ((aI Y 27) (((gI Y 29) - 1)).toNatClampNeg) _ ((hz.i (by decide)).i (by decide)))
        · intro x1 x2 x3 Y hz
          refine hB _ _ _ _ _ (fun m1 hm1 => ?_)
          dsimp only [ugo, uwp, ust, uct, rfd, Bcomplete, Bcomplete_82, Nat.beq, lv_args, rlk, rs1, rs2, rdl, rky, rcd, rno, rsw, Value.category, List.filter, List.take, List.drop, List.reverse, List.reverseAux, List.cons_append, List.nil_append, Option.toList, Int.toNat, Int.reduceToNat, if_pos, if_neg, reduceIte, ↓reduceIte, Nat.reduceAdd, Nat.reduceEqDiff, Nat.reduceBEq, beq_self_eq_true, Bool.not_true, Bool.not_false, Bool.and_true, Bool.and_false, Bool.true_and, Bool.false_and, gI_sI, gI_sL, gI_sA, gI_sM, gL_sI, gL_sL, gL_sA, gL_sM, aI_sI, aI_sL, aI_sA, aI_sM, aL_sI, aL_sL, aL_sA, aL_sM, oi_0, oi_1, oi_14, oi_2]; try dsimp only
          intro p2
          refine ⟨trivial, fun w3 τ3 hq3 => ?_⟩
          obtain ⟨⟨r3, rfl⟩, hz3⟩ := hq3 c (hz.i (by decide))
          dsimp only [Option.toList, List.cons_append, List.nil_append, Nat.beq, gI_sI, gI_sL, gI_sA, gI_sM, gL_sI, gL_sL, gL_sA, gL_sM, aI_sI, aI_sL, aI_sA, aI_sM, aL_sI, aL_sL, aL_sA, aL_sM]
          intro p4
          intro p5
          intro p6
          intro p7
          exact hW _ 217 [(0, .ref 1000), (1, .int x1), (2, .int x2), (3, .int x3)] _ _ _ (by simp [rdl, rky, Value.category]) ((ih m1 hm1).2.2.2.2.2.2.2.2.2.2.2.1 x1 x2 x3 _ (((hz3.i (by decide)).a (by decide)).a (by decide)))
        · intro x1 x2 x3 Y hz
          refine hB _ _ _ _ _ (fun m1 hm1 => ?_)
          dsimp only [ugo, uwp, ust, uct, rfd, Bcomplete, Bcomplete_160, Nat.beq, lv_args, rlk, rs1, rs2, rdl, rky, rcd, rno, rsw, Value.category, List.filter, List.take, List.drop, List.reverse, List.reverseAux, List.cons_append, List.nil_append, Option.toList, Int.toNat, Int.reduceToNat, if_pos, if_neg, reduceIte, ↓reduceIte, Nat.reduceAdd, Nat.reduceEqDiff, Nat.reduceBEq, beq_self_eq_true, Bool.not_true, Bool.not_false, Bool.and_true, Bool.and_false, Bool.true_and, Bool.false_and, gI_sI, gI_sL, gI_sA, gI_sM, gL_sI, gL_sL, gL_sA, gL_sM, aI_sI, aI_sL, aI_sA, aI_sM, aL_sI, aL_sL, aL_sA, aL_sM, oi_1, oi_17]; try dsimp only
          intro p2
          refine ⟨trivial, fun w3 τ3 hq3 => ?_⟩
          obtain ⟨⟨r3, rfl⟩, hz3⟩ := hq3 c hz
          dsimp only [Option.toList, List.cons_append, List.nil_append, Nat.beq, gI_sI, gI_sL, gI_sA, gI_sM, gL_sI, gL_sL, gL_sA, gL_sM, aI_sI, aI_sL, aI_sA, aI_sM, aL_sI, aL_sL, aL_sA, aL_sM]
          intro p4
          intro p5
          intro p6
          exact hW _ 217 [(0, .ref 1000), (1, .int x1), (2, .int x2), (3, .int x3)] _ _ _ (by simp [rdl, rky, Value.category]) ((ih m1 hm1).2.2.2.2.2.2.2.2.2.2.2.1 x1 x2 x3 _ (((hz3.i (by decide)).a (by decide)).a (by decide)))
        · intro x1 x2 x3 Y hz
          refine hB _ _ _ _ _ (fun m1 hm1 => ?_)
          dsimp only [ugo, uwp, ust, uct, rfd, Bcomplete, Bcomplete_217, Nat.beq, lv_args, rlk, rs1, rs2, rdl, rky, rcd, rno, rsw, Value.category, List.filter, List.take, List.drop, List.reverse, List.reverseAux, List.cons_append, List.nil_append, Option.toList, Int.toNat, Int.reduceToNat, if_pos, if_neg, reduceIte, ↓reduceIte, Nat.reduceAdd, Nat.reduceEqDiff, Nat.reduceBEq, beq_self_eq_true, Bool.not_true, Bool.not_false, Bool.and_true, Bool.and_false, Bool.true_and, Bool.false_and, gI_sI, gI_sL, gI_sA, gI_sM, gL_sI, gL_sL, gL_sA, gL_sM, aI_sI, aI_sL, aI_sA, aI_sM, aL_sI, aL_sL, aL_sA, aL_sM, oi_1]; try dsimp only
          refine ⟨trivial, fun w2 τ2 hq2 => ?_⟩
          obtain ⟨rfl, hz2⟩ := hq2 c hz
          dsimp only [Option.toList, List.cons_append, List.nil_append, Nat.beq, gI_sI, gI_sL, gI_sA, gI_sM, gL_sI, gL_sL, gL_sA, gL_sM, aI_sI, aI_sL, aI_sA, aI_sM, aL_sI, aL_sL, aL_sA, aL_sM]
          refine ⟨fun h3 => ?_, fun h3 => ?_⟩
          · exact hW _ 233 [(0, .ref 1000), (1, .int x1), (2, .int x2), (3, .int x3)] _ _ _ (by simp [rdl, rky, Value.category]) ((ih m1 hm1).2.2.2.2.2.2.2.2.2.2.2.2.2.1 x1 x2 x3 _ hz2)
          · exact hW _ 229 [(0, .ref 1000), (1, .int x1), (2, .int x2), (3, .int x3)] _ _ _ (by simp [rdl, rky, Value.category]) ((ih m1 hm1).2.2.2.2.2.2.2.2.2.2.2.2.1 x1 x2 x3 _ hz2)
        · intro x1 x2 x3 Y hz
          refine hB _ _ _ _ _ (fun m1 hm1 => ?_)
          dsimp only [ugo, uwp, ust, uct, rfd, Bcomplete, Bcomplete_229, Nat.beq, lv_args, rlk, rs1, rs2, rdl, rky, rcd, rno, rsw, Value.category, List.filter, List.take, List.drop, List.reverse, List.reverseAux, List.cons_append, List.nil_append, Option.toList, Int.toNat, Int.reduceToNat, if_pos, if_neg, reduceIte, ↓reduceIte, Nat.reduceAdd, Nat.reduceEqDiff, Nat.reduceBEq, beq_self_eq_true, Bool.not_true, Bool.not_false, Bool.and_true, Bool.and_false, Bool.true_and, Bool.false_and, gI_sI, gI_sL, gI_sA, gI_sM, gL_sI, gL_sL, gL_sA, gL_sM, aI_sI, aI_sL, aI_sA, aI_sM, aL_sI, aL_sL, aL_sA, aL_sM, oi_1]; try dsimp only
          exact hW _ 234 [(0, .ref 1000), (1, .int x1), (2, .int x2), (3, .int x3)] _ _ _ (by simp [rdl, rky, Value.category]) ((ih m1 hm1).2.2.2.2.2.2.2.2.2.2.2.2.2.2.1 x1 x2 x3 1 _ hz)
        · intro x1 x2 x3 Y hz
          refine hB _ _ _ _ _ (fun m1 hm1 => ?_)
          dsimp only [ugo, uwp, ust, uct, rfd, Bcomplete, Bcomplete_233, Nat.beq, lv_args, rlk, rs1, rs2, rdl, rky, rcd, rno, rsw, Value.category, List.filter, List.take, List.drop, List.reverse, List.reverseAux, List.cons_append, List.nil_append, Option.toList, Int.toNat, Int.reduceToNat, if_pos, if_neg, reduceIte, ↓reduceIte, Nat.reduceAdd, Nat.reduceEqDiff, Nat.reduceBEq, beq_self_eq_true, Bool.not_true, Bool.not_false, Bool.and_true, Bool.and_false, Bool.true_and, Bool.false_and, gI_sI, gI_sL, gI_sA, gI_sM, gL_sI, gL_sL, gL_sA, gL_sM, aI_sI, aI_sL, aI_sA, aI_sM, aL_sI, aL_sL, aL_sA, aL_sM, oi_0]; try dsimp only
          exact hW _ 234 [(0, .ref 1000), (1, .int x1), (2, .int x2), (3, .int x3)] _ _ _ (by simp [rdl, rky, Value.category]) ((ih m1 hm1).2.2.2.2.2.2.2.2.2.2.2.2.2.2.1 x1 x2 x3 0 _ hz)
        · intro x1 x2 x3 s0 Y hz
          refine hB _ _ _ _ _ (fun m1 hm1 => ?_)
          dsimp only [ugo, uwp, ust, uct, rfd, Bcomplete, Bcomplete_234, Nat.beq, lv_args, rlk, rs1, rs2, rdl, rky, rcd, rno, rsw, Value.category, List.filter, List.take, List.drop, List.reverse, List.reverseAux, List.cons_append, List.nil_append, Option.toList, Int.toNat, Int.reduceToNat, if_pos, if_neg, reduceIte, ↓reduceIte, Nat.reduceAdd, Nat.reduceEqDiff, Nat.reduceBEq, beq_self_eq_true, Bool.not_true, Bool.not_false, Bool.and_true, Bool.and_false, Bool.true_and, Bool.false_and, gI_sI, gI_sL, gI_sA, gI_sM, gL_sI, gL_sL, gL_sA, gL_sM, aI_sI, aI_sL, aI_sA, aI_sM, aL_sI, aL_sL, aL_sA, aL_sM]; try dsimp only
          exact hW _ 18 [(0, .ref 1000), (1, .int s0)] _ _ _ (by simp [rdl, rky, Value.category]) ((ih m1 hm1).2.2.2.2.1 s0 _ hz)
        · intro x1 Y hz
          refine hB _ _ _ _ _ (fun m1 hm1 => ?_)
          dsimp only [ugo, uwp, ust, uct, rfd, Bcomplete, Bcomplete_238, Nat.beq, lv_args, rlk, rs1, rs2, rdl, rky, rcd, rno, rsw, Value.category, List.filter, List.take, List.drop, List.reverse, List.reverseAux, List.cons_append, List.nil_append, Option.toList, Int.toNat, Int.reduceToNat, if_pos, if_neg, reduceIte, ↓reduceIte, Nat.reduceAdd, Nat.reduceEqDiff, Nat.reduceBEq, beq_self_eq_true, Bool.not_true, Bool.not_false, Bool.and_true, Bool.and_false, Bool.true_and, Bool.false_and, gI_sI, gI_sL, gI_sA, gI_sM, gL_sI, gL_sL, gL_sA, gL_sM, aI_sI, aI_sL, aI_sA, aI_sM, aL_sI, aL_sL, aL_sA, aL_sM]; try dsimp only
          unfold Qv_completeJ4
          try dsimp only
          exact ⟨rfl, hz⟩
    intro n0
    exact (all n0).1  σ hP
  next => exact hP.elim
theorem w_completeJ4 : UMet 33 (fun _ _ => True) Qw_completeJ4 := fun A1 σ _ w τ h c hP => v_completeJ4 c A1 σ hP w τ h
def Pv_enterJ4 (c : RS) : UP1 := fun A1 σ => match A1 with
  | [] => J4 c σ
  | _ => False
def Qv_enterJ4 (c : RS) : UQ1 := fun A1 σ w τ => match A1 with
  | [] => (∃ r : Int32, w = some (.int r)) ∧ J4 c τ
  | _ => False
def Qw_enterJ4 : UQ1 := fun A1 σ w τ => ∀ (c : RS), Pv_enterJ4 c A1 σ → Qv_enterJ4 c A1 σ w τ
set_option maxRecDepth 100000 in
set_option maxHeartbeats 4000000 in
theorem v_enterJ4 (c : RS) : UMet 19 (Pv_enterJ4 c) (Qv_enterJ4 c) := by
  refine UMet.by Benter [(12, (fun _ _ => True), Qw_wrongJ4)] rfl (ucc w_wrongJ4 uc0) ?_
  intro A1 σ hP K hB hW
  unfold Pv_enterJ4 at hP
  split at hP
  next =>
    have all : ∀ N : Nat, (∀ (Y : RS), J4 c Y → K N 0 [(0, .ref 1000)] [] Y) ∧ (∀ (Y : RS), J4 c Y → K N 19 [(0, .ref 1000)] [] Y) ∧ (∀ (Y : RS), J4 c Y → K N 34 [(0, .ref 1000)] [.ref 1000] Y) ∧ (∀ (Y : RS), J4 c Y → K N 38 [(0, .ref 1000)] [.ref 1000] Y) ∧ (∀ (s0 : Int32) (Y : RS), J4 c Y → K N 39 [(0, .ref 1000)] [.int s0, .ref 1000] Y) ∧ (∀ (Y : RS), J4 c Y → K N 47 [(0, .ref 1000)] [] Y) := by
      intro N
      induction N using Nat.strongRecOn with
      | ind N ih =>
        refine ⟨?_, ?_, ?_, ?_, ?_, ?_⟩
        · intro Y hz
          refine hB _ _ _ _ _ (fun m1 hm1 => ?_)
          dsimp only [ugo, uwp, ust, uct, rfd, Benter, Benter_0, Nat.beq, lv_args, rlk, rs1, rs2, rdl, rky, rcd, rno, rsw, Value.category, List.filter, List.take, List.drop, List.reverse, List.reverseAux, List.cons_append, List.nil_append, Option.toList, Int.toNat, Int.reduceToNat, if_pos, if_neg, reduceIte, ↓reduceIte, Nat.reduceAdd, Nat.reduceEqDiff, Nat.reduceBEq, beq_self_eq_true, Bool.not_true, Bool.not_false, Bool.and_true, Bool.and_false, Bool.true_and, Bool.false_and, gI_sI, gI_sL, gI_sA, gI_sM, gL_sI, gL_sL, gL_sA, gL_sM, aI_sI, aI_sL, aI_sA, aI_sM, aL_sI, aL_sL, aL_sA, aL_sM, oi_1, oi_20]; try dsimp only
          refine ⟨fun h2 => ?_, fun h2 => ?_⟩
          · exact hW _ 47 [(0, .ref 1000)] _ _ _ (by simp [rdl, rky, Value.category]) ((ih m1 hm1).2.2.2.2.2  _ (hz.i (by decide)))
          · exact hW _ 19 [(0, .ref 1000)] _ _ _ (by simp [rdl, rky, Value.category]) ((ih m1 hm1).2.1  _ (hz.i (by decide)))
        · intro Y hz
          refine hB _ _ _ _ _ (fun m1 hm1 => ?_)
          dsimp only [ugo, uwp, ust, uct, rfd, Benter, Benter_19, Nat.beq, lv_args, rlk, rs1, rs2, rdl, rky, rcd, rno, rsw, Value.category, List.filter, List.take, List.drop, List.reverse, List.reverseAux, List.cons_append, List.nil_append, Option.toList, Int.toNat, Int.reduceToNat, if_pos, if_neg, reduceIte, ↓reduceIte, Nat.reduceAdd, Nat.reduceEqDiff, Nat.reduceBEq, beq_self_eq_true, Bool.not_true, Bool.not_false, Bool.and_true, Bool.and_false, Bool.true_and, Bool.false_and, gI_sI, gI_sL, gI_sA, gI_sM, gL_sI, gL_sL, gL_sA, gL_sM, aI_sI, aI_sL, aI_sA, aI_sM, aL_sI, aL_sL, aL_sA, aL_sM, oi_6]; try dsimp only
          intro p2
          refine ⟨fun h3 => ?_, fun h3 => ?_⟩
          · exact hW _ 38 [(0, .ref 1000)] _ _ _ (by simp [rdl, rky, Value.category]) ((ih m1 hm1).2.2.2.1  _ hz)
          · exact hW _ 34 [(0, .ref 1000)] _ _ _ (by simp [rdl, rky, Value.category]) ((ih m1 hm1).2.2.1  _ hz)
        · intro Y hz
          refine hB _ _ _ _ _ (fun m1 hm1 => ?_)
          dsimp only [ugo, uwp, ust, uct, rfd, Benter, Benter_34, Nat.beq, lv_args, rlk, rs1, rs2, rdl, rky, rcd, rno, rsw, Value.category, List.filter, List.take, List.drop, List.reverse, List.reverseAux, List.cons_append, List.nil_append, Option.toList, Int.toNat, Int.reduceToNat, if_pos, if_neg, reduceIte, ↓reduceIte, Nat.reduceAdd, Nat.reduceEqDiff, Nat.reduceBEq, beq_self_eq_true, Bool.not_true, Bool.not_false, Bool.and_true, Bool.and_false, Bool.true_and, Bool.false_and, gI_sI, gI_sL, gI_sA, gI_sM, gL_sI, gL_sL, gL_sA, gL_sM, aI_sI, aI_sL, aI_sA, aI_sM, aL_sI, aL_sL, aL_sA, aL_sM, oi_1]; try dsimp only
          exact hW _ 39 [(0, .ref 1000)] _ _ _ (by simp [rdl, rky, Value.category]) ((ih m1 hm1).2.2.2.2.1 1 _ hz)
        · intro Y hz
          refine hB _ _ _ _ _ (fun m1 hm1 => ?_)
          dsimp only [ugo, uwp, ust, uct, rfd, Benter, Benter_38, Nat.beq, lv_args, rlk, rs1, rs2, rdl, rky, rcd, rno, rsw, Value.category, List.filter, List.take, List.drop, List.reverse, List.reverseAux, List.cons_append, List.nil_append, Option.toList, Int.toNat, Int.reduceToNat, if_pos, if_neg, reduceIte, ↓reduceIte, Nat.reduceAdd, Nat.reduceEqDiff, Nat.reduceBEq, beq_self_eq_true, Bool.not_true, Bool.not_false, Bool.and_true, Bool.and_false, Bool.true_and, Bool.false_and, gI_sI, gI_sL, gI_sA, gI_sM, gL_sI, gL_sL, gL_sA, gL_sM, aI_sI, aI_sL, aI_sA, aI_sM, aL_sI, aL_sL, aL_sA, aL_sM, oi_3]; try dsimp only
          exact hW _ 39 [(0, .ref 1000)] _ _ _ (by simp [rdl, rky, Value.category]) ((ih m1 hm1).2.2.2.2.1 3 _ hz)
        · intro s0 Y hz
          refine hB _ _ _ _ _ (fun m1 hm1 => ?_)
          dsimp only [ugo, uwp, ust, uct, rfd, Benter, Benter_39, Nat.beq, lv_args, rlk, rs1, rs2, rdl, rky, rcd, rno, rsw, Value.category, List.filter, List.take, List.drop, List.reverse, List.reverseAux, List.cons_append, List.nil_append, Option.toList, Int.toNat, Int.reduceToNat, if_pos, if_neg, reduceIte, ↓reduceIte, Nat.reduceAdd, Nat.reduceEqDiff, Nat.reduceBEq, beq_self_eq_true, Bool.not_true, Bool.not_false, Bool.and_true, Bool.and_false, Bool.true_and, Bool.false_and, gI_sI, gI_sL, gI_sA, gI_sM, gL_sI, gL_sL, gL_sA, gL_sM, aI_sI, aI_sL, aI_sA, aI_sM, aL_sI, aL_sL, aL_sA, aL_sM]; try dsimp only
          refine ⟨trivial, fun w2 τ2 hq2 => ?_⟩
          obtain ⟨rfl, hz2⟩ := hq2 c hz
          dsimp only [Option.toList, List.cons_append, List.nil_append, Nat.beq, gI_sI, gI_sL, gI_sA, gI_sM, gL_sI, gL_sL, gL_sA, gL_sM, aI_sI, aI_sL, aI_sA, aI_sM, aL_sI, aL_sL, aL_sA, aL_sM]
          unfold Qv_enterJ4
          try dsimp only
          exact ⟨⟨_, rfl⟩, hz2⟩
        · intro Y hz
          refine hB _ _ _ _ _ (fun m1 hm1 => ?_)
          dsimp only [ugo, uwp, ust, uct, rfd, Benter, Benter_47, Nat.beq, lv_args, rlk, rs1, rs2, rdl, rky, rcd, rno, rsw, Value.category, List.filter, List.take, List.drop, List.reverse, List.reverseAux, List.cons_append, List.nil_append, Option.toList, Int.toNat, Int.reduceToNat, if_pos, if_neg, reduceIte, ↓reduceIte, Nat.reduceAdd, Nat.reduceEqDiff, Nat.reduceBEq, beq_self_eq_true, Bool.not_true, Bool.not_false, Bool.and_true, Bool.and_false, Bool.true_and, Bool.false_and, gI_sI, gI_sL, gI_sA, gI_sM, gL_sI, gL_sL, gL_sA, gL_sM, aI_sI, aI_sL, aI_sA, aI_sM, aL_sI, aL_sL, aL_sA, aL_sM, oi_1]; try dsimp only
          unfold Qv_enterJ4
          try dsimp only
          exact ⟨⟨_, rfl⟩, hz⟩
    intro n0
    exact (all n0).1  σ hP
  next => exact hP.elim
theorem w_enterJ4 : UMet 19 (fun _ _ => True) Qw_enterJ4 := fun A1 σ _ w τ h c hP => v_enterJ4 c A1 σ hP w τ h
def Pv_isSignJ4 (c : RS) : UP1 := fun A1 σ => match A1 with
  | [.int a1] => J4 c σ
  | _ => False
def Qv_isSignJ4 (c : RS) : UQ1 := fun A1 σ w τ => match A1 with
  | [.int a1] => (∃ r : Int32, w = some (.int r)) ∧ J4 c τ
  | _ => False
def Qw_isSignJ4 : UQ1 := fun A1 σ w τ => ∀ (c : RS), Pv_isSignJ4 c A1 σ → Qv_isSignJ4 c A1 σ w τ
set_option maxRecDepth 100000 in
set_option maxHeartbeats 4000000 in
theorem v_isSignJ4 (c : RS) : UMet 14 (Pv_isSignJ4 c) (Qv_isSignJ4 c) := by
  refine UMet.by BisSign [] rfl uc0 ?_
  intro A1 σ hP K hB hW
  unfold Pv_isSignJ4 at hP
  split at hP
  next a1 =>
    have all : ∀ N : Nat, (∀ (x1 : Int32) (Y : RS), J4 c Y → K N 0 [(0, .ref 1000), (1, .int x1)] [] Y) ∧ (∀ (x1 : Int32) (Y : RS), J4 c Y → K N 13 [(0, .ref 1000), (1, .int x1)] [] Y) ∧ (∀ (x1 : Int32) (Y : RS), J4 c Y → K N 26 [(0, .ref 1000), (1, .int x1)] [] Y) ∧ (∀ (x1 : Int32) (Y : RS), J4 c Y → K N 30 [(0, .ref 1000), (1, .int x1)] [] Y) ∧ (∀ (x1 : Int32) (s0 : Int32) (Y : RS), J4 c Y → K N 31 [(0, .ref 1000), (1, .int x1)] [.int s0] Y) := by
      intro N
      induction N using Nat.strongRecOn with
      | ind N ih =>
        refine ⟨?_, ?_, ?_, ?_, ?_⟩
        · intro x1 Y hz
          refine hB _ _ _ _ _ (fun m1 hm1 => ?_)
          dsimp only [ugo, uwp, ust, uct, rfd, BisSign, BisSign_0, Nat.beq, lv_args, rlk, rs1, rs2, rdl, rky, rcd, rno, rsw, Value.category, List.filter, List.take, List.drop, List.reverse, List.reverseAux, List.cons_append, List.nil_append, Option.toList, Int.toNat, Int.reduceToNat, if_pos, if_neg, reduceIte, ↓reduceIte, Nat.reduceAdd, Nat.reduceEqDiff, Nat.reduceBEq, beq_self_eq_true, Bool.not_true, Bool.not_false, Bool.and_true, Bool.and_false, Bool.true_and, Bool.false_and, gI_sI, gI_sL, gI_sA, gI_sM, gL_sI, gL_sL, gL_sA, gL_sM, aI_sI, aI_sL, aI_sA, aI_sM, aL_sI, aL_sL, aL_sA, aL_sM, oi_5]; try dsimp only
          intro p2
          refine ⟨fun h3 => ?_, fun h3 => ?_⟩
          · exact hW _ 30 [(0, .ref 1000), (1, .int x1)] _ _ _ (by simp [rdl, rky, Value.category]) ((ih m1 hm1).2.2.2.1 x1 _ hz)
          · exact hW _ 13 [(0, .ref 1000), (1, .int x1)] _ _ _ (by simp [rdl, rky, Value.category]) ((ih m1 hm1).2.1 x1 _ hz)
        · intro x1 Y hz
          refine hB _ _ _ _ _ (fun m1 hm1 => ?_)
          dsimp only [ugo, uwp, ust, uct, rfd, BisSign, BisSign_13, Nat.beq, lv_args, rlk, rs1, rs2, rdl, rky, rcd, rno, rsw, Value.category, List.filter, List.take, List.drop, List.reverse, List.reverseAux, List.cons_append, List.nil_append, Option.toList, Int.toNat, Int.reduceToNat, if_pos, if_neg, reduceIte, ↓reduceIte, Nat.reduceAdd, Nat.reduceEqDiff, Nat.reduceBEq, beq_self_eq_true, Bool.not_true, Bool.not_false, Bool.and_true, Bool.and_false, Bool.true_and, Bool.false_and, gI_sI, gI_sL, gI_sA, gI_sM, gL_sI, gL_sL, gL_sA, gL_sM, aI_sI, aI_sL, aI_sA, aI_sM, aL_sI, aL_sL, aL_sA, aL_sM]; try dsimp only
          intro p2
          refine ⟨fun h3 => ?_, fun h3 => ?_⟩
          · exact hW _ 30 [(0, .ref 1000), (1, .int x1)] _ _ _ (by simp [rdl, rky, Value.category]) ((ih m1 hm1).2.2.2.1 x1 _ hz)
          · exact hW _ 26 [(0, .ref 1000), (1, .int x1)] _ _ _ (by simp [rdl, rky, Value.category]) ((ih m1 hm1).2.2.1 x1 _ hz)
        · intro x1 Y hz
          refine hB _ _ _ _ _ (fun m1 hm1 => ?_)
          dsimp only [ugo, uwp, ust, uct, rfd, BisSign, BisSign_26, Nat.beq, lv_args, rlk, rs1, rs2, rdl, rky, rcd, rno, rsw, Value.category, List.filter, List.take, List.drop, List.reverse, List.reverseAux, List.cons_append, List.nil_append, Option.toList, Int.toNat, Int.reduceToNat, if_pos, if_neg, reduceIte, ↓reduceIte, Nat.reduceAdd, Nat.reduceEqDiff, Nat.reduceBEq, beq_self_eq_true, Bool.not_true, Bool.not_false, Bool.and_true, Bool.and_false, Bool.true_and, Bool.false_and, gI_sI, gI_sL, gI_sA, gI_sM, gL_sI, gL_sL, gL_sA, gL_sM, aI_sI, aI_sL, aI_sA, aI_sM, aL_sI, aL_sL, aL_sA, aL_sM, oi_1]; try dsimp only
          exact hW _ 31 [(0, .ref 1000), (1, .int x1)] _ _ _ (by simp [rdl, rky, Value.category]) ((ih m1 hm1).2.2.2.2 x1 1 _ hz)
        · intro x1 Y hz
          refine hB _ _ _ _ _ (fun m1 hm1 => ?_)
          dsimp only [ugo, uwp, ust, uct, rfd, BisSign, BisSign_30, Nat.beq, lv_args, rlk, rs1, rs2, rdl, rky, rcd, rno, rsw, Value.category, List.filter, List.take, List.drop, List.reverse, List.reverseAux, List.cons_append, List.nil_append, Option.toList, Int.toNat, Int.reduceToNat, if_pos, if_neg, reduceIte, ↓reduceIte, Nat.reduceAdd, Nat.reduceEqDiff, Nat.reduceBEq, beq_self_eq_true, Bool.not_true, Bool.not_false, Bool.and_true, Bool.and_false, Bool.true_and, Bool.false_and, gI_sI, gI_sL, gI_sA, gI_sM, gL_sI, gL_sL, gL_sA, gL_sM, aI_sI, aI_sL, aI_sA, aI_sM, aL_sI, aL_sL, aL_sA, aL_sM, oi_0]; try dsimp only
          exact hW _ 31 [(0, .ref 1000), (1, .int x1)] _ _ _ (by simp [rdl, rky, Value.category]) ((ih m1 hm1).2.2.2.2 x1 0 _ hz)
        · intro x1 s0 Y hz
          refine hB _ _ _ _ _ (fun m1 hm1 => ?_)
          dsimp only [ugo, uwp, ust, uct, rfd, BisSign, BisSign_31, Nat.beq, lv_args, rlk, rs1, rs2, rdl, rky, rcd, rno, rsw, Value.category, List.filter, List.take, List.drop, List.reverse, List.reverseAux, List.cons_append, List.nil_append, Option.toList, Int.toNat, Int.reduceToNat, if_pos, if_neg, reduceIte, ↓reduceIte, Nat.reduceAdd, Nat.reduceEqDiff, Nat.reduceBEq, beq_self_eq_true, Bool.not_true, Bool.not_false, Bool.and_true, Bool.and_false, Bool.true_and, Bool.false_and, gI_sI, gI_sL, gI_sA, gI_sM, gL_sI, gL_sL, gL_sA, gL_sM, aI_sI, aI_sL, aI_sA, aI_sM, aL_sI, aL_sL, aL_sA, aL_sM]; try dsimp only
          unfold Qv_isSignJ4
          try dsimp only
          exact ⟨⟨_, rfl⟩, hz⟩
    intro n0
    exact (all n0).1 a1 σ hP
  next => exact hP.elim
theorem w_isSignJ4 : UMet 14 (fun _ _ => True) Qw_isSignJ4 := fun A1 σ _ w τ h c hP => v_isSignJ4 c A1 σ hP w τ h
def Pv_pushJ4 (c : RS) : UP1 := fun A1 σ => match A1 with
  | [.int a1, .int a2, .int a3] => J4 c σ
  | _ => False
def Qv_pushJ4 (c : RS) : UQ1 := fun A1 σ w τ => match A1 with
  | [.int a1, .int a2, .int a3] => (∃ r : Int32, w = some (.int r)) ∧ J4 c τ
  | _ => False
def Qw_pushJ4 : UQ1 := fun A1 σ w τ => ∀ (c : RS), Pv_pushJ4 c A1 σ → Qv_pushJ4 c A1 σ w τ
set_option maxRecDepth 100000 in
set_option maxHeartbeats 4000000 in
theorem v_pushJ4 (c : RS) : UMet 25 (Pv_pushJ4 c) (Qv_pushJ4 c) := by
  refine UMet.by Bpush [] rfl uc0 ?_
  intro A1 σ hP K hB hW
  unfold Pv_pushJ4 at hP
  split at hP
  next a1 a2 a3 =>
    have all : ∀ N : Nat, (∀ (x1 : Int32) (x2 : Int32) (x3 : Int32) (Y : RS), J4 c Y → K N 0 [(0, .ref 1000), (1, .int x1), (2, .int x2), (3, .int x3)] [] Y) := by
      intro N
      induction N using Nat.strongRecOn with
      | ind N ih =>
        skip
        · intro x1 x2 x3 Y hz
          refine hB _ _ _ _ _ (fun m1 hm1 => ?_)
          dsimp only [ugo, uwp, ust, uct, rfd, Bpush, Bpush_0, Nat.beq, lv_args, rlk, rs1, rs2, rdl, rky, rcd, rno, rsw, Value.category, List.filter, List.take, List.drop, List.reverse, List.reverseAux, List.cons_append, List.nil_append, Option.toList, Int.toNat, Int.reduceToNat, if_pos, if_neg, reduceIte, ↓reduceIte, Nat.reduceAdd, Nat.reduceEqDiff, Nat.reduceBEq, beq_self_eq_true, Bool.not_true, Bool.not_false, Bool.and_true, Bool.and_false, Bool.true_and, Bool.false_and, gI_sI, gI_sL, gI_sA, gI_sM, gL_sI, gL_sL, gL_sA, gL_sM, aI_sI, aI_sL, aI_sA, aI_sM, aL_sI, aL_sL, aL_sA, aL_sM, oi_0, oi_1]; try dsimp only
          intro p2
          intro p3
          intro p4
          intro p5
          unfold Qv_pushJ4
          try dsimp only
          exact ⟨⟨_, rfl⟩, (((((hz.a (by decide)).a (by decide)).a (by decide)).a (by decide)).i (by decide))⟩
    intro n0
    exact all n0 a1 a2 a3 σ hP
  next => exact hP.elim
theorem w_pushJ4 : UMet 25 (fun _ _ => True) Qw_pushJ4 := fun A1 σ _ w τ h c hP => v_pushJ4 c A1 σ hP w τ h
def Pv_waitJ4 (c : RS) : UP1 := fun A1 σ => match A1 with
  | [.int a1] => J4 c σ
  | _ => False
def Qv_waitJ4 (c : RS) : UQ1 := fun A1 σ w τ => match A1 with
  | [.int a1] => (∃ r : Int32, w = some (.int r)) ∧ J4 c τ
  | _ => False
def Qw_waitJ4 : UQ1 := fun A1 σ w τ => ∀ (c : RS), Pv_waitJ4 c A1 σ → Qv_waitJ4 c A1 σ w τ
set_option maxRecDepth 100000 in
set_option maxHeartbeats 4000000 in
theorem v_waitJ4 (c : RS) : UMet 28 (Pv_waitJ4 c) (Qv_waitJ4 c) := by
  refine UMet.by Bwait [] rfl uc0 ?_
  intro A1 σ hP K hB hW
  unfold Pv_waitJ4 at hP
  split at hP
  next a1 =>
    have all : ∀ N : Nat, (∀ (x1 : Int32) (Y : RS), J4 c Y → K N 0 [(0, .ref 1000), (1, .int x1)] [] Y) := by
      intro N
      induction N using Nat.strongRecOn with
      | ind N ih =>
        skip
        · intro x1 Y hz
          refine hB _ _ _ _ _ (fun m1 hm1 => ?_)
          dsimp only [ugo, uwp, ust, uct, rfd, Bwait, Bwait_0, Nat.beq, lv_args, rlk, rs1, rs2, rdl, rky, rcd, rno, rsw, Value.category, List.filter, List.take, List.drop, List.reverse, List.reverseAux, List.cons_append, List.nil_append, Option.toList, Int.toNat, Int.reduceToNat, if_pos, if_neg, reduceIte, ↓reduceIte, Nat.reduceAdd, Nat.reduceEqDiff, Nat.reduceBEq, beq_self_eq_true, Bool.not_true, Bool.not_false, Bool.and_true, Bool.and_false, Bool.true_and, Bool.false_and, gI_sI, gI_sL, gI_sA, gI_sM, gL_sI, gL_sL, gL_sA, gL_sM, aI_sI, aI_sL, aI_sA, aI_sM, aL_sI, aL_sL, aL_sA, aL_sM, oi_1]; try dsimp only
          unfold Qv_waitJ4
          try dsimp only
          exact ⟨⟨_, rfl⟩, ((hz.i (by decide)).i (by decide))⟩
    intro n0
    exact all n0 a1 σ hP
  next => exact hP.elim
theorem w_waitJ4 : UMet 28 (fun _ _ => True) Qw_waitJ4 := fun A1 σ _ w τ h c hP => v_waitJ4 c A1 σ hP w τ h
def Pv_behindJ4 (c : RS) : UP1 := fun A1 σ => match A1 with
  | [] => J4 c σ
  | _ => False
def Qv_behindJ4 (c : RS) : UQ1 := fun A1 σ w τ => match A1 with
  | [] => (∃ r : Int32, w = some (.int r)) ∧ J4 c τ
  | _ => False
def Qw_behindJ4 : UQ1 := fun A1 σ w τ => ∀ (c : RS), Pv_behindJ4 c A1 σ → Qv_behindJ4 c A1 σ w τ
set_option maxRecDepth 100000 in
set_option maxHeartbeats 4000000 in
theorem v_behindJ4 (c : RS) : UMet 34 (Pv_behindJ4 c) (Qv_behindJ4 c) := by
  refine UMet.by Bbehind [(13, (fun _ _ => True), Qw_cantJ4), (31, (fun _ _ => True), Qw_closeCallJ4), (33, (fun _ _ => True), Qw_completeJ4), (20, (fun _ _ => True), Qw_emitJ4), (21, (fun _ _ => True), Qw_emitExpJ4), (19, (fun _ _ => True), Qw_enterJ4), (14, (fun _ _ => True), Qw_isSignJ4), (25, (fun _ _ => True), Qw_pushJ4), (32, (fun _ _ => True), Qw_reduceJ4), (22, (fun _ _ => True), Qw_strengthJ4), (17, (fun _ _ => True), Qw_takeJ4), (28, (fun _ _ => True), Qw_waitJ4)] rfl (ucc w_cantJ4 (ucc w_closeCallJ4 (ucc w_completeJ4 (ucc w_emitJ4 (ucc w_emitExpJ4 (ucc w_enterJ4 (ucc w_isSignJ4 (ucc w_pushJ4 (ucc w_reduceJ4 (ucc w_strengthJ4 (ucc w_takeJ4 (ucc w_waitJ4 uc0)))))))))))) ?_
  intro A1 σ hP K hB hW
  unfold Pv_behindJ4 at hP
  split at hP
  next =>
    have all : ∀ N : Nat, (∀ (Y : RS), J4 c Y → K N 0 [(0, .ref 1000)] [] Y) ∧ (∀ (x1 : Int32) (Y : RS), J4 c Y → K N 2 [(0, .ref 1000), (1, .int x1)] [] Y) ∧ (∀ (x1 : Int32) (Y : RS), J4 c Y → K N 6 [(0, .ref 1000), (1, .int x1)] [] Y) ∧ (∀ (x1 : Int32) (Y : RS), J4 c Y → K N 21 [(0, .ref 1000), (1, .int x1)] [] Y) ∧ (∀ (x1 : Int32) (Y : RS), J4 c Y → K N 37 [(0, .ref 1000), (1, .int x1)] [] Y) ∧ (∀ (x1 : Int32) (s0 : Int32) (Y : RS), J4 c Y → K N 38 [(0, .ref 1000), (1, .int x1)] [.int s0] Y) ∧ (∀ (x1 : Int32) (x2 : Int32) (Y : RS), J4 c Y → K N 43 [(0, .ref 1000), (1, .int x1), (2, .int x2)] [] Y) ∧ (∀ (x1 : Int32) (x2 : Int32) (x3 : Int32) (x4 : Int32) (Y : RS), J4 c Y → K N 71 [(0, .ref 1000), (1, .int x1), (2, .int x2), (3, .int x3), (4, .int x4)] [] Y) ∧ (∀ (x1 : Int32) (x2 : Int32) (x3 : Int32) (x4 : Int32) (Y : RS), J4 c Y → K N 73 [(0, .ref 1000), (1, .int x1), (2, .int x2), (3, .int x3), (4, .int x4)] [] Y) ∧ (∀ (x1 : Int32) (x2 : Int32) (x3 : Int32) (x4 : Int32) (Y : RS), J4 c Y → K N 80 [(0, .ref 1000), (1, .int x1), (2, .int x2), (3, .int x3), (4, .int x4)] [] Y) ∧ (∀ (x1 : Int32) (x2 : Int32) (x3 : Int32) (x4 : Int32) (Y : RS), J4 c Y → K N 100 [(0, .ref 1000), (1, .int x1), (2, .int x2), (3, .int x3), (4, .int x4)] [] Y) ∧ (∀ (x1 : Int32) (x2 : Int32) (x3 : Int32) (x4 : Int32) (Y : RS), J4 c Y → K N 107 [(0, .ref 1000), (1, .int x1), (2, .int x2), (3, .int x3), (4, .int x4)] [] Y) ∧ (∀ (x1 : Int32) (x2 : Int32) (x3 : Int32) (x4 : Int32) (Y : RS), J4 c Y → K N 127 [(0, .ref 1000), (1, .int x1), (2, .int x2), (3, .int x3), (4, .int x4)] [] Y) ∧ (∀ (x1 : Int32) (x2 : Int32) (Y : RS), J4 c Y → K N 142 [(0, .ref 1000), (1, .int x1), (2, .int x2)] [] Y) ∧ (∀ (x1 : Int32) (x2 : Int32) (Y : RS), J4 c Y → K N 151 [(0, .ref 1000), (1, .int x1), (2, .int x2)] [] Y) ∧ (∀ (x1 : Int32) (x2 : Int32) (x3 : Int32) (Y : RS), J4 c Y → K N 168 [(0, .ref 1000), (1, .int x1), (2, .int x2), (3, .int x3)] [] Y) ∧ (∀ (x1 : Int32) (x2 : Int32) (x3 : Int32) (Y : RS), J4 c Y → K N 175 [(0, .ref 1000), (1, .int x1), (2, .int x2), (3, .int x3)] [] Y) ∧ (∀ (x1 : Int32) (x2 : Int32) (x3 : Int32) (Y : RS), J4 c Y → K N 177 [(0, .ref 1000), (1, .int x1), (2, .int x2), (3, .int x3)] [] Y) ∧ (∀ (x1 : Int32) (x2 : Int32) (Y : RS), J4 c Y → K N 211 [(0, .ref 1000), (1, .int x1), (2, .int x2)] [] Y) ∧ (∀ (x1 : Int32) (x2 : Int32) (Y : RS), J4 c Y → K N 222 [(0, .ref 1000), (1, .int x1), (2, .int x2)] [] Y) ∧ (∀ (x1 : Int32) (x2 : Int32) (Y : RS), J4 c Y → K N 236 [(0, .ref 1000), (1, .int x1), (2, .int x2)] [] Y) ∧ (∀ (x1 : Int32) (x2 : Int32) (s0 : Int32) (Y : RS), J4 c Y → K N 238 [(0, .ref 1000), (1, .int x1), (2, .int x2)] [.int s0] Y) ∧ (∀ (x1 : Int32) (x2 : Int32) (x3 : Int32) (Y : RS), J4 c Y → K N 243 [(0, .ref 1000), (1, .int x1), (2, .int x2), (3, .int x3)] [] Y) ∧ (∀ (x1 : Int32) (x2 : Int32) (x3 : Int32) (Y : RS), J4 c Y → K N 250 [(0, .ref 1000), (1, .int x1), (2, .int x2), (3, .int x3)] [] Y) ∧ (∀ (x1 : Int32) (x2 : Int32) (x3 : Int32) (Y : RS), J4 c Y → K N 256 [(0, .ref 1000), (1, .int x1), (2, .int x2), (3, .int x3)] [] Y) ∧ (∀ (x1 : Int32) (x2 : Int32) (x3 : Int32) (Y : RS), J4 c Y → K N 265 [(0, .ref 1000), (1, .int x1), (2, .int x2), (3, .int x3)] [] Y) ∧ (∀ (x1 : Int32) (x2 : Int32) (x3 : Int32) (x4 : Int32) (Y : RS), J4 c Y → K N 305 [(0, .ref 1000), (1, .int x1), (2, .int x2), (3, .int x3), (4, .int x4)] [] Y) ∧ (∀ (x1 : Int32) (x2 : Int32) (x3 : Int32) (x4 : Int32) (Y : RS), J4 c Y → K N 312 [(0, .ref 1000), (1, .int x1), (2, .int x2), (3, .int x3), (4, .int x4)] [] Y) ∧ (∀ (x1 : Int32) (x2 : Int32) (x3 : Int32) (x4 : Int32) (Y : RS), J4 c Y → K N 314 [(0, .ref 1000), (1, .int x1), (2, .int x2), (3, .int x3), (4, .int x4)] [] Y) ∧ (∀ (x1 : Int32) (x2 : Int32) (x3 : Int32) (Y : RS), J4 c Y → K N 340 [(0, .ref 1000), (1, .int x1), (2, .int x2), (3, .int x3)] [] Y) ∧ (∀ (x1 : Int32) (x2 : Int32) (x3 : Int32) (Y : RS), J4 c Y → K N 345 [(0, .ref 1000), (1, .int x1), (2, .int x2), (3, .int x3)] [] Y) ∧ (∀ (x1 : Int32) (x2 : Int32) (x3 : Int32) (Y : RS), J4 c Y → K N 354 [(0, .ref 1000), (1, .int x1), (2, .int x2), (3, .int x3)] [] Y) ∧ (∀ (x1 : Int32) (x2 : Int32) (x3 : Int32) (Y : RS), J4 c Y → K N 376 [(0, .ref 1000), (1, .int x1), (2, .int x2), (3, .int x3)] [] Y) ∧ (∀ (x1 : Int32) (x2 : Int32) (x3 : Int32) (Y : RS), J4 c Y → K N 378 [(0, .ref 1000), (1, .int x1), (2, .int x2), (3, .int x3)] [] Y) ∧ (∀ (x1 : Int32) (x2 : Int32) (x3 : Int32) (Y : RS), J4 c Y → K N 384 [(0, .ref 1000), (1, .int x1), (2, .int x2), (3, .int x3)] [] Y) ∧ (∀ (x1 : Int32) (x2 : Int32) (x3 : Int32) (Y : RS), J4 c Y → K N 389 [(0, .ref 1000), (1, .int x1), (2, .int x2), (3, .int x3)] [] Y) ∧ (∀ (x1 : Int32) (x2 : Int32) (x3 : Int32) (Y : RS), J4 c Y → K N 398 [(0, .ref 1000), (1, .int x1), (2, .int x2), (3, .int x3)] [] Y) ∧ (∀ (x1 : Int32) (x2 : Int32) (x3 : Int32) (Y : RS), J4 c Y → K N 420 [(0, .ref 1000), (1, .int x1), (2, .int x2), (3, .int x3)] [] Y) ∧ (∀ (x1 : Int32) (x2 : Int32) (x3 : Int32) (Y : RS), J4 c Y → K N 422 [(0, .ref 1000), (1, .int x1), (2, .int x2), (3, .int x3)] [] Y) ∧ (∀ (x1 : Int32) (x2 : Int32) (x3 : Int32) (Y : RS), J4 c Y → K N 427 [(0, .ref 1000), (1, .int x1), (2, .int x2), (3, .int x3)] [] Y) ∧ (∀ (x1 : Int32) (x2 : Int32) (x3 : Int32) (Y : RS), J4 c Y → K N 432 [(0, .ref 1000), (1, .int x1), (2, .int x2), (3, .int x3)] [] Y) ∧ (∀ (x1 : Int32) (x2 : Int32) (x3 : Int32) (Y : RS), J4 c Y → K N 441 [(0, .ref 1000), (1, .int x1), (2, .int x2), (3, .int x3)] [] Y) ∧ (∀ (x1 : Int32) (x2 : Int32) (x3 : Int32) (x4 : Int32) (x5 : Int32) (Y : RS), J4 c Y → K N 475 [(0, .ref 1000), (1, .int x1), (2, .int x2), (3, .int x3), (4, .int x4), (5, .int x5)] [] Y) ∧ (∀ (x1 : Int32) (x2 : Int32) (x3 : Int32) (x4 : Int32) (x5 : Int32) (Y : RS), J4 c Y → K N 477 [(0, .ref 1000), (1, .int x1), (2, .int x2), (3, .int x3), (4, .int x4), (5, .int x5)] [] Y) ∧ (∀ (x1 : Int32) (x2 : Int32) (x3 : Int32) (Y : RS), J4 c Y → K N 528 [(0, .ref 1000), (1, .int x1), (2, .int x2), (3, .int x3)] [] Y) ∧ (∀ (x1 : Int32) (x2 : Int32) (x3 : Int32) (Y : RS), J4 c Y → K N 533 [(0, .ref 1000), (1, .int x1), (2, .int x2), (3, .int x3)] [] Y) ∧ (∀ (x1 : Int32) (Y : RS), J4 c Y → K N 536 [(0, .ref 1000), (1, .int x1)] [] Y) := by
      intro N
      induction N using Nat.strongRecOn with
      | ind N ih =>
        refine ⟨?_, ?_, ?_, ?_, ?_, ?_, ?_, ?_, ?_, ?_, ?_, ?_, ?_, ?_, ?_, ?_, ?_, ?_, ?_, ?_, ?_, ?_, ?_, ?_, ?_, ?_, ?_, ?_, ?_, ?_, ?_, ?_, ?_, ?_, ?_, ?_, ?_, ?_, ?_, ?_, ?_, ?_, ?_, ?_, ?_, ?_, ?_⟩
        · intro Y hz
          refine hB _ _ _ _ _ (fun m1 hm1 => ?_)
          dsimp only [ugo, uwp, ust, uct, rfd, Bbehind, Bbehind_0, Nat.beq, lv_args, rlk, rs1, rs2, rdl, rky, rcd, rno, rsw, Value.category, List.filter, List.take, List.drop, List.reverse, List.reverseAux, List.cons_append, List.nil_append, Option.toList, Int.toNat, Int.reduceToNat, if_pos, if_neg, reduceIte, ↓reduceIte, Nat.reduceAdd, Nat.reduceEqDiff, Nat.reduceBEq, beq_self_eq_true, Bool.not_true, Bool.not_false, Bool.and_true, Bool.and_false, Bool.true_and, Bool.false_and, gI_sI, gI_sL, gI_sA, gI_sM, gL_sI, gL_sL, gL_sA, gL_sM, aI_sI, aI_sL, aI_sA, aI_sM, aL_sI, aL_sL, aL_sA, aL_sM, oi_1]; try dsimp only
          exact hW _ 2 [(0, .ref 1000), (1, .int 1)] _ _ _ (by simp [rdl, rky, Value.category]) ((ih m1 hm1).2.1 1 _ hz)
        · intro x1 Y hz
          refine hB _ _ _ _ _ (fun m1 hm1 => ?_)
          dsimp only [ugo, uwp, ust, uct, rfd, Bbehind, Bbehind_2, Nat.beq, lv_args, rlk, rs1, rs2, rdl, rky, rcd, rno, rsw, Value.category, List.filter, List.take, List.drop, List.reverse, List.reverseAux, List.cons_append, List.nil_append, Option.toList, Int.toNat, Int.reduceToNat, if_pos, if_neg, reduceIte, ↓reduceIte, Nat.reduceAdd, Nat.reduceEqDiff, Nat.reduceBEq, beq_self_eq_true, Bool.not_true, Bool.not_false, Bool.and_true, Bool.and_false, Bool.true_and, Bool.false_and, gI_sI, gI_sL, gI_sA, gI_sM, gL_sI, gL_sL, gL_sA, gL_sM, aI_sI, aI_sL, aI_sA, aI_sM, aL_sI, aL_sL, aL_sA, aL_sM]; try dsimp only
          refine ⟨fun h2 => ?_, fun h2 => ?_⟩
          · exact hW _ 536 [(0, .ref 1000), (1, .int x1)] _ _ _ (by simp [rdl, rky, Value.category]) ((ih m1 hm1).2.2.2.2.2.2.2.2.2.2.2.2.2.2.2.2.2.2.2.2.2.2.2.2.2.2.2.2.2.2.2.2.2.2.2.2.2.2.2.2.2.2.2.2.2.2 x1 _ hz)
          · exact hW _ 6 [(0, .ref 1000), (1, .int x1)] _ _ _ (by simp [rdl, rky, Value.category]) ((ih m1 hm1).2.2.1 x1 _ hz)
        · intro x1 Y hz
          refine hB _ _ _ _ _ (fun m1 hm1 => ?_)
          dsimp only [ugo, uwp, ust, uct, rfd, Bbehind, Bbehind_6, Nat.beq, lv_args, rlk, rs1, rs2, rdl, rky, rcd, rno, rsw, Value.category, List.filter, List.take, List.drop, List.reverse, List.reverseAux, List.cons_append, List.nil_append, Option.toList, Int.toNat, Int.reduceToNat, if_pos, if_neg, reduceIte, ↓reduceIte, Nat.reduceAdd, Nat.reduceEqDiff, Nat.reduceBEq, beq_self_eq_true, Bool.not_true, Bool.not_false, Bool.and_true, Bool.and_false, Bool.true_and, Bool.false_and, gI_sI, gI_sL, gI_sA, gI_sM, gL_sI, gL_sL, gL_sA, gL_sM, aI_sI, aI_sL, aI_sA, aI_sM, aL_sI, aL_sL, aL_sA, aL_sM, oi_0, oi_5]; try dsimp only
          intro p2
          refine ⟨fun h3 => ?_, fun h3 => ?_⟩
          · exact hW _ 37 [(0, .ref 1000), (1, .int 0)] _ _ _ (by simp [rdl, rky, Value.category]) ((ih m1 hm1).2.2.2.2.1 0 _ hz)
          · exact hW _ 21 [(0, .ref 1000), (1, .int 0)] _ _ _ (by simp [rdl, rky, Value.category]) ((ih m1 hm1).2.2.2.1 0 _ hz)
        · intro x1 Y hz
          refine hB _ _ _ _ _ (fun m1 hm1 => ?_)
          dsimp only [ugo, uwp, ust, uct, rfd, Bbehind, Bbehind_21, Nat.beq, lv_args, rlk, rs1, rs2, rdl, rky, rcd, rno, rsw, Value.category, List.filter, List.take, List.drop, List.reverse, List.reverseAux, List.cons_append, List.nil_append, Option.toList, Int.toNat, Int.reduceToNat, if_pos, if_neg, reduceIte, ↓reduceIte, Nat.reduceAdd, Nat.reduceEqDiff, Nat.reduceBEq, beq_self_eq_true, Bool.not_true, Bool.not_false, Bool.and_true, Bool.and_false, Bool.true_and, Bool.false_and, gI_sI, gI_sL, gI_sA, gI_sM, gL_sI, gL_sL, gL_sA, gL_sM, aI_sI, aI_sL, aI_sA, aI_sM, aL_sI, aL_sL, aL_sA, aL_sM]; try dsimp only
          intro p2
          refine ⟨trivial, fun w3 τ3 hq3 => ?_⟩
          obtain ⟨⟨r3, rfl⟩, hz3⟩ := hq3 c hz
          dsimp only [Option.toList, List.cons_append, List.nil_append, Nat.beq, gI_sI, gI_sL, gI_sA, gI_sM, gL_sI, gL_sL, gL_sA, gL_sM, aI_sI, aI_sL, aI_sA, aI_sM, aL_sI, aL_sL, aL_sA, aL_sM]
          exact hW _ 38 [(0, .ref 1000), (1, .int x1)] _ _ _ (by simp [rdl, rky, Value.category]) ((ih m1 hm1).2.2.2.2.2.1 x1 r3 _ hz3)
        · intro x1 Y hz
          refine hB _ _ _ _ _ (fun m1 hm1 => ?_)
          dsimp only [ugo, uwp, ust, uct, rfd, Bbehind, Bbehind_37, Nat.beq, lv_args, rlk, rs1, rs2, rdl, rky, rcd, rno, rsw, Value.category, List.filter, List.take, List.drop, List.reverse, List.reverseAux, List.cons_append, List.nil_append, Option.toList, Int.toNat, Int.reduceToNat, if_pos, if_neg, reduceIte, ↓reduceIte, Nat.reduceAdd, Nat.reduceEqDiff, Nat.reduceBEq, beq_self_eq_true, Bool.not_true, Bool.not_false, Bool.and_true, Bool.and_false, Bool.true_and, Bool.false_and, gI_sI, gI_sL, gI_sA, gI_sM, gL_sI, gL_sL, gL_sA, gL_sM, aI_sI, aI_sL, aI_sA, aI_sM, aL_sI, aL_sL, aL_sA, aL_sM, oi_0]; try dsimp only
          exact hW _ 38 [(0, .ref 1000), (1, .int x1)] _ _ _ (by simp [rdl, rky, Value.category]) ((ih m1 hm1).2.2.2.2.2.1 x1 0 _ hz)
        · intro x1 s0 Y hz
          refine hB _ _ _ _ _ (fun m1 hm1 => ?_)
          dsimp only [ugo, uwp, ust, uct, rfd, Bbehind, Bbehind_38, Nat.beq, lv_args, rlk, rs1, rs2, rdl, rky, rcd, rno, rsw, Value.category, List.filter, List.take, List.drop, List.reverse, List.reverseAux, List.cons_append, List.nil_append, Option.toList, Int.toNat, Int.reduceToNat, if_pos, if_neg, reduceIte, ↓reduceIte, Nat.reduceAdd, Nat.reduceEqDiff, Nat.reduceBEq, beq_self_eq_true, Bool.not_true, Bool.not_false, Bool.and_true, Bool.and_false, Bool.true_and, Bool.false_and, gI_sI, gI_sL, gI_sA, gI_sM, gL_sI, gL_sL, gL_sA, gL_sM, aI_sI, aI_sL, aI_sA, aI_sM, aL_sI, aL_sL, aL_sA, aL_sM]; try dsimp only
          refine ⟨fun h2 => ?_, fun h2 => ?_⟩
          · exact hW _ 142 [(0, .ref 1000), (1, .int x1), (2, .int s0)] _ _ _ (by simp [rdl, rky, Value.category]) ((ih m1 hm1).2.2.2.2.2.2.2.2.2.2.2.2.2.1 x1 s0 _ hz)
          · exact hW _ 43 [(0, .ref 1000), (1, .int x1), (2, .int s0)] _ _ _ (by simp [rdl, rky, Value.category]) ((ih m1 hm1).2.2.2.2.2.2.1 x1 s0 _ hz)
        · intro x1 x2 Y hz
          refine hB _ _ _ _ _ (fun m1 hm1 => ?_)
          dsimp only [ugo, uwp, ust, uct, rfd, Bbehind, Bbehind_43, Nat.beq, lv_args, rlk, rs1, rs2, rdl, rky, rcd, rno, rsw, Value.category, List.filter, List.take, List.drop, List.reverse, List.reverseAux, List.cons_append, List.nil_append, Option.toList, Int.toNat, Int.reduceToNat, if_pos, if_neg, reduceIte, ↓reduceIte, Nat.reduceAdd, Nat.reduceEqDiff, Nat.reduceBEq, beq_self_eq_true, Bool.not_true, Bool.not_false, Bool.and_true, Bool.and_false, Bool.true_and, Bool.false_and, gI_sI, gI_sL, gI_sA, gI_sM, gL_sI, gL_sL, gL_sA, gL_sM, aI_sI, aI_sL, aI_sA, aI_sM, aL_sI, aL_sL, aL_sA, aL_sM]; try dsimp only
          intro p2
          refine ⟨trivial, fun w3 τ3 hq3 => ?_⟩
          obtain ⟨rfl, hz3⟩ := hq3 c hz
          dsimp only [Option.toList, List.cons_append, List.nil_append, Nat.beq, gI_sI, gI_sL, gI_sA, gI_sM, gL_sI, gL_sL, gL_sA, gL_sM, aI_sI, aI_sL, aI_sA, aI_sM, aL_sI, aL_sL, aL_sA, aL_sM]
          refine ⟨trivial, fun w4 τ4 hq4 => ?_⟩
          obtain ⟨⟨r4, rfl⟩, hz4⟩ := hq4 c hz3
          dsimp only [Option.toList, List.cons_append, List.nil_append, Nat.beq, gI_sI, gI_sL, gI_sA, gI_sM, gL_sI, gL_sL, gL_sA, gL_sM, aI_sI, aI_sL, aI_sA, aI_sM, aL_sI, aL_sL, aL_sA, aL_sM]
          refine ⟨fun h5 => ?_, fun h5 => ?_⟩
          · exact hW _ 73 [(0, .ref 1000), (1, .int x1), (2, .int x2), (3, .int ((aI Y 6) ((gI Y 14)).toNatClampNeg)), (4, .int (gI Y 14))] _ _ _ (by simp [rdl, rky, Value.category]) ((ih m1 hm1).2.2.2.2.2.2.2.2.1 x1 x2 ((aI Y 6) ((gI Y 14)).toNatClampNeg) (gI Y 14) _ hz4)
          · exact hW _ 71 [(0, .ref 1000), (1, .int x1), (2, .int x2), (3, .int ((aI Y 6) ((gI Y 14)).toNatClampNeg)), (4, .int (gI Y 14))] _ _ _ (by simp [rdl, rky, Value.category]) ((ih m1 hm1).2.2.2.2.2.2.2.1 x1 x2 ((aI Y 6) ((gI Y 14)).toNatClampNeg) (gI Y 14) _ hz4)
        · intro x1 x2 x3 x4 Y hz
          refine hB _ _ _ _ _ (fun m1 hm1 => ?_)
          dsimp only [ugo, uwp, ust, uct, rfd, Bbehind, Bbehind_71, Nat.beq, lv_args, rlk, rs1, rs2, rdl, rky, rcd, rno, rsw, Value.category, List.filter, List.take, List.drop, List.reverse, List.reverseAux, List.cons_append, List.nil_append, Option.toList, Int.toNat, Int.reduceToNat, if_pos, if_neg, reduceIte, ↓reduceIte, Nat.reduceAdd, Nat.reduceEqDiff, Nat.reduceBEq, beq_self_eq_true, Bool.not_true, Bool.not_false, Bool.and_true, Bool.and_false, Bool.true_and, Bool.false_and, gI_sI, gI_sL, gI_sA, gI_sM, gL_sI, gL_sL, gL_sA, gL_sM, aI_sI, aI_sL, aI_sA, aI_sM, aL_sI, aL_sL, aL_sA, aL_sM, oi_0]; try dsimp only
          unfold Qv_behindJ4
          try dsimp only
          exact ⟨⟨_, rfl⟩, hz⟩
        · intro x1 x2 x3 x4 Y hz
          refine hB _ _ _ _ _ (fun m1 hm1 => ?_)
          dsimp only [ugo, uwp, ust, uct, rfd, Bbehind, Bbehind_73, Nat.beq, lv_args, rlk, rs1, rs2, rdl, rky, rcd, rno, rsw, Value.category, List.filter, List.take, List.drop, List.reverse, List.reverseAux, List.cons_append, List.nil_append, Option.toList, Int.toNat, Int.reduceToNat, if_pos, if_neg, reduceIte, ↓reduceIte, Nat.reduceAdd, Nat.reduceEqDiff, Nat.reduceBEq, beq_self_eq_true, Bool.not_true, Bool.not_false, Bool.and_true, Bool.and_false, Bool.true_and, Bool.false_and, gI_sI, gI_sL, gI_sA, gI_sM, gL_sI, gL_sL, gL_sA, gL_sM, aI_sI, aI_sL, aI_sA, aI_sM, aL_sI, aL_sL, aL_sA, aL_sM, oi_307]; try dsimp only
          refine ⟨fun h2 => ?_, fun h2 => ?_⟩
          · exact hW _ 100 [(0, .ref 1000), (1, .int x1), (2, .int x2), (3, .int x3), (4, .int x4)] _ _ _ (by simp [rdl, rky, Value.category]) ((ih m1 hm1).2.2.2.2.2.2.2.2.2.2.1 x1 x2 x3 x4 _ hz)
          · exact hW _ 80 [(0, .ref 1000), (1, .int x1), (2, .int x2), (3, .int x3), (4, .int x4)] _ _ _ (by simp [rdl, rky, Value.category]) ((ih m1 hm1).2.2.2.2.2.2.2.2.2.1 x1 x2 x3 x4 _ hz)
        · intro x1 x2 x3 x4 Y hz
          refine hB _ _ _ _ _ (fun m1 hm1 => ?_)
          dsimp only [ugo, uwp, ust, uct, rfd, Bbehind, Bbehind_80, Nat.beq, lv_args, rlk, rs1, rs2, rdl, rky, rcd, rno, rsw, Value.category, List.filter, List.take, List.drop, List.reverse, List.reverseAux, List.cons_append, List.nil_append, Option.toList, Int.toNat, Int.reduceToNat, if_pos, if_neg, reduceIte, ↓reduceIte, Nat.reduceAdd, Nat.reduceEqDiff, Nat.reduceBEq, beq_self_eq_true, Bool.not_true, Bool.not_false, Bool.and_true, Bool.and_false, Bool.true_and, Bool.false_and, gI_sI, gI_sL, gI_sA, gI_sM, gL_sI, gL_sL, gL_sA, gL_sM, aI_sI, aI_sL, aI_sA, aI_sM, aL_sI, aL_sL, aL_sA, aL_sM, oi_1, oi_8]; try dsimp only
          intro p2
          refine ⟨trivial, fun w3 τ3 hq3 => ?_⟩
          obtain ⟨⟨r3, rfl⟩, hz3⟩ := hq3 c hz
          dsimp only [Option.toList, List.cons_append, List.nil_append, Nat.beq, gI_sI, gI_sL, gI_sA, gI_sM, gL_sI, gL_sL, gL_sA, gL_sM, aI_sI, aI_sL, aI_sA, aI_sM, aL_sI, aL_sL, aL_sA, aL_sM]
          exact hW _ 100 [(0, .ref 1000), (1, .int x1), (2, .int x2), (3, .int x3), (4, .int x4)] _ _ _ (by simp [rdl, rky, Value.category]) ((ih m1 hm1).2.2.2.2.2.2.2.2.2.2.1 x1 x2 x3 x4 _ hz3)
        · intro x1 x2 x3 x4 Y hz
          refine hB _ _ _ _ _ (fun m1 hm1 => ?_)
          dsimp only [ugo, uwp, ust, uct, rfd, Bbehind, Bbehind_100, Nat.beq, lv_args, rlk, rs1, rs2, rdl, rky, rcd, rno, rsw, Value.category, List.filter, List.take, List.drop, List.reverse, List.reverseAux, List.cons_append, List.nil_append, Option.toList, Int.toNat, Int.reduceToNat, if_pos, if_neg, reduceIte, ↓reduceIte, Nat.reduceAdd, Nat.reduceEqDiff, Nat.reduceBEq, beq_self_eq_true, Bool.not_true, Bool.not_false, Bool.and_true, Bool.and_false, Bool.true_and, Bool.false_and, gI_sI, gI_sL, gI_sA, gI_sM, gL_sI, gL_sL, gL_sA, gL_sM, aI_sI, aI_sL, aI_sA, aI_sM, aL_sI, aL_sL, aL_sA, aL_sM, oi_308]; try dsimp only
          refine ⟨fun h2 => ?_, fun h2 => ?_⟩
          · exact hW _ 127 [(0, .ref 1000), (1, .int x1), (2, .int x2), (3, .int x3), (4, .int x4)] _ _ _ (by simp [rdl, rky, Value.category]) ((ih m1 hm1).2.2.2.2.2.2.2.2.2.2.2.2.1 x1 x2 x3 x4 _ hz)
          · exact hW _ 107 [(0, .ref 1000), (1, .int x1), (2, .int x2), (3, .int x3), (4, .int x4)] _ _ _ (by simp [rdl, rky, Value.category]) ((ih m1 hm1).2.2.2.2.2.2.2.2.2.2.2.1 x1 x2 x3 x4 _ hz)
        · intro x1 x2 x3 x4 Y hz
          refine hB _ _ _ _ _ (fun m1 hm1 => ?_)
          dsimp only [ugo, uwp, ust, uct, rfd, Bbehind, Bbehind_107, Nat.beq, lv_args, rlk, rs1, rs2, rdl, rky, rcd, rno, rsw, Value.category, List.filter, List.take, List.drop, List.reverse, List.reverseAux, List.cons_append, List.nil_append, Option.toList, Int.toNat, Int.reduceToNat, if_pos, if_neg, reduceIte, ↓reduceIte, Nat.reduceAdd, Nat.reduceEqDiff, Nat.reduceBEq, beq_self_eq_true, Bool.not_true, Bool.not_false, Bool.and_true, Bool.and_false, Bool.true_and, Bool.false_and, gI_sI, gI_sL, gI_sA, gI_sM, gL_sI, gL_sL, gL_sA, gL_sM, aI_sI, aI_sL, aI_sA, aI_sM, aL_sI, aL_sL, aL_sA, aL_sM, oi_1, oi_10]; try dsimp only
          intro p2
          refine ⟨trivial, fun w3 τ3 hq3 => ?_⟩
          obtain ⟨⟨r3, rfl⟩, hz3⟩ := hq3 c hz
          dsimp only [Option.toList, List.cons_append, List.nil_append, Nat.beq, gI_sI, gI_sL, gI_sA, gI_sM, gL_sI, gL_sL, gL_sA, gL_sM, aI_sI, aI_sL, aI_sA, aI_sM, aL_sI, aL_sL, aL_sA, aL_sM]
          exact hW _ 127 [(0, .ref 1000), (1, .int x1), (2, .int x2), (3, .int x3), (4, .int x4)] _ _ _ (by simp [rdl, rky, Value.category]) ((ih m1 hm1).2.2.2.2.2.2.2.2.2.2.2.2.1 x1 x2 x3 x4 _ hz3)
        · intro x1 x2 x3 x4 Y hz
          refine hB _ _ _ _ _ (fun m1 hm1 => ?_)
          dsimp only [ugo, uwp, ust, uct, rfd, Bbehind, Bbehind_127, Nat.beq, lv_args, rlk, rs1, rs2, rdl, rky, rcd, rno, rsw, Value.category, List.filter, List.take, List.drop, List.reverse, List.reverseAux, List.cons_append, List.nil_append, Option.toList, Int.toNat, Int.reduceToNat, if_pos, if_neg, reduceIte, ↓reduceIte, Nat.reduceAdd, Nat.reduceEqDiff, Nat.reduceBEq, beq_self_eq_true, Bool.not_true, Bool.not_false, Bool.and_true, Bool.and_false, Bool.true_and, Bool.false_and, gI_sI, gI_sL, gI_sA, gI_sM, gL_sI, gL_sL, gL_sA, gL_sM, aI_sI, aI_sL, aI_sA, aI_sM, aL_sI, aL_sL, aL_sA, aL_sM, oi_0, oi_2]; try dsimp only
          refine ⟨trivial, fun w2 τ2 hq2 => ?_⟩
          obtain ⟨⟨r2, rfl⟩, hz2⟩ := hq2 c hz
          dsimp only [Option.toList, List.cons_append, List.nil_append, Nat.beq, gI_sI, gI_sL, gI_sA, gI_sM, gL_sI, gL_sL, gL_sA, gL_sM, aI_sI, aI_sL, aI_sA, aI_sM, aL_sI, aL_sL, aL_sA, aL_sM]
          refine ⟨trivial, fun w3 τ3 hq3 => ?_⟩
          obtain ⟨⟨r3, rfl⟩, hz3⟩ := hq3 c hz2
          dsimp only [Option.toList, List.cons_append, List.nil_append, Nat.beq, gI_sI, gI_sL, gI_sA, gI_sM, gL_sI, gL_sL, gL_sA, gL_sM, aI_sI, aI_sL, aI_sA, aI_sM, aL_sI, aL_sL, aL_sA, aL_sM]
          unfold Qv_behindJ4
          try dsimp only
          exact ⟨⟨_, rfl⟩, hz3⟩
        · intro x1 x2 Y hz
          refine hB _ _ _ _ _ (fun m1 hm1 => ?_)
          dsimp only [ugo, uwp, ust, uct, rfd, Bbehind, Bbehind_142, Nat.beq, lv_args, rlk, rs1, rs2, rdl, rky, rcd, rno, rsw, Value.category, List.filter, List.take, List.drop, List.reverse, List.reverseAux, List.cons_append, List.nil_append, Option.toList, Int.toNat, Int.reduceToNat, if_pos, if_neg, reduceIte, ↓reduceIte, Nat.reduceAdd, Nat.reduceEqDiff, Nat.reduceBEq, beq_self_eq_true, Bool.not_true, Bool.not_false, Bool.and_true, Bool.and_false, Bool.true_and, Bool.false_and, gI_sI, gI_sL, gI_sA, gI_sM, gL_sI, gL_sL, gL_sA, gL_sM, aI_sI, aI_sL, aI_sA, aI_sM, aL_sI, aL_sL, aL_sA, aL_sM, oi_63]; try dsimp only
          refine ⟨trivial, fun w2 τ2 hq2 => ?_⟩
          obtain ⟨⟨r2, rfl⟩, hz2⟩ := hq2 c hz
          dsimp only [Option.toList, List.cons_append, List.nil_append, Nat.beq, gI_sI, gI_sL, gI_sA, gI_sM, gL_sI, gL_sL, gL_sA, gL_sM, aI_sI, aI_sL, aI_sA, aI_sM, aL_sI, aL_sL, aL_sA, aL_sM]
          refine ⟨fun h3 => ?_, fun h3 => ?_⟩
          · exact hW _ 211 [(0, .ref 1000), (1, .int x1), (2, .int x2)] _ _ _ (by simp [rdl, rky, Value.category]) ((ih m1 hm1).2.2.2.2.2.2.2.2.2.2.2.2.2.2.2.2.2.2.1 x1 x2 _ hz2)
          · exact hW _ 151 [(0, .ref 1000), (1, .int x1), (2, .int x2)] _ _ _ (by simp [rdl, rky, Value.category]) ((ih m1 hm1).2.2.2.2.2.2.2.2.2.2.2.2.2.2.1 x1 x2 _ hz2)
        · intro x1 x2 Y hz
          refine hB _ _ _ _ _ (fun m1 hm1 => ?_)
          dsimp only [ugo, uwp, ust, uct, rfd, Bbehind, Bbehind_151, Nat.beq, lv_args, rlk, rs1, rs2, rdl, rky, rcd, rno, rsw, Value.category, List.filter, List.take, List.drop, List.reverse, List.reverseAux, List.cons_append, List.nil_append, Option.toList, Int.toNat, Int.reduceToNat, if_pos, if_neg, reduceIte, ↓reduceIte, Nat.reduceAdd, Nat.reduceEqDiff, Nat.reduceBEq, beq_self_eq_true, Bool.not_true, Bool.not_false, Bool.and_true, Bool.and_false, Bool.true_and, Bool.false_and, gI_sI, gI_sL, gI_sA, gI_sM, gL_sI, gL_sL, gL_sA, gL_sM, aI_sI, aI_sL, aI_sA, aI_sM, aL_sI, aL_sL, aL_sA, aL_sM, oi_1]; try dsimp only
          refine ⟨trivial, fun w2 τ2 hq2 => ?_⟩
          obtain ⟨rfl, hz2⟩ := hq2 c hz
          dsimp only [Option.toList, List.cons_append, List.nil_append, Nat.beq, gI_sI, gI_sL, gI_sA, gI_sM, gL_sI, gL_sL, gL_sA, gL_sM, aI_sI, aI_sL, aI_sA, aI_sM, aL_sI, aL_sL, aL_sA, aL_sM]
          refine ⟨trivial, fun w3 τ3 hq3 => ?_⟩
          obtain ⟨⟨r3, rfl⟩, hz3⟩ := hq3 c hz2
          dsimp only [Option.toList, List.cons_append, List.nil_append, Nat.beq, gI_sI, gI_sL, gI_sA, gI_sM, gL_sI, gL_sL, gL_sA, gL_sM, aI_sI, aI_sL, aI_sA, aI_sM, aL_sI, aL_sL, aL_sA, aL_sM]
          refine ⟨fun h4 => ?_, fun h4 => ?_⟩
          · exact hW _ 175 [(0, .ref 1000), (1, .int x1), (2, .int x2), (3, .int (gI Y 14))] _ _ _ (by simp [rdl, rky, Value.category]) ((ih m1 hm1).2.2.2.2.2.2.2.2.2.2.2.2.2.2.2.2.1 x1 x2 (gI Y 14) _ hz3)
          · exact hW _ 168 [(0, .ref 1000), (1, .int x1), (2, .int x2), (3, .int (gI Y 14))] _ _ _ (by simp [rdl, rky, Value.category]) ((ih m1 hm1).2.2.2.2.2.2.2.2.2.2.2.2.2.2.2.1 x1 x2 (gI Y 14) _ hz3)
        · intro x1 x2 x3 Y hz
          refine hB _ _ _ _ _ (fun m1 hm1 => ?_)
          dsimp only [ugo, uwp, ust, uct, rfd, Bbehind, Bbehind_168, Nat.beq, lv_args, rlk, rs1, rs2, rdl, rky, rcd, rno, rsw, Value.category, List.filter, List.take, List.drop, List.reverse, List.reverseAux, List.cons_append, List.nil_append, Option.toList, Int.toNat, Int.reduceToNat, if_pos, if_neg, reduceIte, ↓reduceIte, Nat.reduceAdd, Nat.reduceEqDiff, Nat.reduceBEq, beq_self_eq_true, Bool.not_true, Bool.not_false, Bool.and_true, Bool.and_false, Bool.true_and, Bool.false_and, gI_sI, gI_sL, gI_sA, gI_sM, gL_sI, gL_sL, gL_sA, gL_sM, aI_sI, aI_sL, aI_sA, aI_sM, aL_sI, aL_sL, aL_sA, aL_sM]; try dsimp only
          refine ⟨trivial, fun w2 τ2 hq2 => ?_⟩
          obtain ⟨⟨r2, rfl⟩, hz2⟩ := hq2 c hz
          dsimp only [Option.toList, List.cons_append, List.nil_append, Nat.beq, gI_sI, gI_sL, gI_sA, gI_sM, gL_sI, gL_sL, gL_sA, gL_sM, aI_sI, aI_sL, aI_sA, aI_sM, aL_sI, aL_sL, aL_sA, aL_sM]
          refine ⟨fun h3 => ?_, fun h3 => ?_⟩
          · exact hW _ 177 [(0, .ref 1000), (1, .int x1), (2, .int x2), (3, .int x3)] _ _ _ (by simp [rdl, rky, Value.category]) ((ih m1 hm1).2.2.2.2.2.2.2.2.2.2.2.2.2.2.2.2.2.1 x1 x2 x3 _ hz2)
          · exact hW _ 175 [(0, .ref 1000), (1, .int x1), (2, .int x2), (3, .int x3)] _ _ _ (by simp [rdl, rky, Value.category]) ((ih m1 hm1).2.2.2.2.2.2.2.2.2.2.2.2.2.2.2.2.1 x1 x2 x3 _ hz2)
        · intro x1 x2 x3 Y hz
          refine hB _ _ _ _ _ (fun m1 hm1 => ?_)
          dsimp only [ugo, uwp, ust, uct, rfd, Bbehind, Bbehind_175, Nat.beq, lv_args, rlk, rs1, rs2, rdl, rky, rcd, rno, rsw, Value.category, List.filter, List.take, List.drop, List.reverse, List.reverseAux, List.cons_append, List.nil_append, Option.toList, Int.toNat, Int.reduceToNat, if_pos, if_neg, reduceIte, ↓reduceIte, Nat.reduceAdd, Nat.reduceEqDiff, Nat.reduceBEq, beq_self_eq_true, Bool.not_true, Bool.not_false, Bool.and_true, Bool.and_false, Bool.true_and, Bool.false_and, gI_sI, gI_sL, gI_sA, gI_sM, gL_sI, gL_sL, gL_sA, gL_sM, aI_sI, aI_sL, aI_sA, aI_sM, aL_sI, aL_sL, aL_sA, aL_sM, oi_0]; try dsimp only
          unfold Qv_behindJ4
          try dsimp only
          exact ⟨⟨_, rfl⟩, hz⟩
        · intro x1 x2 x3 Y hz
          refine hB _ _ _ _ _ (fun m1 hm1 => ?_)
          dsimp only [ugo, uwp, ust, uct, rfd, Bbehind, Bbehind_177, Nat.beq, lv_args, rlk, rs1, rs2, rdl, rky, rcd, rno, rsw, Value.category, List.filter, List.take, List.drop, List.reverse, List.reverseAux, List.cons_append, List.nil_append, Option.toList, Int.toNat, Int.reduceToNat, if_pos, if_neg, reduceIte, ↓reduceIte, Nat.reduceAdd, Nat.reduceEqDiff, Nat.reduceBEq, beq_self_eq_true, Bool.not_true, Bool.not_false, Bool.and_true, Bool.and_false, Bool.true_and, Bool.false_and, gI_sI, gI_sL, gI_sA, gI_sM, gL_sI, gL_sL, gL_sA, gL_sM, aI_sI, aI_sL, aI_sA, aI_sM, aL_sI, aL_sL, aL_sA, aL_sM, oi_0, oi_1, oi_12, oi_6]; try dsimp only
          intro p2
          refine ⟨trivial, fun w3 τ3 hq3 => ?_⟩
          obtain ⟨⟨r3, rfl⟩, hz3⟩ := hq3 c hz
          dsimp only [Option.toList, List.cons_append, List.nil_append, Nat.beq, gI_sI, gI_sL, gI_sA, gI_sM, gL_sI, gL_sL, gL_sA, gL_sM, aI_sI, aI_sL, aI_sA, aI_sM, aL_sI, aL_sL, aL_sA, aL_sM]
          refine ⟨trivial, fun w4 τ4 hq4 => ?_⟩
          obtain ⟨⟨r4, rfl⟩, hz4⟩ := hq4 c hz3
          dsimp only [Option.toList, List.cons_append, List.nil_append, Nat.beq, gI_sI, gI_sL, gI_sA, gI_sM, gL_sI, gL_sL, gL_sA, gL_sM, aI_sI, aI_sL, aI_sA, aI_sM, aL_sI, aL_sL, aL_sA, aL_sM]
          refine ⟨trivial, fun w5 τ5 hq5 => ?_⟩
          obtain ⟨⟨r5, rfl⟩, hz5⟩ := hq5 c hz4
          dsimp only [Option.toList, List.cons_append, List.nil_append, Nat.beq, gI_sI, gI_sL, gI_sA, gI_sM, gL_sI, gL_sL, gL_sA, gL_sM, aI_sI, aI_sL, aI_sA, aI_sM, aL_sI, aL_sL, aL_sA, aL_sM]
          unfold Qv_behindJ4
          try dsimp only
          exact ⟨⟨_, rfl⟩, hz5⟩
        · intro x1 x2 Y hz
          refine hB _ _ _ _ _ (fun m1 hm1 => ?_)
          dsimp only [ugo, uwp, ust, uct, rfd, Bbehind, Bbehind_211, Nat.beq, lv_args, rlk, rs1, rs2, rdl, rky, rcd, rno, rsw, Value.category, List.filter, List.take, List.drop, List.reverse, List.reverseAux, List.cons_append, List.nil_append, Option.toList, Int.toNat, Int.reduceToNat, if_pos, if_neg, reduceIte, ↓reduceIte, Nat.reduceAdd, Nat.reduceEqDiff, Nat.reduceBEq, beq_self_eq_true, Bool.not_true, Bool.not_false, Bool.and_true, Bool.and_false, Bool.true_and, Bool.false_and, gI_sI, gI_sL, gI_sA, gI_sM, gL_sI, gL_sL, gL_sA, gL_sM, aI_sI, aI_sL, aI_sA, aI_sM, aL_sI, aL_sL, aL_sA, aL_sM]; try dsimp only
          refine ⟨trivial, fun w2 τ2 hq2 => ?_⟩
          obtain ⟨rfl, hz2⟩ := hq2 c hz
          dsimp only [Option.toList, List.cons_append, List.nil_append, Nat.beq, gI_sI, gI_sL, gI_sA, gI_sM, gL_sI, gL_sL, gL_sA, gL_sM, aI_sI, aI_sL, aI_sA, aI_sM, aL_sI, aL_sL, aL_sA, aL_sM]
          refine ⟨fun h3 => ?_, fun h3 => ?_⟩
          · exact hW _ 236 [(0, .ref 1000), (1, .int x1), (2, .int x2)] _ _ _ (by simp [rdl, rky, Value.category]) ((ih m1 hm1).2.2.2.2.2.2.2.2.2.2.2.2.2.2.2.2.2.2.2.2.1 x1 x2 _ hz2)
          · exact hW _ 222 [(0, .ref 1000), (1, .int x1), (2, .int x2)] _ _ _ (by simp [rdl, rky, Value.category]) ((ih m1 hm1).2.2.2.2.2.2.2.2.2.2.2.2.2.2.2.2.2.2.2.1 x1 x2 _ hz2)
        · intro x1 x2 Y hz
          refine hB _ _ _ _ _ (fun m1 hm1 => ?_)
          dsimp only [ugo, uwp, ust, uct, rfd, Bbehind, Bbehind_222, Nat.beq, lv_args, rlk, rs1, rs2, rdl, rky, rcd, rno, rsw, Value.category, List.filter, List.take, List.drop, List.reverse, List.reverseAux, List.cons_append, List.nil_append, Option.toList, Int.toNat, Int.reduceToNat, if_pos, if_neg, reduceIte, ↓reduceIte, Nat.reduceAdd, Nat.reduceEqDiff, Nat.reduceBEq, beq_self_eq_true, Bool.not_true, Bool.not_false, Bool.and_true, Bool.and_false, Bool.true_and, Bool.false_and, gI_sI, gI_sL, gI_sA, gI_sM, gL_sI, gL_sL, gL_sA, gL_sM, aI_sI, aI_sL, aI_sA, aI_sM, aL_sI, aL_sL, aL_sA, aL_sM, oi_1]; try dsimp only
          intro p2
          exact hW _ 238 [(0, .ref 1000), (1, .int x1), (2, .int x2)] _ _ _ (by simp [rdl, rky, Value.category]) ((ih m1 hm1).2.2.2.2.2.2.2.2.2.2.2.2.2.2.2.2.2.2.2.2.2.1 x1 x2 ((aI Y 25) (((gI Y 29) - 1)).toNatClampNeg) _ hz)
        · intro x1 x2 Y hz
          refine hB _ _ _ _ _ (fun m1 hm1 => ?_)
          dsimp only [ugo, uwp, ust, uct, rfd, Bbehind, Bbehind_236, Nat.beq, lv_args, rlk, rs1, rs2, rdl, rky, rcd, rno, rsw, Value.category, List.filter, List.take, List.drop, List.reverse, List.reverseAux, List.cons_append, List.nil_append, Option.toList, Int.toNat, Int.reduceToNat, if_pos, if_neg, reduceIte, ↓reduceIte, Nat.reduceAdd, Nat.reduceEqDiff, Nat.reduceBEq, beq_self_eq_true, Bool.not_true, Bool.not_false, Bool.and_true, Bool.and_false, Bool.true_and, Bool.false_and, gI_sI, gI_sL, gI_sA, gI_sM, gL_sI, gL_sL, gL_sA, gL_sM, aI_sI, aI_sL, aI_sA, aI_sM, aL_sI, aL_sL, aL_sA, aL_sM, oi_m2]; try dsimp only
          exact hW _ 238 [(0, .ref 1000), (1, .int x1), (2, .int x2)] _ _ _ (by simp [rdl, rky, Value.category]) ((ih m1 hm1).2.2.2.2.2.2.2.2.2.2.2.2.2.2.2.2.2.2.2.2.2.1 x1 x2 (-2) _ hz)
        · intro x1 x2 s0 Y hz
          refine hB _ _ _ _ _ (fun m1 hm1 => ?_)
          dsimp only [ugo, uwp, ust, uct, rfd, Bbehind, Bbehind_238, Nat.beq, lv_args, rlk, rs1, rs2, rdl, rky, rcd, rno, rsw, Value.category, List.filter, List.take, List.drop, List.reverse, List.reverseAux, List.cons_append, List.nil_append, Option.toList, Int.toNat, Int.reduceToNat, if_pos, if_neg, reduceIte, ↓reduceIte, Nat.reduceAdd, Nat.reduceEqDiff, Nat.reduceBEq, beq_self_eq_true, Bool.not_true, Bool.not_false, Bool.and_true, Bool.and_false, Bool.true_and, Bool.false_and, gI_sI, gI_sL, gI_sA, gI_sM, gL_sI, gL_sL, gL_sA, gL_sM, aI_sI, aI_sL, aI_sA, aI_sM, aL_sI, aL_sL, aL_sA, aL_sM]; try dsimp only
          refine ⟨fun h2 => ?_, fun h2 => ?_⟩
          · exact hW _ 250 [(0, .ref 1000), (1, .int x1), (2, .int x2), (3, .int s0)] _ _ _ (by simp [rdl, rky, Value.category]) ((ih m1 hm1).2.2.2.2.2.2.2.2.2.2.2.2.2.2.2.2.2.2.2.2.2.2.2.1 x1 x2 s0 _ hz)
          · exact hW _ 243 [(0, .ref 1000), (1, .int x1), (2, .int x2), (3, .int s0)] _ _ _ (by simp [rdl, rky, Value.category]) ((ih m1 hm1).2.2.2.2.2.2.2.2.2.2.2.2.2.2.2.2.2.2.2.2.2.2.1 x1 x2 s0 _ hz)
        · intro x1 x2 x3 Y hz
          refine hB _ _ _ _ _ (fun m1 hm1 => ?_)
          dsimp only [ugo, uwp, ust, uct, rfd, Bbehind, Bbehind_243, Nat.beq, lv_args, rlk, rs1, rs2, rdl, rky, rcd, rno, rsw, Value.category, List.filter, List.take, List.drop, List.reverse, List.reverseAux, List.cons_append, List.nil_append, Option.toList, Int.toNat, Int.reduceToNat, if_pos, if_neg, reduceIte, ↓reduceIte, Nat.reduceAdd, Nat.reduceEqDiff, Nat.reduceBEq, beq_self_eq_true, Bool.not_true, Bool.not_false, Bool.and_true, Bool.and_false, Bool.true_and, Bool.false_and, gI_sI, gI_sL, gI_sA, gI_sM, gL_sI, gL_sL, gL_sA, gL_sM, aI_sI, aI_sL, aI_sA, aI_sM, aL_sI, aL_sL, aL_sA, aL_sM, oi_0, oi_1]; try dsimp only
          unfold Qv_behindJ4
          try dsimp only
          exact ⟨⟨_, rfl⟩, (hz.i (by decide))⟩
        · intro x1 x2 x3 Y hz
          refine hB _ _ _ _ _ (fun m1 hm1 => ?_)
          dsimp only [ugo, uwp, ust, uct, rfd, Bbehind, Bbehind_250, Nat.beq, lv_args, rlk, rs1, rs2, rdl, rky, rcd, rno, rsw, Value.category, List.filter, List.take, List.drop, List.reverse, List.reverseAux, List.cons_append, List.nil_append, Option.toList, Int.toNat, Int.reduceToNat, if_pos, if_neg, reduceIte, ↓reduceIte, Nat.reduceAdd, Nat.reduceEqDiff, Nat.reduceBEq, beq_self_eq_true, Bool.not_true, Bool.not_false, Bool.and_true, Bool.and_false, Bool.true_and, Bool.false_and, gI_sI, gI_sL, gI_sA, gI_sM, gL_sI, gL_sL, gL_sA, gL_sM, aI_sI, aI_sL, aI_sA, aI_sM, aL_sI, aL_sL, aL_sA, aL_sM, oi_6]; try dsimp only
          refine ⟨fun h2 => ?_, fun h2 => ?_⟩
          · exact hW _ 340 [(0, .ref 1000), (1, .int x1), (2, .int x2), (3, .int x3)] _ _ _ (by simp [rdl, rky, Value.category]) ((ih m1 hm1).2.2.2.2.2.2.2.2.2.2.2.2.2.2.2.2.2.2.2.2.2.2.2.2.2.2.2.2.2.1 x1 x2 x3 _ hz)
          · exact hW _ 256 [(0, .ref 1000), (1, .int x1), (2, .int x2), (3, .int x3)] _ _ _ (by simp [rdl, rky, Value.category]) ((ih m1 hm1).2.2.2.2.2.2.2.2.2.2.2.2.2.2.2.2.2.2.2.2.2.2.2.2.1 x1 x2 x3 _ hz)
        · intro x1 x2 x3 Y hz
          refine hB _ _ _ _ _ (fun m1 hm1 => ?_)
          dsimp only [ugo, uwp, ust, uct, rfd, Bbehind, Bbehind_256, Nat.beq, lv_args, rlk, rs1, rs2, rdl, rky, rcd, rno, rsw, Value.category, List.filter, List.take, List.drop, List.reverse, List.reverseAux, List.cons_append, List.nil_append, Option.toList, Int.toNat, Int.reduceToNat, if_pos, if_neg, reduceIte, ↓reduceIte, Nat.reduceAdd, Nat.reduceEqDiff, Nat.reduceBEq, beq_self_eq_true, Bool.not_true, Bool.not_false, Bool.and_true, Bool.and_false, Bool.true_and, Bool.false_and, gI_sI, gI_sL, gI_sA, gI_sM, gL_sI, gL_sL, gL_sA, gL_sM, aI_sI, aI_sL, aI_sA, aI_sM, aL_sI, aL_sL, aL_sA, aL_sM, oi_58]; try dsimp only
          refine ⟨trivial, fun w2 τ2 hq2 => ?_⟩
          obtain ⟨⟨r2, rfl⟩, hz2⟩ := hq2 c hz
          dsimp only [Option.toList, List.cons_append, List.nil_append, Nat.beq, gI_sI, gI_sL, gI_sA, gI_sM, gL_sI, gL_sL, gL_sA, gL_sM, aI_sI, aI_sL, aI_sA, aI_sM, aL_sI, aL_sL, aL_sA, aL_sM]
          refine ⟨fun h3 => ?_, fun h3 => ?_⟩
          · exact hW _ 340 [(0, .ref 1000), (1, .int x1), (2, .int x2), (3, .int x3)] _ _ _ (by simp [rdl, rky, Value.category]) ((ih m1 hm1).2.2.2.2.2.2.2.2.2.2.2.2.2.2.2.2.2.2.2.2.2.2.2.2.2.2.2.2.2.1 x1 x2 x3 _ hz2)
          · exact hW _ 265 [(0, .ref 1000), (1, .int x1), (2, .int x2), (3, .int x3)] _ _ _ (by simp [rdl, rky, Value.category]) ((ih m1 hm1).2.2.2.2.2.2.2.2.2.2.2.2.2.2.2.2.2.2.2.2.2.2.2.2.2.1 x1 x2 x3 _ hz2)
        · intro x1 x2 x3 Y hz
          refine hB _ _ _ _ _ (fun m1 hm1 => ?_)
          dsimp only [ugo, uwp, ust, uct, rfd, Bbehind, Bbehind_265, Nat.beq, lv_args, rlk, rs1, rs2, rdl, rky, rcd, rno, rsw, Value.category, List.filter, List.take, List.drop, List.reverse, List.reverseAux, List.cons_append, List.nil_append, Option.toList, Int.toNat, Int.reduceToNat, if_pos, if_neg, reduceIte, ↓reduceIte, Nat.reduceAdd, Nat.reduceEqDiff, Nat.reduceBEq, beq_self_eq_true, Bool.not_true, Bool.not_false, Bool.and_true, Bool.and_false, Bool.true_and, Bool.false_and, gI_sI, gI_sL, gI_sA, gI_sM, gL_sI, gL_sL, gL_sA, gL_sM, aI_sI, aI_sL, aI_sA, aI_sM, aL_sI, aL_sL, aL_sA, aL_sM, oi_1]; try dsimp only
          intro p2
          refine ⟨trivial, fun w3 τ3 hq3 => ?_⟩
          obtain ⟨⟨r3, rfl⟩, hz3⟩ := hq3 c ((hz.i (by decide)).i (by decide))
          dsimp only [Option.toList, List.cons_append, List.nil_append, Nat.beq, gI_sI, gI_sL, gI_sA, gI_sM, gL_sI, gL_sL, gL_sA, gL_sM, aI_sI, aI_sL, aI_sA, aI_sM, aL_sI, aL_sL, aL_sA, aL_sM]
          refine ⟨fun h4 => ?_, fun h4 => ?_⟩
          · exact hW _ 312 [(0, .ref 1000), (1, .int x1), (2, .int x2), (3, .int x3), (4, .int ((aI Y 27) (((gI Y 29) - 1)).toNatClampNeg))] _ _ _ (by simp [rdl, rky, Value.category]) ((ih m1 hm1).2.2.2.2.2.2.2.2.2.2.2.2.2.2.2.2.2.2.2.2.2.2.2.2.2.2.2.1 x1 x2 x3 ((aI Y 27) (((gI Y 29) - 1)).toNatClampNeg) _ hz3)
          · exact hW _ 305 [(0, .ref 1000), (1, .int x1), (2, .int x2), (3, .int x3), (4, .int ((aI Y 27) (((gI Y 29) - 1)).toNatClampNeg))] _ _ _ (by simp [rdl, rky, Value.category]) ((ih m1 hm1).2.2.2.2.2.2.2.2.2.2.2.2.2.2.2.2.2.2.2.2.2.2.2.2.2.2.1 x1 x2 x3 ((aI Y 27) (((gI Y 29) - 1)).toNatClampNeg) _ hz3)
        · intro x1 x2 x3 x4 Y hz
          refine hB _ _ _ _ _ (fun m1 hm1 => ?_)
          dsimp only [ugo, uwp, ust, uct, rfd, Bbehind, Bbehind_305, Nat.beq, lv_args, rlk, rs1, rs2, rdl, rky, rcd, rno, rsw, Value.category, List.filter, List.take, List.drop, List.reverse, List.reverseAux, List.cons_append, List.nil_append, Option.toList, Int.toNat, Int.reduceToNat, if_pos, if_neg, reduceIte, ↓reduceIte, Nat.reduceAdd, Nat.reduceEqDiff, Nat.reduceBEq, beq_self_eq_true, Bool.not_true, Bool.not_false, Bool.and_true, Bool.and_false, Bool.true_and, Bool.false_and, gI_sI, gI_sL, gI_sA, gI_sM, gL_sI, gL_sL, gL_sA, gL_sM, aI_sI, aI_sL, aI_sA, aI_sM, aL_sI, aL_sL, aL_sA, aL_sM]; try dsimp only
          refine ⟨trivial, fun w2 τ2 hq2 => ?_⟩
          obtain ⟨⟨r2, rfl⟩, hz2⟩ := hq2 c hz
          dsimp only [Option.toList, List.cons_append, List.nil_append, Nat.beq, gI_sI, gI_sL, gI_sA, gI_sM, gL_sI, gL_sL, gL_sA, gL_sM, aI_sI, aI_sL, aI_sA, aI_sM, aL_sI, aL_sL, aL_sA, aL_sM]
          refine ⟨fun h3 => ?_, fun h3 => ?_⟩
          · exact hW _ 314 [(0, .ref 1000), (1, .int x1), (2, .int x2), (3, .int x3), (4, .int x4)] _ _ _ (by simp [rdl, rky, Value.category]) ((ih m1 hm1).2.2.2.2.2.2.2.2.2.2.2.2.2.2.2.2.2.2.2.2.2.2.2.2.2.2.2.2.1 x1 x2 x3 x4 _ hz2)
          · exact hW _ 312 [(0, .ref 1000), (1, .int x1), (2, .int x2), (3, .int x3), (4, .int x4)] _ _ _ (by simp [rdl, rky, Value.category]) ((ih m1 hm1).2.2.2.2.2.2.2.2.2.2.2.2.2.2.2.2.2.2.2.2.2.2.2.2.2.2.2.1 x1 x2 x3 x4 _ hz2)
        · intro x1 x2 x3 x4 Y hz
          refine hB _ _ _ _ _ (fun m1 hm1 => ?_)
          dsimp only [ugo, uwp, ust, uct, rfd, Bbehind, Bbehind_312, Nat.beq, lv_args, rlk, rs1, rs2, rdl, rky, rcd, rno, rsw, Value.category, List.filter, List.take, List.drop, List.reverse, List.reverseAux, List.cons_append, List.nil_append, Option.toList, Int.toNat, Int.reduceToNat, if_pos, if_neg, reduceIte, ↓reduceIte, Nat.reduceAdd, Nat.reduceEqDiff, Nat.reduceBEq, beq_self_eq_true, Bool.not_true, Bool.not_false, Bool.and_true, Bool.and_false, Bool.true_and, Bool.false_and, gI_sI, gI_sL, gI_sA, gI_sM, gL_sI, gL_sL, gL_sA, gL_sM, aI_sI, aI_sL, aI_sA, aI_sM, aL_sI, aL_sL, aL_sA, aL_sM, oi_0]; try dsimp only
          unfold Qv_behindJ4
          try dsimp only
          exact ⟨⟨_, rfl⟩, hz⟩
        · intro x1 x2 x3 x4 Y hz
          refine hB _ _ _ _ _ (fun m1 hm1 => ?_)
          dsimp only [ugo, uwp, ust, uct, rfd, Bbehind, Bbehind_314, Nat.beq, lv_args, rlk, rs1, rs2, rdl, rky, rcd, rno, rsw, Value.category, List.filter, List.take, List.drop, List.reverse, List.reverseAux, List.cons_append, List.nil_append, Option.toList, Int.toNat, Int.reduceToNat, if_pos, if_neg, reduceIte, ↓reduceIte, Nat.reduceAdd, Nat.reduceEqDiff, Nat.reduceBEq, beq_self_eq_true, Bool.not_true, Bool.not_false, Bool.and_true, Bool.and_false, Bool.true_and, Bool.false_and, gI_sI, gI_sL, gI_sA, gI_sM, gL_sI, gL_sL, gL_sA, gL_sM, aI_sI, aI_sL, aI_sA, aI_sM, aL_sI, aL_sL, aL_sA, aL_sM, oi_0, oi_13, oi_7]; try dsimp only
          refine ⟨trivial, fun w2 τ2 hq2 => ?_⟩
          obtain ⟨⟨r2, rfl⟩, hz2⟩ := hq2 c hz
          dsimp only [Option.toList, List.cons_append, List.nil_append, Nat.beq, gI_sI, gI_sL, gI_sA, gI_sM, gL_sI, gL_sL, gL_sA, gL_sM, aI_sI, aI_sL, aI_sA, aI_sM, aL_sI, aL_sL, aL_sA, aL_sM]
          refine ⟨trivial, fun w3 τ3 hq3 => ?_⟩
          obtain ⟨⟨r3, rfl⟩, hz3⟩ := hq3 c hz2
          dsimp only [Option.toList, List.cons_append, List.nil_append, Nat.beq, gI_sI, gI_sL, gI_sA, gI_sM, gL_sI, gL_sL, gL_sA, gL_sM, aI_sI, aI_sL, aI_sA, aI_sM, aL_sI, aL_sL, aL_sA, aL_sM]
          refine ⟨trivial, fun w4 τ4 hq4 => ?_⟩
          obtain ⟨⟨r4, rfl⟩, hz4⟩ := hq4 c hz3
          dsimp only [Option.toList, List.cons_append, List.nil_append, Nat.beq, gI_sI, gI_sL, gI_sA, gI_sM, gL_sI, gL_sL, gL_sA, gL_sM, aI_sI, aI_sL, aI_sA, aI_sM, aL_sI, aL_sL, aL_sA, aL_sM]
          unfold Qv_behindJ4
          try dsimp only
          exact ⟨⟨_, rfl⟩, hz4⟩
        · intro x1 x2 x3 Y hz
          refine hB _ _ _ _ _ (fun m1 hm1 => ?_)
          dsimp only [ugo, uwp, ust, uct, rfd, Bbehind, Bbehind_340, Nat.beq, lv_args, rlk, rs1, rs2, rdl, rky, rcd, rno, rsw, Value.category, List.filter, List.take, List.drop, List.reverse, List.reverseAux, List.cons_append, List.nil_append, Option.toList, Int.toNat, Int.reduceToNat, if_pos, if_neg, reduceIte, ↓reduceIte, Nat.reduceAdd, Nat.reduceEqDiff, Nat.reduceBEq, beq_self_eq_true, Bool.not_true, Bool.not_false, Bool.and_true, Bool.and_false, Bool.true_and, Bool.false_and, gI_sI, gI_sL, gI_sA, gI_sM, gL_sI, gL_sL, gL_sA, gL_sM, aI_sI, aI_sL, aI_sA, aI_sM, aL_sI, aL_sL, aL_sA, aL_sM, oi_4]; try dsimp only
          refine ⟨fun h2 => ?_, fun h2 => ?_⟩
          · exact hW _ 384 [(0, .ref 1000), (1, .int x1), (2, .int x2), (3, .int x3)] _ _ _ (by simp [rdl, rky, Value.category]) ((ih m1 hm1).2.2.2.2.2.2.2.2.2.2.2.2.2.2.2.2.2.2.2.2.2.2.2.2.2.2.2.2.2.2.2.2.2.2.1 x1 x2 x3 _ hz)
          · exact hW _ 345 [(0, .ref 1000), (1, .int x1), (2, .int x2), (3, .int x3)] _ _ _ (by simp [rdl, rky, Value.category]) ((ih m1 hm1).2.2.2.2.2.2.2.2.2.2.2.2.2.2.2.2.2.2.2.2.2.2.2.2.2.2.2.2.2.2.1 x1 x2 x3 _ hz)
        · intro x1 x2 x3 Y hz
          refine hB _ _ _ _ _ (fun m1 hm1 => ?_)
          dsimp only [ugo, uwp, ust, uct, rfd, Bbehind, Bbehind_345, Nat.beq, lv_args, rlk, rs1, rs2, rdl, rky, rcd, rno, rsw, Value.category, List.filter, List.take, List.drop, List.reverse, List.reverseAux, List.cons_append, List.nil_append, Option.toList, Int.toNat, Int.reduceToNat, if_pos, if_neg, reduceIte, ↓reduceIte, Nat.reduceAdd, Nat.reduceEqDiff, Nat.reduceBEq, beq_self_eq_true, Bool.not_true, Bool.not_false, Bool.and_true, Bool.and_false, Bool.true_and, Bool.false_and, gI_sI, gI_sL, gI_sA, gI_sM, gL_sI, gL_sL, gL_sA, gL_sM, aI_sI, aI_sL, aI_sA, aI_sM, aL_sI, aL_sL, aL_sA, aL_sM, oi_44]; try dsimp only
          refine ⟨trivial, fun w2 τ2 hq2 => ?_⟩
          obtain ⟨⟨r2, rfl⟩, hz2⟩ := hq2 c hz
          dsimp only [Option.toList, List.cons_append, List.nil_append, Nat.beq, gI_sI, gI_sL, gI_sA, gI_sM, gL_sI, gL_sL, gL_sA, gL_sM, aI_sI, aI_sL, aI_sA, aI_sM, aL_sI, aL_sL, aL_sA, aL_sM]
          refine ⟨fun h3 => ?_, fun h3 => ?_⟩
          · exact hW _ 384 [(0, .ref 1000), (1, .int x1), (2, .int x2), (3, .int x3)] _ _ _ (by simp [rdl, rky, Value.category]) ((ih m1 hm1).2.2.2.2.2.2.2.2.2.2.2.2.2.2.2.2.2.2.2.2.2.2.2.2.2.2.2.2.2.2.2.2.2.2.1 x1 x2 x3 _ hz2)
          · exact hW _ 354 [(0, .ref 1000), (1, .int x1), (2, .int x2), (3, .int x3)] _ _ _ (by simp [rdl, rky, Value.category]) ((ih m1 hm1).2.2.2.2.2.2.2.2.2.2.2.2.2.2.2.2.2.2.2.2.2.2.2.2.2.2.2.2.2.2.2.1 x1 x2 x3 _ hz2)
        · intro x1 x2 x3 Y hz
          refine hB _ _ _ _ _ (fun m1 hm1 => ?_)
          dsimp only [ugo, uwp, ust, uct, rfd, Bbehind, Bbehind_354, Nat.beq, lv_args, rlk, rs1, rs2, rdl, rky, rcd, rno, rsw, Value.category, List.filter, List.take, List.drop, List.reverse, List.reverseAux, List.cons_append, List.nil_append, Option.toList, Int.toNat, Int.reduceToNat, if_pos, if_neg, reduceIte, ↓reduceIte, Nat.reduceAdd, Nat.reduceEqDiff, Nat.reduceBEq, beq_self_eq_true, Bool.not_true, Bool.not_false, Bool.and_true, Bool.and_false, Bool.true_and, Bool.false_and, gI_sI, gI_sL, gI_sA, gI_sM, gL_sI, gL_sL, gL_sA, gL_sM, aI_sI, aI_sL, aI_sA, aI_sM, aL_sI, aL_sL, aL_sA, aL_sM, oi_1]; try dsimp only
          intro p2
          intro p3
          refine ⟨trivial, fun w4 τ4 hq4 => ?_⟩
          obtain ⟨⟨r4, rfl⟩, hz4⟩ := hq4 c (hz.a (by decide))
          dsimp only [Option.toList, List.cons_append, List.nil_append, Nat.beq, gI_sI, gI_sL, gI_sA, gI_sM, gL_sI, gL_sL, gL_sA, gL_sM, aI_sI, aI_sL, aI_sA, aI_sM, aL_sI, aL_sL, aL_sA, aL_sM]
          refine ⟨fun h5 => ?_, fun h5 => ?_⟩
          · exact hW _ 378 [(0, .ref 1000), (1, .int x1), (2, .int x2), (3, .int x3)] _ _ _ (by simp [rdl, rky, Value.category]) ((ih m1 hm1).2.2.2.2.2.2.2.2.2.2.2.2.2.2.2.2.2.2.2.2.2.2.2.2.2.2.2.2.2.2.2.2.2.1 x1 x2 x3 _ hz4)
          · exact hW _ 376 [(0, .ref 1000), (1, .int x1), (2, .int x2), (3, .int x3)] _ _ _ (by simp [rdl, rky, Value.category]) ((ih m1 hm1).2.2.2.2.2.2.2.2.2.2.2.2.2.2.2.2.2.2.2.2.2.2.2.2.2.2.2.2.2.2.2.2.1 x1 x2 x3 _ hz4)
        · intro x1 x2 x3 Y hz
          refine hB _ _ _ _ _ (fun m1 hm1 => ?_)
          dsimp only [ugo, uwp, ust, uct, rfd, Bbehind, Bbehind_376, Nat.beq, lv_args, rlk, rs1, rs2, rdl, rky, rcd, rno, rsw, Value.category, List.filter, List.take, List.drop, List.reverse, List.reverseAux, List.cons_append, List.nil_append, Option.toList, Int.toNat, Int.reduceToNat, if_pos, if_neg, reduceIte, ↓reduceIte, Nat.reduceAdd, Nat.reduceEqDiff, Nat.reduceBEq, beq_self_eq_true, Bool.not_true, Bool.not_false, Bool.and_true, Bool.and_false, Bool.true_and, Bool.false_and, gI_sI, gI_sL, gI_sA, gI_sM, gL_sI, gL_sL, gL_sA, gL_sM, aI_sI, aI_sL, aI_sA, aI_sM, aL_sI, aL_sL, aL_sA, aL_sM, oi_0]; try dsimp only
          unfold Qv_behindJ4
          try dsimp only
          exact ⟨⟨_, rfl⟩, hz⟩
        · intro x1 x2 x3 Y hz
          refine hB _ _ _ _ _ (fun m1 hm1 => ?_)
          dsimp only [ugo, uwp, ust, uct, rfd, Bbehind, Bbehind_378, Nat.beq, lv_args, rlk, rs1, rs2, rdl, rky, rcd, rno, rsw, Value.category, List.filter, List.take, List.drop, List.reverse, List.reverseAux, List.cons_append, List.nil_append, Option.toList, Int.toNat, Int.reduceToNat, if_pos, if_neg, reduceIte, ↓reduceIte, Nat.reduceAdd, Nat.reduceEqDiff, Nat.reduceBEq, beq_self_eq_true, Bool.not_true, Bool.not_false, Bool.and_true, Bool.and_false, Bool.true_and, Bool.false_and, gI_sI, gI_sL, gI_sA, gI_sM, gL_sI, gL_sL, gL_sA, gL_sM, aI_sI, aI_sL, aI_sA, aI_sM, aL_sI, aL_sL, aL_sA, aL_sM, oi_1]; try dsimp only
          refine ⟨trivial, fun w2 τ2 hq2 => ?_⟩
          obtain ⟨⟨r2, rfl⟩, hz2⟩ := hq2 c hz
          dsimp only [Option.toList, List.cons_append, List.nil_append, Nat.beq, gI_sI, gI_sL, gI_sA, gI_sM, gL_sI, gL_sL, gL_sA, gL_sM, aI_sI, aI_sL, aI_sA, aI_sM, aL_sI, aL_sL, aL_sA, aL_sM]
          unfold Qv_behindJ4
          try dsimp only
          exact ⟨⟨_, rfl⟩, hz2⟩
        · intro x1 x2 x3 Y hz
          refine hB _ _ _ _ _ (fun m1 hm1 => ?_)
          dsimp only [ugo, uwp, ust, uct, rfd, Bbehind, Bbehind_384, Nat.beq, lv_args, rlk, rs1, rs2, rdl, rky, rcd, rno, rsw, Value.category, List.filter, List.take, List.drop, List.reverse, List.reverseAux, List.cons_append, List.nil_append, Option.toList, Int.toNat, Int.reduceToNat, if_pos, if_neg, reduceIte, ↓reduceIte, Nat.reduceAdd, Nat.reduceEqDiff, Nat.reduceBEq, beq_self_eq_true, Bool.not_true, Bool.not_false, Bool.and_true, Bool.and_false, Bool.true_and, Bool.false_and, gI_sI, gI_sL, gI_sA, gI_sM, gL_sI, gL_sL, gL_sA, gL_sM, aI_sI, aI_sL, aI_sA, aI_sM, aL_sI, aL_sL, aL_sA, aL_sM, oi_4]; try dsimp only
          refine ⟨fun h2 => ?_, fun h2 => ?_⟩
          · exact hW _ 427 [(0, .ref 1000), (1, .int x1), (2, .int x2), (3, .int x3)] _ _ _ (by simp [rdl, rky, Value.category]) ((ih m1 hm1).2.2.2.2.2.2.2.2.2.2.2.2.2.2.2.2.2.2.2.2.2.2.2.2.2.2.2.2.2.2.2.2.2.2.2.2.2.2.2.1 x1 x2 x3 _ hz)
          · exact hW _ 389 [(0, .ref 1000), (1, .int x1), (2, .int x2), (3, .int x3)] _ _ _ (by simp [rdl, rky, Value.category]) ((ih m1 hm1).2.2.2.2.2.2.2.2.2.2.2.2.2.2.2.2.2.2.2.2.2.2.2.2.2.2.2.2.2.2.2.2.2.2.2.1 x1 x2 x3 _ hz)
        · intro x1 x2 x3 Y hz
          refine hB _ _ _ _ _ (fun m1 hm1 => ?_)
          dsimp only [ugo, uwp, ust, uct, rfd, Bbehind, Bbehind_389, Nat.beq, lv_args, rlk, rs1, rs2, rdl, rky, rcd, rno, rsw, Value.category, List.filter, List.take, List.drop, List.reverse, List.reverseAux, List.cons_append, List.nil_append, Option.toList, Int.toNat, Int.reduceToNat, if_pos, if_neg, reduceIte, ↓reduceIte, Nat.reduceAdd, Nat.reduceEqDiff, Nat.reduceBEq, beq_self_eq_true, Bool.not_true, Bool.not_false, Bool.and_true, Bool.and_false, Bool.true_and, Bool.false_and, gI_sI, gI_sL, gI_sA, gI_sM, gL_sI, gL_sL, gL_sA, gL_sM, aI_sI, aI_sL, aI_sA, aI_sM, aL_sI, aL_sL, aL_sA, aL_sM, oi_41]; try dsimp only
          refine ⟨trivial, fun w2 τ2 hq2 => ?_⟩
          obtain ⟨⟨r2, rfl⟩, hz2⟩ := hq2 c hz
          dsimp only [Option.toList, List.cons_append, List.nil_append, Nat.beq, gI_sI, gI_sL, gI_sA, gI_sM, gL_sI, gL_sL, gL_sA, gL_sM, aI_sI, aI_sL, aI_sA, aI_sM, aL_sI, aL_sL, aL_sA, aL_sM]
          refine ⟨fun h3 => ?_, fun h3 => ?_⟩
          · exact hW _ 427 [(0, .ref 1000), (1, .int x1), (2, .int x2), (3, .int x3)] _ _ _ (by simp [rdl, rky, Value.category]) ((ih m1 hm1).2.2.2.2.2.2.2.2.2.2.2.2.2.2.2.2.2.2.2.2.2.2.2.2.2.2.2.2.2.2.2.2.2.2.2.2.2.2.2.1 x1 x2 x3 _ hz2)
          · exact hW _ 398 [(0, .ref 1000), (1, .int x1), (2, .int x2), (3, .int x3)] _ _ _ (by simp [rdl, rky, Value.category]) ((ih m1 hm1).2.2.2.2.2.2.2.2.2.2.2.2.2.2.2.2.2.2.2.2.2.2.2.2.2.2.2.2.2.2.2.2.2.2.2.2.1 x1 x2 x3 _ hz2)
        · intro x1 x2 x3 Y hz
          refine hB _ _ _ _ _ (fun m1 hm1 => ?_)
          dsimp only [ugo, uwp, ust, uct, rfd, Bbehind, Bbehind_398, Nat.beq, lv_args, rlk, rs1, rs2, rdl, rky, rcd, rno, rsw, Value.category, List.filter, List.take, List.drop, List.reverse, List.reverseAux, List.cons_append, List.nil_append, Option.toList, Int.toNat, Int.reduceToNat, if_pos, if_neg, reduceIte, ↓reduceIte, Nat.reduceAdd, Nat.reduceEqDiff, Nat.reduceBEq, beq_self_eq_true, Bool.not_true, Bool.not_false, Bool.and_true, Bool.and_false, Bool.true_and, Bool.false_and, gI_sI, gI_sL, gI_sA, gI_sM, gL_sI, gL_sL, gL_sA, gL_sM, aI_sI, aI_sL, aI_sA, aI_sM, aL_sI, aL_sL, aL_sA, aL_sM, oi_1]; try dsimp only
          intro p2
          intro p3
          refine ⟨trivial, fun w4 τ4 hq4 => ?_⟩
          obtain ⟨⟨r4, rfl⟩, hz4⟩ := hq4 c (hz.a (by decide))
          dsimp only [Option.toList, List.cons_append, List.nil_append, Nat.beq, gI_sI, gI_sL, gI_sA, gI_sM, gL_sI, gL_sL, gL_sA, gL_sM, aI_sI, aI_sL, aI_sA, aI_sM, aL_sI, aL_sL, aL_sA, aL_sM]
          refine ⟨fun h5 => ?_, fun h5 => ?_⟩
          · exact hW _ 422 [(0, .ref 1000), (1, .int x1), (2, .int x2), (3, .int x3)] _ _ _ (by simp [rdl, rky, Value.category]) ((ih m1 hm1).2.2.2.2.2.2.2.2.2.2.2.2.2.2.2.2.2.2.2.2.2.2.2.2.2.2.2.2.2.2.2.2.2.2.2.2.2.2.1 x1 x2 x3 _ hz4)
          · exact hW _ 420 [(0, .ref 1000), (1, .int x1), (2, .int x2), (3, .int x3)] _ _ _ (by simp [rdl, rky, Value.category]) ((ih m1 hm1).2.2.2.2.2.2.2.2.2.2.2.2.2.2.2.2.2.2.2.2.2.2.2.2.2.2.2.2.2.2.2.2.2.2.2.2.2.1 x1 x2 x3 _ hz4)
        · intro x1 x2 x3 Y hz
          refine hB _ _ _ _ _ (fun m1 hm1 => ?_)
          dsimp only [ugo, uwp, ust, uct, rfd, Bbehind, Bbehind_420, Nat.beq, lv_args, rlk, rs1, rs2, rdl, rky, rcd, rno, rsw, Value.category, List.filter, List.take, List.drop, List.reverse, List.reverseAux, List.cons_append, List.nil_append, Option.toList, Int.toNat, Int.reduceToNat, if_pos, if_neg, reduceIte, ↓reduceIte, Nat.reduceAdd, Nat.reduceEqDiff, Nat.reduceBEq, beq_self_eq_true, Bool.not_true, Bool.not_false, Bool.and_true, Bool.and_false, Bool.true_and, Bool.false_and, gI_sI, gI_sL, gI_sA, gI_sM, gL_sI, gL_sL, gL_sA, gL_sM, aI_sI, aI_sL, aI_sA, aI_sM, aL_sI, aL_sL, aL_sA, aL_sM, oi_0]; try dsimp only
          unfold Qv_behindJ4
          try dsimp only
          exact ⟨⟨_, rfl⟩, hz⟩
        · intro x1 x2 x3 Y hz
          refine hB _ _ _ _ _ (fun m1 hm1 => ?_)
          dsimp only [ugo, uwp, ust, uct, rfd, Bbehind, Bbehind_422, Nat.beq, lv_args, rlk, rs1, rs2, rdl, rky, rcd, rno, rsw, Value.category, List.filter, List.take, List.drop, List.reverse, List.reverseAux, List.cons_append, List.nil_append, Option.toList, Int.toNat, Int.reduceToNat, if_pos, if_neg, reduceIte, ↓reduceIte, Nat.reduceAdd, Nat.reduceEqDiff, Nat.reduceBEq, beq_self_eq_true, Bool.not_true, Bool.not_false, Bool.and_true, Bool.and_false, Bool.true_and, Bool.false_and, gI_sI, gI_sL, gI_sA, gI_sM, gL_sI, gL_sL, gL_sA, gL_sM, aI_sI, aI_sL, aI_sA, aI_sM, aL_sI, aL_sL, aL_sA, aL_sM, oi_1]; try dsimp only
          exact hW _ 533 [(0, .ref 1000), (1, .int 1), (2, .int x2), (3, .int x3)] _ _ _ (by simp [rdl, rky, Value.category]) ((ih m1 hm1).2.2.2.2.2.2.2.2.2.2.2.2.2.2.2.2.2.2.2.2.2.2.2.2.2.2.2.2.2.2.2.2.2.2.2.2.2.2.2.2.2.2.2.2.2.1 1 x2 x3 _ hz)
        · intro x1 x2 x3 Y hz
          refine hB _ _ _ _ _ (fun m1 hm1 => ?_)
          dsimp only [ugo, uwp, ust, uct, rfd, Bbehind, Bbehind_427, Nat.beq, lv_args, rlk, rs1, rs2, rdl, rky, rcd, rno, rsw, Value.category, List.filter, List.take, List.drop, List.reverse, List.reverseAux, List.cons_append, List.nil_append, Option.toList, Int.toNat, Int.reduceToNat, if_pos, if_neg, reduceIte, ↓reduceIte, Nat.reduceAdd, Nat.reduceEqDiff, Nat.reduceBEq, beq_self_eq_true, Bool.not_true, Bool.not_false, Bool.and_true, Bool.and_false, Bool.true_and, Bool.false_and, gI_sI, gI_sL, gI_sA, gI_sM, gL_sI, gL_sL, gL_sA, gL_sM, aI_sI, aI_sL, aI_sA, aI_sM, aL_sI, aL_sL, aL_sA, aL_sM, oi_3]; try dsimp only
          refine ⟨fun h2 => ?_, fun h2 => ?_⟩
          · exact hW _ 528 [(0, .ref 1000), (1, .int x1), (2, .int x2), (3, .int x3)] _ _ _ (by simp [rdl, rky, Value.category]) ((ih m1 hm1).2.2.2.2.2.2.2.2.2.2.2.2.2.2.2.2.2.2.2.2.2.2.2.2.2.2.2.2.2.2.2.2.2.2.2.2.2.2.2.2.2.2.2.2.1 x1 x2 x3 _ hz)
          · exact hW _ 432 [(0, .ref 1000), (1, .int x1), (2, .int x2), (3, .int x3)] _ _ _ (by simp [rdl, rky, Value.category]) ((ih m1 hm1).2.2.2.2.2.2.2.2.2.2.2.2.2.2.2.2.2.2.2.2.2.2.2.2.2.2.2.2.2.2.2.2.2.2.2.2.2.2.2.2.1 x1 x2 x3 _ hz)
        · intro x1 x2 x3 Y hz
          refine hB _ _ _ _ _ (fun m1 hm1 => ?_)
          dsimp only [ugo, uwp, ust, uct, rfd, Bbehind, Bbehind_432, Nat.beq, lv_args, rlk, rs1, rs2, rdl, rky, rcd, rno, rsw, Value.category, List.filter, List.take, List.drop, List.reverse, List.reverseAux, List.cons_append, List.nil_append, Option.toList, Int.toNat, Int.reduceToNat, if_pos, if_neg, reduceIte, ↓reduceIte, Nat.reduceAdd, Nat.reduceEqDiff, Nat.reduceBEq, beq_self_eq_true, Bool.not_true, Bool.not_false, Bool.and_true, Bool.and_false, Bool.true_and, Bool.false_and, gI_sI, gI_sL, gI_sA, gI_sM, gL_sI, gL_sL, gL_sA, gL_sM, aI_sI, aI_sL, aI_sA, aI_sM, aL_sI, aL_sL, aL_sA, aL_sM, oi_41]; try dsimp only
          refine ⟨trivial, fun w2 τ2 hq2 => ?_⟩
          obtain ⟨⟨r2, rfl⟩, hz2⟩ := hq2 c hz
          dsimp only [Option.toList, List.cons_append, List.nil_append, Nat.beq, gI_sI, gI_sL, gI_sA, gI_sM, gL_sI, gL_sL, gL_sA, gL_sM, aI_sI, aI_sL, aI_sA, aI_sM, aL_sI, aL_sL, aL_sA, aL_sM]
          refine ⟨fun h3 => ?_, fun h3 => ?_⟩
          · exact hW _ 528 [(0, .ref 1000), (1, .int x1), (2, .int x2), (3, .int x3)] _ _ _ (by simp [rdl, rky, Value.category]) ((ih m1 hm1).2.2.2.2.2.2.2.2.2.2.2.2.2.2.2.2.2.2.2.2.2.2.2.2.2.2.2.2.2.2.2.2.2.2.2.2.2.2.2.2.2.2.2.2.1 x1 x2 x3 _ hz2)
          · exact hW _ 441 [(0, .ref 1000), (1, .int x1), (2, .int x2), (3, .int x3)] _ _ _ (by simp [rdl, rky, Value.category]) ((ih m1 hm1).2.2.2.2.2.2.2.2.2.2.2.2.2.2.2.2.2.2.2.2.2.2.2.2.2.2.2.2.2.2.2.2.2.2.2.2.2.2.2.2.2.1 x1 x2 x3 _ hz2)
        · intro x1 x2 x3 Y hz
          refine hB _ _ _ _ _ (fun m1 hm1 => ?_)
          dsimp only [ugo, uwp, ust, uct, rfd, Bbehind, Bbehind_441, Nat.beq, lv_args, rlk, rs1, rs2, rdl, rky, rcd, rno, rsw, Value.category, List.filter, List.take, List.drop, List.reverse, List.reverseAux, List.cons_append, List.nil_append, Option.toList, Int.toNat, Int.reduceToNat, if_pos, if_neg, reduceIte, ↓reduceIte, Nat.reduceAdd, Nat.reduceEqDiff, Nat.reduceBEq, beq_self_eq_true, Bool.not_true, Bool.not_false, Bool.and_true, Bool.and_false, Bool.true_and, Bool.false_and, gI_sI, gI_sL, gI_sA, gI_sM, gL_sI, gL_sL, gL_sA, gL_sM, aI_sI, aI_sL, aI_sA, aI_sM, aL_sI, aL_sL, aL_sA, aL_sM, oi_1]; try dsimp only
          intro p2
          refine ⟨trivial, fun w3 τ3 hq3 => ?_⟩
          obtain ⟨⟨r3, rfl⟩, hz3⟩ := hq3 c (hz.i (by decide))
          dsimp only [Option.toList, List.cons_append, List.nil_append, Nat.beq, gI_sI, gI_sL, gI_sA, gI_sM, gL_sI, gL_sL, gL_sA, gL_sM, aI_sI, aI_sL, aI_sA, aI_sM, aL_sI, aL_sL, aL_sA, aL_sM]
          refine ⟨fun h4 => ?_, fun h4 => ?_⟩
          · exact hW _ 477 [(0, .ref 1000), (1, .int x1), (2, .int x2), (3, .int x3), (4, .int ((aI Y 27) (((gI Y 29) - 1)).toNatClampNeg)), (5, .int (gI Y 14))] _ _ _ (by simp [rdl, rky, Value.category]) ((ih m1 hm1).2.2.2.2.2.2.2.2.2.2.2.2.2.2.2.2.2.2.2.2.2.2.2.2.2.2.2.2.2.2.2.2.2.2.2.2.2.2.2.2.2.2.2.1 x1 x2 x3 ((aI Y 27) (((gI Y 29) - 1)).toNatClampNeg) (gI Y 14) _ hz3)
          · exact hW _ 475 [(0, .ref 1000), (1, .int x1), (2, .int x2), (3, .int x3), (4, .int ((aI Y 27) (((gI Y 29) - 1)).toNatClampNeg)), (5, .int (gI Y 14))] _ _ _ (by simp [rdl, rky, Value.category]) ((ih m1 hm1).2.2.2.2.2.2.2.2.2.2.2.2.2.2.2.2.2.2.2.2.2.2.2.2.2.2.2.2.2.2.2.2.2.2.2.2.2.2.2.2.2.2.1 x1 x2 x3 ((aI Y 27) (((gI Y 29) - 1)).toNatClampNeg) (gI Y 14) _ hz3)
        · intro x1 x2 x3 x4 x5 Y hz
          refine hB _ _ _ _ _ (fun m1 hm1 => ?_)
          dsimp only [ugo, uwp, ust, uct, rfd, Bbehind, Bbehind_475, Nat.beq, lv_args, rlk, rs1, rs2, rdl, rky, rcd, rno, rsw, Value.category, List.filter, List.take, List.drop, List.reverse, List.reverseAux, List.cons_append, List.nil_append, Option.toList, Int.toNat, Int.reduceToNat, if_pos, if_neg, reduceIte, ↓reduceIte, Nat.reduceAdd, Nat.reduceEqDiff, Nat.reduceBEq, beq_self_eq_true, Bool.not_true, Bool.not_false, Bool.and_true, Bool.and_false, Bool.true_and, Bool.false_and, gI_sI, gI_sL, gI_sA, gI_sM, gL_sI, gL_sL, gL_sA, gL_sM, aI_sI, aI_sL, aI_sA, aI_sM, aL_sI, aL_sL, aL_sA, aL_sM, oi_0]; try dsimp only
          unfold Qv_behindJ4
          try dsimp only
          exact ⟨⟨_, rfl⟩, hz⟩
        · intro x1 x2 x3 x4 x5 Y hz
          refine hB _ _ _ _ _ (fun m1 hm1 => ?_)
          dsimp only [ugo, uwp, ust, uct, rfd, Bbehind, Bbehind_477, Nat.beq, lv_args, rlk, rs1, rs2, rdl, rky, rcd, rno, rsw, Value.category, List.filter, List.take, List.drop, List.reverse, List.reverseAux, List.cons_append, List.nil_append, Option.toList, Int.toNat, Int.reduceToNat, if_pos, if_neg, reduceIte, ↓reduceIte, Nat.reduceAdd, Nat.reduceEqDiff, Nat.reduceBEq, beq_self_eq_true, Bool.not_true, Bool.not_false, Bool.and_true, Bool.and_false, Bool.true_and, Bool.false_and, gI_sI, gI_sL, gI_sA, gI_sM, gL_sI, gL_sL, gL_sA, gL_sM, aI_sI, aI_sL, aI_sA, aI_sM, aL_sI, aL_sL, aL_sA, aL_sM, oi_0, oi_1, oi_15]; try dsimp only
          intro p2
          refine ⟨trivial, fun w3 τ3 hq3 => ?_⟩
          obtain ⟨⟨r3, rfl⟩, hz3⟩ := hq3 c ((hz.i (by decide)).a (by decide))
          dsimp only [Option.toList, List.cons_append, List.nil_append, Nat.beq, gI_sI, gI_sL, gI_sA, gI_sM, gL_sI, gL_sL, gL_sA, gL_sM, aI_sI, aI_sL, aI_sA, aI_sM, aL_sI, aL_sL, aL_sA, aL_sM]
          exact hW _ 533 [(0, .ref 1000), (1, .int 1), (2, .int x2), (3, .int x3)] _ _ _ (by simp [rdl, rky, Value.category]) ((ih m1 hm1).2.2.2.2.2.2.2.2.2.2.2.2.2.2.2.2.2.2.2.2.2.2.2.2.2.2.2.2.2.2.2.2.2.2.2.2.2.2.2.2.2.2.2.2.2.1 1 x2 x3 _ ((hz3.i (by decide)).i (by decide)))
        · intro x1 x2 x3 Y hz
          refine hB _ _ _ _ _ (fun m1 hm1 => ?_)
          dsimp only [ugo, uwp, ust, uct, rfd, Bbehind, Bbehind_528, Nat.beq, lv_args, rlk, rs1, rs2, rdl, rky, rcd, rno, rsw, Value.category, List.filter, List.take, List.drop, List.reverse, List.reverseAux, List.cons_append, List.nil_append, Option.toList, Int.toNat, Int.reduceToNat, if_pos, if_neg, reduceIte, ↓reduceIte, Nat.reduceAdd, Nat.reduceEqDiff, Nat.reduceBEq, beq_self_eq_true, Bool.not_true, Bool.not_false, Bool.and_true, Bool.and_false, Bool.true_and, Bool.false_and, gI_sI, gI_sL, gI_sA, gI_sM, gL_sI, gL_sL, gL_sA, gL_sM, aI_sI, aI_sL, aI_sA, aI_sM, aL_sI, aL_sL, aL_sA, aL_sM]; try dsimp only
          refine ⟨trivial, fun w2 τ2 hq2 => ?_⟩
          obtain ⟨rfl, hz2⟩ := hq2 c hz
          dsimp only [Option.toList, List.cons_append, List.nil_append, Nat.beq, gI_sI, gI_sL, gI_sA, gI_sM, gL_sI, gL_sL, gL_sA, gL_sM, aI_sI, aI_sL, aI_sA, aI_sM, aL_sI, aL_sL, aL_sA, aL_sM]
          unfold Qv_behindJ4
          try dsimp only
          exact ⟨⟨_, rfl⟩, hz2⟩
        · intro x1 x2 x3 Y hz
          refine hB _ _ _ _ _ (fun m1 hm1 => ?_)
          dsimp only [ugo, uwp, ust, uct, rfd, Bbehind, Bbehind_533, Nat.beq, lv_args, rlk, rs1, rs2, rdl, rky, rcd, rno, rsw, Value.category, List.filter, List.take, List.drop, List.reverse, List.reverseAux, List.cons_append, List.nil_append, Option.toList, Int.toNat, Int.reduceToNat, if_pos, if_neg, reduceIte, ↓reduceIte, Nat.reduceAdd, Nat.reduceEqDiff, Nat.reduceBEq, beq_self_eq_true, Bool.not_true, Bool.not_false, Bool.and_true, Bool.and_false, Bool.true_and, Bool.false_and, gI_sI, gI_sL, gI_sA, gI_sM, gL_sI, gL_sL, gL_sA, gL_sM, aI_sI, aI_sL, aI_sA, aI_sM, aL_sI, aL_sL, aL_sA, aL_sM]; try dsimp only
          exact hW _ 2 [(0, .ref 1000), (1, .int x1)] _ _ _ (by simp [rdl, rky, Value.category]) ((ih m1 hm1).2.1 x1 _ hz)
        · intro x1 Y hz
          refine hB _ _ _ _ _ (fun m1 hm1 => ?_)
          dsimp only [ugo, uwp, ust, uct, rfd, Bbehind, Bbehind_536, Nat.beq, lv_args, rlk, rs1, rs2, rdl, rky, rcd, rno, rsw, Value.category, List.filter, List.take, List.drop, List.reverse, List.reverseAux, List.cons_append, List.nil_append, Option.toList, Int.toNat, Int.reduceToNat, if_pos, if_neg, reduceIte, ↓reduceIte, Nat.reduceAdd, Nat.reduceEqDiff, Nat.reduceBEq, beq_self_eq_true, Bool.not_true, Bool.not_false, Bool.and_true, Bool.and_false, Bool.true_and, Bool.false_and, gI_sI, gI_sL, gI_sA, gI_sM, gL_sI, gL_sL, gL_sA, gL_sM, aI_sI, aI_sL, aI_sA, aI_sM, aL_sI, aL_sL, aL_sA, aL_sM, oi_1]; try dsimp only
          unfold Qv_behindJ4
          try dsimp only
          exact ⟨⟨_, rfl⟩, hz⟩
    intro n0
    exact (all n0).1  σ hP
  next => exact hP.elim
theorem w_behindJ4 : UMet 34 (fun _ _ => True) Qw_behindJ4 := fun A1 σ _ w τ h c hP => v_behindJ4 c A1 σ hP w τ h
def Pv_isTypeJ4 (c : RS) : UP1 := fun A1 σ => match A1 with
  | [.int a1] => J4 c σ
  | _ => False
def Qv_isTypeJ4 (c : RS) : UQ1 := fun A1 σ w τ => match A1 with
  | [.int a1] => (∃ r : Int32, w = some (.int r)) ∧ J4 c τ
  | _ => False
def Qw_isTypeJ4 : UQ1 := fun A1 σ w τ => ∀ (c : RS), Pv_isTypeJ4 c A1 σ → Qv_isTypeJ4 c A1 σ w τ
set_option maxRecDepth 100000 in
set_option maxHeartbeats 4000000 in
theorem v_isTypeJ4 (c : RS) : UMet 23 (Pv_isTypeJ4 c) (Qv_isTypeJ4 c) := by
  refine UMet.by BisType [] rfl uc0 ?_
  intro A1 σ hP K hB hW
  unfold Pv_isTypeJ4 at hP
  split at hP
  next a1 =>
    have all : ∀ N : Nat, (∀ (x1 : Int32) (Y : RS), J4 c Y → K N 0 [(0, .ref 1000), (1, .int x1)] [] Y) ∧ (∀ (x1 : Int32) (Y : RS), J4 c Y → K N 10 [(0, .ref 1000), (1, .int x1)] [] Y) ∧ (∀ (x1 : Int32) (Y : RS), J4 c Y → K N 20 [(0, .ref 1000), (1, .int x1)] [] Y) ∧ (∀ (x1 : Int32) (Y : RS), J4 c Y → K N 24 [(0, .ref 1000), (1, .int x1)] [] Y) ∧ (∀ (x1 : Int32) (s0 : Int32) (Y : RS), J4 c Y → K N 25 [(0, .ref 1000), (1, .int x1)] [.int s0] Y) := by
      intro N
      induction N using Nat.strongRecOn with
      | ind N ih =>
        refine ⟨?_, ?_, ?_, ?_, ?_⟩
        · intro x1 Y hz
          refine hB _ _ _ _ _ (fun m1 hm1 => ?_)
          dsimp only [ugo, uwp, ust, uct, rfd, BisType, BisType_0, Nat.beq, lv_args, rlk, rs1, rs2, rdl, rky, rcd, rno, rsw, Value.category, List.filter, List.take, List.drop, List.reverse, List.reverseAux, List.cons_append, List.nil_append, Option.toList, Int.toNat, Int.reduceToNat, if_pos, if_neg, reduceIte, ↓reduceIte, Nat.reduceAdd, Nat.reduceEqDiff, Nat.reduceBEq, beq_self_eq_true, Bool.not_true, Bool.not_false, Bool.and_true, Bool.and_false, Bool.true_and, Bool.false_and, gI_sI, gI_sL, gI_sA, gI_sM, gL_sI, gL_sL, gL_sA, gL_sM, aI_sI, aI_sL, aI_sA, aI_sM, aL_sI, aL_sL, aL_sA, aL_sM, oi_4]; try dsimp only
          intro p2
          refine ⟨fun h3 => ?_, fun h3 => ?_⟩
          · exact hW _ 24 [(0, .ref 1000), (1, .int x1)] _ _ _ (by simp [rdl, rky, Value.category]) ((ih m1 hm1).2.2.2.1 x1 _ hz)
          · exact hW _ 10 [(0, .ref 1000), (1, .int x1)] _ _ _ (by simp [rdl, rky, Value.category]) ((ih m1 hm1).2.1 x1 _ hz)
        · intro x1 Y hz
          refine hB _ _ _ _ _ (fun m1 hm1 => ?_)
          dsimp only [ugo, uwp, ust, uct, rfd, BisType, BisType_10, Nat.beq, lv_args, rlk, rs1, rs2, rdl, rky, rcd, rno, rsw, Value.category, List.filter, List.take, List.drop, List.reverse, List.reverseAux, List.cons_append, List.nil_append, Option.toList, Int.toNat, Int.reduceToNat, if_pos, if_neg, reduceIte, ↓reduceIte, Nat.reduceAdd, Nat.reduceEqDiff, Nat.reduceBEq, beq_self_eq_true, Bool.not_true, Bool.not_false, Bool.and_true, Bool.and_false, Bool.true_and, Bool.false_and, gI_sI, gI_sL, gI_sA, gI_sM, gL_sI, gL_sL, gL_sA, gL_sM, aI_sI, aI_sL, aI_sA, aI_sM, aL_sI, aL_sL, aL_sA, aL_sM, oi_4]; try dsimp only
          intro p2
          refine ⟨fun h3 => ?_, fun h3 => ?_⟩
          · exact hW _ 24 [(0, .ref 1000), (1, .int x1)] _ _ _ (by simp [rdl, rky, Value.category]) ((ih m1 hm1).2.2.2.1 x1 _ hz)
          · exact hW _ 20 [(0, .ref 1000), (1, .int x1)] _ _ _ (by simp [rdl, rky, Value.category]) ((ih m1 hm1).2.2.1 x1 _ hz)
        · intro x1 Y hz
          refine hB _ _ _ _ _ (fun m1 hm1 => ?_)
          dsimp only [ugo, uwp, ust, uct, rfd, BisType, BisType_20, Nat.beq, lv_args, rlk, rs1, rs2, rdl, rky, rcd, rno, rsw, Value.category, List.filter, List.take, List.drop, List.reverse, List.reverseAux, List.cons_append, List.nil_append, Option.toList, Int.toNat, Int.reduceToNat, if_pos, if_neg, reduceIte, ↓reduceIte, Nat.reduceAdd, Nat.reduceEqDiff, Nat.reduceBEq, beq_self_eq_true, Bool.not_true, Bool.not_false, Bool.and_true, Bool.and_false, Bool.true_and, Bool.false_and, gI_sI, gI_sL, gI_sA, gI_sM, gL_sI, gL_sL, gL_sA, gL_sM, aI_sI, aI_sL, aI_sA, aI_sM, aL_sI, aL_sL, aL_sA, aL_sM, oi_1]; try dsimp only
          exact hW _ 25 [(0, .ref 1000), (1, .int x1)] _ _ _ (by simp [rdl, rky, Value.category]) ((ih m1 hm1).2.2.2.2 x1 1 _ hz)
        · intro x1 Y hz
          refine hB _ _ _ _ _ (fun m1 hm1 => ?_)
          dsimp only [ugo, uwp, ust, uct, rfd, BisType, BisType_24, Nat.beq, lv_args, rlk, rs1, rs2, rdl, rky, rcd, rno, rsw, Value.category, List.filter, List.take, List.drop, List.reverse, List.reverseAux, List.cons_append, List.nil_append, Option.toList, Int.toNat, Int.reduceToNat, if_pos, if_neg, reduceIte, ↓reduceIte, Nat.reduceAdd, Nat.reduceEqDiff, Nat.reduceBEq, beq_self_eq_true, Bool.not_true, Bool.not_false, Bool.and_true, Bool.and_false, Bool.true_and, Bool.false_and, gI_sI, gI_sL, gI_sA, gI_sM, gL_sI, gL_sL, gL_sA, gL_sM, aI_sI, aI_sL, aI_sA, aI_sM, aL_sI, aL_sL, aL_sA, aL_sM, oi_0]; try dsimp only
          exact hW _ 25 [(0, .ref 1000), (1, .int x1)] _ _ _ (by simp [rdl, rky, Value.category]) ((ih m1 hm1).2.2.2.2 x1 0 _ hz)
        · intro x1 s0 Y hz
          refine hB _ _ _ _ _ (fun m1 hm1 => ?_)
          dsimp only [ugo, uwp, ust, uct, rfd, BisType, BisType_25, Nat.beq, lv_args, rlk, rs1, rs2, rdl, rky, rcd, rno, rsw, Value.category, List.filter, List.take, List.drop, List.reverse, List.reverseAux, List.cons_append, List.nil_append, Option.toList, Int.toNat, Int.reduceToNat, if_pos, if_neg, reduceIte, ↓reduceIte, Nat.reduceAdd, Nat.reduceEqDiff, Nat.reduceBEq, beq_self_eq_true, Bool.not_true, Bool.not_false, Bool.and_true, Bool.and_false, Bool.true_and, Bool.false_and, gI_sI, gI_sL, gI_sA, gI_sM, gL_sI, gL_sL, gL_sA, gL_sM, aI_sI, aI_sL, aI_sA, aI_sM, aL_sI, aL_sL, aL_sA, aL_sM]; try dsimp only
          unfold Qv_isTypeJ4
          try dsimp only
          exact ⟨⟨_, rfl⟩, hz⟩
    intro n0
    exact (all n0).1 a1 σ hP
  next => exact hP.elim
theorem w_isTypeJ4 : UMet 23 (fun _ _ => True) Qw_isTypeJ4 := fun A1 σ _ w τ h c hP => v_isTypeJ4 c A1 σ hP w τ h
def Pv_isWordJ4 (c : RS) : UP1 := fun A1 σ => match A1 with
  | [.int a1] => J4 c σ
  | _ => False
def Qv_isWordJ4 (c : RS) : UQ1 := fun A1 σ w τ => match A1 with
  | [.int a1] => (∃ r : Int32, w = some (.int r)) ∧ J4 c τ
  | _ => False
def Qw_isWordJ4 : UQ1 := fun A1 σ w τ => ∀ (c : RS), Pv_isWordJ4 c A1 σ → Qv_isWordJ4 c A1 σ w τ
set_option maxRecDepth 100000 in
set_option maxHeartbeats 4000000 in
theorem v_isWordJ4 (c : RS) : UMet 15 (Pv_isWordJ4 c) (Qv_isWordJ4 c) := by
  refine UMet.by BisWord [] rfl uc0 ?_
  intro A1 σ hP K hB hW
  unfold Pv_isWordJ4 at hP
  split at hP
  next a1 =>
    have all : ∀ N : Nat, (∀ (x1 : Int32) (Y : RS), J4 c Y → K N 0 [(0, .ref 1000), (1, .int x1)] [] Y) ∧ (∀ (x1 : Int32) (Y : RS), J4 c Y → K N 13 [(0, .ref 1000), (1, .int x1)] [] Y) ∧ (∀ (x1 : Int32) (Y : RS), J4 c Y → K N 26 [(0, .ref 1000), (1, .int x1)] [] Y) ∧ (∀ (x1 : Int32) (Y : RS), J4 c Y → K N 30 [(0, .ref 1000), (1, .int x1)] [] Y) ∧ (∀ (x1 : Int32) (s0 : Int32) (Y : RS), J4 c Y → K N 31 [(0, .ref 1000), (1, .int x1)] [.int s0] Y) := by
      intro N
      induction N using Nat.strongRecOn with
      | ind N ih =>
        refine ⟨?_, ?_, ?_, ?_, ?_⟩
        · intro x1 Y hz
          refine hB _ _ _ _ _ (fun m1 hm1 => ?_)
          dsimp only [ugo, uwp, ust, uct, rfd, BisWord, BisWord_0, Nat.beq, lv_args, rlk, rs1, rs2, rdl, rky, rcd, rno, rsw, Value.category, List.filter, List.take, List.drop, List.reverse, List.reverseAux, List.cons_append, List.nil_append, Option.toList, Int.toNat, Int.reduceToNat, if_pos, if_neg, reduceIte, ↓reduceIte, Nat.reduceAdd, Nat.reduceEqDiff, Nat.reduceBEq, beq_self_eq_true, Bool.not_true, Bool.not_false, Bool.and_true, Bool.and_false, Bool.true_and, Bool.false_and, gI_sI, gI_sL, gI_sA, gI_sM, gL_sI, gL_sL, gL_sA, gL_sM, aI_sI, aI_sL, aI_sA, aI_sM, aL_sI, aL_sL, aL_sA, aL_sM, oi_4]; try dsimp only
          intro p2
          refine ⟨fun h3 => ?_, fun h3 => ?_⟩
          · exact hW _ 30 [(0, .ref 1000), (1, .int x1)] _ _ _ (by simp [rdl, rky, Value.category]) ((ih m1 hm1).2.2.2.1 x1 _ hz)
          · exact hW _ 13 [(0, .ref 1000), (1, .int x1)] _ _ _ (by simp [rdl, rky, Value.category]) ((ih m1 hm1).2.1 x1 _ hz)
        · intro x1 Y hz
          refine hB _ _ _ _ _ (fun m1 hm1 => ?_)
          dsimp only [ugo, uwp, ust, uct, rfd, BisWord, BisWord_13, Nat.beq, lv_args, rlk, rs1, rs2, rdl, rky, rcd, rno, rsw, Value.category, List.filter, List.take, List.drop, List.reverse, List.reverseAux, List.cons_append, List.nil_append, Option.toList, Int.toNat, Int.reduceToNat, if_pos, if_neg, reduceIte, ↓reduceIte, Nat.reduceAdd, Nat.reduceEqDiff, Nat.reduceBEq, beq_self_eq_true, Bool.not_true, Bool.not_false, Bool.and_true, Bool.and_false, Bool.true_and, Bool.false_and, gI_sI, gI_sL, gI_sA, gI_sM, gL_sI, gL_sL, gL_sA, gL_sM, aI_sI, aI_sL, aI_sA, aI_sM, aL_sI, aL_sL, aL_sA, aL_sM]; try dsimp only
          intro p2
          refine ⟨fun h3 => ?_, fun h3 => ?_⟩
          · exact hW _ 30 [(0, .ref 1000), (1, .int x1)] _ _ _ (by simp [rdl, rky, Value.category]) ((ih m1 hm1).2.2.2.1 x1 _ hz)
          · exact hW _ 26 [(0, .ref 1000), (1, .int x1)] _ _ _ (by simp [rdl, rky, Value.category]) ((ih m1 hm1).2.2.1 x1 _ hz)
        · intro x1 Y hz
          refine hB _ _ _ _ _ (fun m1 hm1 => ?_)
          dsimp only [ugo, uwp, ust, uct, rfd, BisWord, BisWord_26, Nat.beq, lv_args, rlk, rs1, rs2, rdl, rky, rcd, rno, rsw, Value.category, List.filter, List.take, List.drop, List.reverse, List.reverseAux, List.cons_append, List.nil_append, Option.toList, Int.toNat, Int.reduceToNat, if_pos, if_neg, reduceIte, ↓reduceIte, Nat.reduceAdd, Nat.reduceEqDiff, Nat.reduceBEq, beq_self_eq_true, Bool.not_true, Bool.not_false, Bool.and_true, Bool.and_false, Bool.true_and, Bool.false_and, gI_sI, gI_sL, gI_sA, gI_sM, gL_sI, gL_sL, gL_sA, gL_sM, aI_sI, aI_sL, aI_sA, aI_sM, aL_sI, aL_sL, aL_sA, aL_sM, oi_1]; try dsimp only
          exact hW _ 31 [(0, .ref 1000), (1, .int x1)] _ _ _ (by simp [rdl, rky, Value.category]) ((ih m1 hm1).2.2.2.2 x1 1 _ hz)
        · intro x1 Y hz
          refine hB _ _ _ _ _ (fun m1 hm1 => ?_)
          dsimp only [ugo, uwp, ust, uct, rfd, BisWord, BisWord_30, Nat.beq, lv_args, rlk, rs1, rs2, rdl, rky, rcd, rno, rsw, Value.category, List.filter, List.take, List.drop, List.reverse, List.reverseAux, List.cons_append, List.nil_append, Option.toList, Int.toNat, Int.reduceToNat, if_pos, if_neg, reduceIte, ↓reduceIte, Nat.reduceAdd, Nat.reduceEqDiff, Nat.reduceBEq, beq_self_eq_true, Bool.not_true, Bool.not_false, Bool.and_true, Bool.and_false, Bool.true_and, Bool.false_and, gI_sI, gI_sL, gI_sA, gI_sM, gL_sI, gL_sL, gL_sA, gL_sM, aI_sI, aI_sL, aI_sA, aI_sM, aL_sI, aL_sL, aL_sA, aL_sM, oi_0]; try dsimp only
          exact hW _ 31 [(0, .ref 1000), (1, .int x1)] _ _ _ (by simp [rdl, rky, Value.category]) ((ih m1 hm1).2.2.2.2 x1 0 _ hz)
        · intro x1 s0 Y hz
          refine hB _ _ _ _ _ (fun m1 hm1 => ?_)
          dsimp only [ugo, uwp, ust, uct, rfd, BisWord, BisWord_31, Nat.beq, lv_args, rlk, rs1, rs2, rdl, rky, rcd, rno, rsw, Value.category, List.filter, List.take, List.drop, List.reverse, List.reverseAux, List.cons_append, List.nil_append, Option.toList, Int.toNat, Int.reduceToNat, if_pos, if_neg, reduceIte, ↓reduceIte, Nat.reduceAdd, Nat.reduceEqDiff, Nat.reduceBEq, beq_self_eq_true, Bool.not_true, Bool.not_false, Bool.and_true, Bool.and_false, Bool.true_and, Bool.false_and, gI_sI, gI_sL, gI_sA, gI_sM, gL_sI, gL_sL, gL_sA, gL_sM, aI_sI, aI_sL, aI_sA, aI_sM, aL_sI, aL_sL, aL_sA, aL_sM]; try dsimp only
          unfold Qv_isWordJ4
          try dsimp only
          exact ⟨⟨_, rfl⟩, hz⟩
    intro n0
    exact (all n0).1 a1 σ hP
  next => exact hP.elim
theorem w_isWordJ4 : UMet 15 (fun _ _ => True) Qw_isWordJ4 := fun A1 σ _ w τ h c hP => v_isWordJ4 c A1 σ hP w τ h
def Pv_isSetAtJ4 (c : RS) : UP1 := fun A1 σ => match A1 with
  | [.int a1] => J4 c σ
  | _ => False
def Qv_isSetAtJ4 (c : RS) : UQ1 := fun A1 σ w τ => match A1 with
  | [.int a1] => (∃ r : Int32, w = some (.int r)) ∧ J4 c τ
  | _ => False
def Qw_isSetAtJ4 : UQ1 := fun A1 σ w τ => ∀ (c : RS), Pv_isSetAtJ4 c A1 σ → Qv_isSetAtJ4 c A1 σ w τ
set_option maxRecDepth 100000 in
set_option maxHeartbeats 4000000 in
theorem v_isSetAtJ4 (c : RS) : UMet 24 (Pv_isSetAtJ4 c) (Qv_isSetAtJ4 c) := by
  refine UMet.by BisSetAt [] rfl uc0 ?_
  intro A1 σ hP K hB hW
  unfold Pv_isSetAtJ4 at hP
  split at hP
  next a1 =>
    have all : ∀ N : Nat, (∀ (x1 : Int32) (Y : RS), J4 c Y → K N 0 [(0, .ref 1000), (1, .int x1)] [] Y) ∧ (∀ (x1 : Int32) (Y : RS), J4 c Y → K N 10 [(0, .ref 1000), (1, .int x1)] [] Y) ∧ (∀ (x1 : Int32) (Y : RS), J4 c Y → K N 21 [(0, .ref 1000), (1, .int x1)] [] Y) ∧ (∀ (x1 : Int32) (Y : RS), J4 c Y → K N 33 [(0, .ref 1000), (1, .int x1)] [] Y) ∧ (∀ (x1 : Int32) (Y : RS), J4 c Y → K N 37 [(0, .ref 1000), (1, .int x1)] [] Y) ∧ (∀ (x1 : Int32) (s0 : Int32) (Y : RS), J4 c Y → K N 38 [(0, .ref 1000), (1, .int x1)] [.int s0] Y) := by
      intro N
      induction N using Nat.strongRecOn with
      | ind N ih =>
        refine ⟨?_, ?_, ?_, ?_, ?_, ?_⟩
        · intro x1 Y hz
          refine hB _ _ _ _ _ (fun m1 hm1 => ?_)
          dsimp only [ugo, uwp, ust, uct, rfd, BisSetAt, BisSetAt_0, Nat.beq, lv_args, rlk, rs1, rs2, rdl, rky, rcd, rno, rsw, Value.category, List.filter, List.take, List.drop, List.reverse, List.reverseAux, List.cons_append, List.nil_append, Option.toList, Int.toNat, Int.reduceToNat, if_pos, if_neg, reduceIte, ↓reduceIte, Nat.reduceAdd, Nat.reduceEqDiff, Nat.reduceBEq, beq_self_eq_true, Bool.not_true, Bool.not_false, Bool.and_true, Bool.and_false, Bool.true_and, Bool.false_and, gI_sI, gI_sL, gI_sA, gI_sM, gL_sI, gL_sL, gL_sA, gL_sM, aI_sI, aI_sL, aI_sA, aI_sM, aL_sI, aL_sL, aL_sA, aL_sM, oi_5]; try dsimp only
          intro p2
          refine ⟨fun h3 => ?_, fun h3 => ?_⟩
          · exact hW _ 37 [(0, .ref 1000), (1, .int x1)] _ _ _ (by simp [rdl, rky, Value.category]) ((ih m1 hm1).2.2.2.2.1 x1 _ hz)
          · exact hW _ 10 [(0, .ref 1000), (1, .int x1)] _ _ _ (by simp [rdl, rky, Value.category]) ((ih m1 hm1).2.1 x1 _ hz)
        · intro x1 Y hz
          refine hB _ _ _ _ _ (fun m1 hm1 => ?_)
          dsimp only [ugo, uwp, ust, uct, rfd, BisSetAt, BisSetAt_10, Nat.beq, lv_args, rlk, rs1, rs2, rdl, rky, rcd, rno, rsw, Value.category, List.filter, List.take, List.drop, List.reverse, List.reverseAux, List.cons_append, List.nil_append, Option.toList, Int.toNat, Int.reduceToNat, if_pos, if_neg, reduceIte, ↓reduceIte, Nat.reduceAdd, Nat.reduceEqDiff, Nat.reduceBEq, beq_self_eq_true, Bool.not_true, Bool.not_false, Bool.and_true, Bool.and_false, Bool.true_and, Bool.false_and, gI_sI, gI_sL, gI_sA, gI_sM, gL_sI, gL_sL, gL_sA, gL_sM, aI_sI, aI_sL, aI_sA, aI_sM, aL_sI, aL_sL, aL_sA, aL_sM, oi_61]; try dsimp only
          intro p2
          refine ⟨fun h3 => ?_, fun h3 => ?_⟩
          · exact hW _ 33 [(0, .ref 1000), (1, .int x1)] _ _ _ (by simp [rdl, rky, Value.category]) ((ih m1 hm1).2.2.2.1 x1 _ hz)
          · exact hW _ 21 [(0, .ref 1000), (1, .int x1)] _ _ _ (by simp [rdl, rky, Value.category]) ((ih m1 hm1).2.2.1 x1 _ hz)
        · intro x1 Y hz
          refine hB _ _ _ _ _ (fun m1 hm1 => ?_)
          dsimp only [ugo, uwp, ust, uct, rfd, BisSetAt, BisSetAt_21, Nat.beq, lv_args, rlk, rs1, rs2, rdl, rky, rcd, rno, rsw, Value.category, List.filter, List.take, List.drop, List.reverse, List.reverseAux, List.cons_append, List.nil_append, Option.toList, Int.toNat, Int.reduceToNat, if_pos, if_neg, reduceIte, ↓reduceIte, Nat.reduceAdd, Nat.reduceEqDiff, Nat.reduceBEq, beq_self_eq_true, Bool.not_true, Bool.not_false, Bool.and_true, Bool.and_false, Bool.true_and, Bool.false_and, gI_sI, gI_sL, gI_sA, gI_sM, gL_sI, gL_sL, gL_sA, gL_sM, aI_sI, aI_sL, aI_sA, aI_sM, aL_sI, aL_sL, aL_sA, aL_sM, oi_400]; try dsimp only
          intro p2
          refine ⟨fun h3 => ?_, fun h3 => ?_⟩
          · exact hW _ 37 [(0, .ref 1000), (1, .int x1)] _ _ _ (by simp [rdl, rky, Value.category]) ((ih m1 hm1).2.2.2.2.1 x1 _ hz)
          · exact hW _ 33 [(0, .ref 1000), (1, .int x1)] _ _ _ (by simp [rdl, rky, Value.category]) ((ih m1 hm1).2.2.2.1 x1 _ hz)
        · intro x1 Y hz
          refine hB _ _ _ _ _ (fun m1 hm1 => ?_)
          dsimp only [ugo, uwp, ust, uct, rfd, BisSetAt, BisSetAt_33, Nat.beq, lv_args, rlk, rs1, rs2, rdl, rky, rcd, rno, rsw, Value.category, List.filter, List.take, List.drop, List.reverse, List.reverseAux, List.cons_append, List.nil_append, Option.toList, Int.toNat, Int.reduceToNat, if_pos, if_neg, reduceIte, ↓reduceIte, Nat.reduceAdd, Nat.reduceEqDiff, Nat.reduceBEq, beq_self_eq_true, Bool.not_true, Bool.not_false, Bool.and_true, Bool.and_false, Bool.true_and, Bool.false_and, gI_sI, gI_sL, gI_sA, gI_sM, gL_sI, gL_sL, gL_sA, gL_sM, aI_sI, aI_sL, aI_sA, aI_sM, aL_sI, aL_sL, aL_sA, aL_sM, oi_1]; try dsimp only
          exact hW _ 38 [(0, .ref 1000), (1, .int x1)] _ _ _ (by simp [rdl, rky, Value.category]) ((ih m1 hm1).2.2.2.2.2 x1 1 _ hz)
        · intro x1 Y hz
          refine hB _ _ _ _ _ (fun m1 hm1 => ?_)
          dsimp only [ugo, uwp, ust, uct, rfd, BisSetAt, BisSetAt_37, Nat.beq, lv_args, rlk, rs1, rs2, rdl, rky, rcd, rno, rsw, Value.category, List.filter, List.take, List.drop, List.reverse, List.reverseAux, List.cons_append, List.nil_append, Option.toList, Int.toNat, Int.reduceToNat, if_pos, if_neg, reduceIte, ↓reduceIte, Nat.reduceAdd, Nat.reduceEqDiff, Nat.reduceBEq, beq_self_eq_true, Bool.not_true, Bool.not_false, Bool.and_true, Bool.and_false, Bool.true_and, Bool.false_and, gI_sI, gI_sL, gI_sA, gI_sM, gL_sI, gL_sL, gL_sA, gL_sM, aI_sI, aI_sL, aI_sA, aI_sM, aL_sI, aL_sL, aL_sA, aL_sM, oi_0]; try dsimp only
          exact hW _ 38 [(0, .ref 1000), (1, .int x1)] _ _ _ (by simp [rdl, rky, Value.category]) ((ih m1 hm1).2.2.2.2.2 x1 0 _ hz)
        · intro x1 s0 Y hz
          refine hB _ _ _ _ _ (fun m1 hm1 => ?_)
          dsimp only [ugo, uwp, ust, uct, rfd, BisSetAt, BisSetAt_38, Nat.beq, lv_args, rlk, rs1, rs2, rdl, rky, rcd, rno, rsw, Value.category, List.filter, List.take, List.drop, List.reverse, List.reverseAux, List.cons_append, List.nil_append, Option.toList, Int.toNat, Int.reduceToNat, if_pos, if_neg, reduceIte, ↓reduceIte, Nat.reduceAdd, Nat.reduceEqDiff, Nat.reduceBEq, beq_self_eq_true, Bool.not_true, Bool.not_false, Bool.and_true, Bool.and_false, Bool.true_and, Bool.false_and, gI_sI, gI_sL, gI_sA, gI_sM, gL_sI, gL_sL, gL_sA, gL_sM, aI_sI, aI_sL, aI_sA, aI_sM, aL_sI, aL_sL, aL_sA, aL_sM]; try dsimp only
          unfold Qv_isSetAtJ4
          try dsimp only
          exact ⟨⟨_, rfl⟩, hz⟩
    intro n0
    exact (all n0).1 a1 σ hP
  next => exact hP.elim
theorem w_isSetAtJ4 : UMet 24 (fun _ _ => True) Qw_isSetAtJ4 := fun A1 σ _ w τ h c hP => v_isSetAtJ4 c A1 σ hP w τ h
def Pv_namedJ4 (c : RS) : UP1 := fun A1 σ => match A1 with
  | [.int a1] => J4 c σ
  | _ => False
def Qv_namedJ4 (c : RS) : UQ1 := fun A1 σ w τ => match A1 with
  | [.int a1] => (∃ r : Int32, w = some (.int r)) ∧ J4 c τ
  | _ => False
def Qw_namedJ4 : UQ1 := fun A1 σ w τ => ∀ (c : RS), Pv_namedJ4 c A1 σ → Qv_namedJ4 c A1 σ w τ
set_option maxRecDepth 100000 in
set_option maxHeartbeats 4000000 in
theorem v_namedJ4 (c : RS) : UMet 30 (Pv_namedJ4 c) (Qv_namedJ4 c) := by
  refine UMet.by Bnamed [(31, (fun _ _ => True), Qw_closeCallJ4), (20, (fun _ _ => True), Qw_emitJ4), (21, (fun _ _ => True), Qw_emitExpJ4), (19, (fun _ _ => True), Qw_enterJ4), (24, (fun _ _ => True), Qw_isSetAtJ4), (14, (fun _ _ => True), Qw_isSignJ4), (25, (fun _ _ => True), Qw_pushJ4), (17, (fun _ _ => True), Qw_takeJ4), (28, (fun _ _ => True), Qw_waitJ4), (26, (fun _ _ => True), Qw_wholeJ4)] rfl (ucc w_closeCallJ4 (ucc w_emitJ4 (ucc w_emitExpJ4 (ucc w_enterJ4 (ucc w_isSetAtJ4 (ucc w_isSignJ4 (ucc w_pushJ4 (ucc w_takeJ4 (ucc w_waitJ4 (ucc w_wholeJ4 uc0)))))))))) ?_
  intro A1 σ hP K hB hW
  unfold Pv_namedJ4 at hP
  split at hP
  next a1 =>
    have all : ∀ N : Nat, (∀ (x1 : Int32) (Y : RS), J4 c Y → K N 0 [(0, .ref 1000), (1, .int x1)] [] Y) ∧ (∀ (x1 : Int32) (x2 : Int32) (Y : RS), J4 c Y → K N 12 [(0, .ref 1000), (1, .int x1), (2, .int x2)] [] Y) ∧ (∀ (x1 : Int32) (x2 : Int32) (Y : RS), J4 c Y → K N 14 [(0, .ref 1000), (1, .int x1), (2, .int x2)] [] Y) ∧ (∀ (x1 : Int32) (x2 : Int32) (Y : RS), J4 c Y → K N 18 [(0, .ref 1000), (1, .int x1), (2, .int x2)] [] Y) ∧ (∀ (x1 : Int32) (x2 : Int32) (Y : RS), J4 c Y → K N 29 [(0, .ref 1000), (1, .int x1), (2, .int x2)] [] Y) ∧ (∀ (x1 : Int32) (x2 : Int32) (x3 : Int32) (Y : RS), J4 c Y → K N 46 [(0, .ref 1000), (1, .int x1), (2, .int x2), (3, .int x3)] [] Y) ∧ (∀ (x1 : Int32) (x2 : Int32) (x3 : Int32) (Y : RS), J4 c Y → K N 53 [(0, .ref 1000), (1, .int x1), (2, .int x2), (3, .int x3)] [] Y) ∧ (∀ (x1 : Int32) (x2 : Int32) (x3 : Int32) (Y : RS), J4 c Y → K N 55 [(0, .ref 1000), (1, .int x1), (2, .int x2), (3, .int x3)] [] Y) ∧ (∀ (x1 : Int32) (x2 : Int32) (x3 : Int32) (Y : RS), J4 c Y → K N 61 [(0, .ref 1000), (1, .int x1), (2, .int x2), (3, .int x3)] [] Y) ∧ (∀ (x1 : Int32) (x2 : Int32) (x3 : Int32) (Y : RS), J4 c Y → K N 74 [(0, .ref 1000), (1, .int x1), (2, .int x2), (3, .int x3)] [] Y) ∧ (∀ (x1 : Int32) (x2 : Int32) (Y : RS), J4 c Y → K N 88 [(0, .ref 1000), (1, .int x1), (2, .int x2)] [] Y) ∧ (∀ (x1 : Int32) (x2 : Int32) (Y : RS), J4 c Y → K N 97 [(0, .ref 1000), (1, .int x1), (2, .int x2)] [] Y) ∧ (∀ (x1 : Int32) (x2 : Int32) (Y : RS), J4 c Y → K N 104 [(0, .ref 1000), (1, .int x1), (2, .int x2)] [] Y) ∧ (∀ (x1 : Int32) (x2 : Int32) (Y : RS), J4 c Y → K N 111 [(0, .ref 1000), (1, .int x1), (2, .int x2)] [] Y) ∧ (∀ (x1 : Int32) (x2 : Int32) (Y : RS), J4 c Y → K N 113 [(0, .ref 1000), (1, .int x1), (2, .int x2)] [] Y) ∧ (∀ (x1 : Int32) (x2 : Int32) (Y : RS), J4 c Y → K N 130 [(0, .ref 1000), (1, .int x1), (2, .int x2)] [] Y) ∧ (∀ (x1 : Int32) (x2 : Int32) (Y : RS), J4 c Y → K N 136 [(0, .ref 1000), (1, .int x1), (2, .int x2)] [] Y) ∧ (∀ (x1 : Int32) (x2 : Int32) (Y : RS), J4 c Y → K N 141 [(0, .ref 1000), (1, .int x1), (2, .int x2)] [] Y) ∧ (∀ (x1 : Int32) (x2 : Int32) (Y : RS), J4 c Y → K N 151 [(0, .ref 1000), (1, .int x1), (2, .int x2)] [] Y) ∧ (∀ (x1 : Int32) (x2 : Int32) (Y : RS), J4 c Y → K N 161 [(0, .ref 1000), (1, .int x1), (2, .int x2)] [] Y) ∧ (∀ (x1 : Int32) (x2 : Int32) (x3 : Int32) (x4 : Int32) (Y : RS), J4 c Y → K N 184 [(0, .ref 1000), (1, .int x1), (2, .int x2), (3, .int x3), (4, .int x4)] [] Y) ∧ (∀ (x1 : Int32) (x2 : Int32) (x3 : Int32) (x4 : Int32) (Y : RS), J4 c Y → K N 186 [(0, .ref 1000), (1, .int x1), (2, .int x2), (3, .int x3), (4, .int x4)] [] Y) ∧ (∀ (x1 : Int32) (x2 : Int32) (Y : RS), J4 c Y → K N 213 [(0, .ref 1000), (1, .int x1), (2, .int x2)] [] Y) := by
      intro N
      induction N using Nat.strongRecOn with
      | ind N ih =>
        refine ⟨?_, ?_, ?_, ?_, ?_, ?_, ?_, ?_, ?_, ?_, ?_, ?_, ?_, ?_, ?_, ?_, ?_, ?_, ?_, ?_, ?_, ?_, ?_⟩
        · intro x1 Y hz
          refine hB _ _ _ _ _ (fun m1 hm1 => ?_)
          dsimp only [ugo, uwp, ust, uct, rfd, Bnamed, Bnamed_0, Nat.beq, lv_args, rlk, rs1, rs2, rdl, rky, rcd, rno, rsw, Value.category, List.filter, List.take, List.drop, List.reverse, List.reverseAux, List.cons_append, List.nil_append, Option.toList, Int.toNat, Int.reduceToNat, if_pos, if_neg, reduceIte, ↓reduceIte, Nat.reduceAdd, Nat.reduceEqDiff, Nat.reduceBEq, beq_self_eq_true, Bool.not_true, Bool.not_false, Bool.and_true, Bool.and_false, Bool.true_and, Bool.false_and, gI_sI, gI_sL, gI_sA, gI_sM, gL_sI, gL_sL, gL_sA, gL_sM, aI_sI, aI_sL, aI_sA, aI_sM, aL_sI, aL_sL, aL_sA, aL_sM]; try dsimp only
          refine ⟨trivial, fun w2 τ2 hq2 => ?_⟩
          obtain ⟨⟨r2, rfl⟩, hz2⟩ := hq2 c hz
          dsimp only [Option.toList, List.cons_append, List.nil_append, Nat.beq, gI_sI, gI_sL, gI_sA, gI_sM, gL_sI, gL_sL, gL_sA, gL_sM, aI_sI, aI_sL, aI_sA, aI_sM, aL_sI, aL_sL, aL_sA, aL_sM]
          refine ⟨fun h3 => ?_, fun h3 => ?_⟩
          · exact hW _ 14 [(0, .ref 1000), (1, .int x1), (2, .int (gI Y 14))] _ _ _ (by simp [rdl, rky, Value.category]) ((ih m1 hm1).2.2.1 x1 (gI Y 14) _ hz2)
          · exact hW _ 12 [(0, .ref 1000), (1, .int x1), (2, .int (gI Y 14))] _ _ _ (by simp [rdl, rky, Value.category]) ((ih m1 hm1).2.1 x1 (gI Y 14) _ hz2)
        · intro x1 x2 Y hz
          refine hB _ _ _ _ _ (fun m1 hm1 => ?_)
          dsimp only [ugo, uwp, ust, uct, rfd, Bnamed, Bnamed_12, Nat.beq, lv_args, rlk, rs1, rs2, rdl, rky, rcd, rno, rsw, Value.category, List.filter, List.take, List.drop, List.reverse, List.reverseAux, List.cons_append, List.nil_append, Option.toList, Int.toNat, Int.reduceToNat, if_pos, if_neg, reduceIte, ↓reduceIte, Nat.reduceAdd, Nat.reduceEqDiff, Nat.reduceBEq, beq_self_eq_true, Bool.not_true, Bool.not_false, Bool.and_true, Bool.and_false, Bool.true_and, Bool.false_and, gI_sI, gI_sL, gI_sA, gI_sM, gL_sI, gL_sL, gL_sA, gL_sM, aI_sI, aI_sL, aI_sA, aI_sM, aL_sI, aL_sL, aL_sA, aL_sM, oi_0]; try dsimp only
          unfold Qv_namedJ4
          try dsimp only
          exact ⟨⟨_, rfl⟩, hz⟩
        · intro x1 x2 Y hz
          refine hB _ _ _ _ _ (fun m1 hm1 => ?_)
          dsimp only [ugo, uwp, ust, uct, rfd, Bnamed, Bnamed_14, Nat.beq, lv_args, rlk, rs1, rs2, rdl, rky, rcd, rno, rsw, Value.category, List.filter, List.take, List.drop, List.reverse, List.reverseAux, List.cons_append, List.nil_append, Option.toList, Int.toNat, Int.reduceToNat, if_pos, if_neg, reduceIte, ↓reduceIte, Nat.reduceAdd, Nat.reduceEqDiff, Nat.reduceBEq, beq_self_eq_true, Bool.not_true, Bool.not_false, Bool.and_true, Bool.and_false, Bool.true_and, Bool.false_and, gI_sI, gI_sL, gI_sA, gI_sM, gL_sI, gL_sL, gL_sA, gL_sM, aI_sI, aI_sL, aI_sA, aI_sM, aL_sI, aL_sL, aL_sA, aL_sM]; try dsimp only
          refine ⟨fun h2 => ?_, fun h2 => ?_⟩
          · exact hW _ 88 [(0, .ref 1000), (1, .int x1), (2, .int x2)] _ _ _ (by simp [rdl, rky, Value.category]) ((ih m1 hm1).2.2.2.2.2.2.2.2.2.2.1 x1 x2 _ hz)
          · exact hW _ 18 [(0, .ref 1000), (1, .int x1), (2, .int x2)] _ _ _ (by simp [rdl, rky, Value.category]) ((ih m1 hm1).2.2.2.1 x1 x2 _ hz)
        · intro x1 x2 Y hz
          refine hB _ _ _ _ _ (fun m1 hm1 => ?_)
          dsimp only [ugo, uwp, ust, uct, rfd, Bnamed, Bnamed_18, Nat.beq, lv_args, rlk, rs1, rs2, rdl, rky, rcd, rno, rsw, Value.category, List.filter, List.take, List.drop, List.reverse, List.reverseAux, List.cons_append, List.nil_append, Option.toList, Int.toNat, Int.reduceToNat, if_pos, if_neg, reduceIte, ↓reduceIte, Nat.reduceAdd, Nat.reduceEqDiff, Nat.reduceBEq, beq_self_eq_true, Bool.not_true, Bool.not_false, Bool.and_true, Bool.and_false, Bool.true_and, Bool.false_and, gI_sI, gI_sL, gI_sA, gI_sM, gL_sI, gL_sL, gL_sA, gL_sM, aI_sI, aI_sL, aI_sA, aI_sM, aL_sI, aL_sL, aL_sA, aL_sM]; try dsimp only
          refine ⟨trivial, fun w2 τ2 hq2 => ?_⟩
          obtain ⟨⟨r2, rfl⟩, hz2⟩ := hq2 c hz
          dsimp only [Option.toList, List.cons_append, List.nil_append, Nat.beq, gI_sI, gI_sL, gI_sA, gI_sM, gL_sI, gL_sL, gL_sA, gL_sM, aI_sI, aI_sL, aI_sA, aI_sM, aL_sI, aL_sL, aL_sA, aL_sM]
          refine ⟨fun h3 => ?_, fun h3 => ?_⟩
          · exact hW _ 88 [(0, .ref 1000), (1, .int x1), (2, .int x2)] _ _ _ (by simp [rdl, rky, Value.category]) ((ih m1 hm1).2.2.2.2.2.2.2.2.2.2.1 x1 x2 _ hz2)
          · exact hW _ 29 [(0, .ref 1000), (1, .int x1), (2, .int x2)] _ _ _ (by simp [rdl, rky, Value.category]) ((ih m1 hm1).2.2.2.2.1 x1 x2 _ hz2)
        · intro x1 x2 Y hz
          refine hB _ _ _ _ _ (fun m1 hm1 => ?_)
          dsimp only [ugo, uwp, ust, uct, rfd, Bnamed, Bnamed_29, Nat.beq, lv_args, rlk, rs1, rs2, rdl, rky, rcd, rno, rsw, Value.category, List.filter, List.take, List.drop, List.reverse, List.reverseAux, List.cons_append, List.nil_append, Option.toList, Int.toNat, Int.reduceToNat, if_pos, if_neg, reduceIte, ↓reduceIte, Nat.reduceAdd, Nat.reduceEqDiff, Nat.reduceBEq, beq_self_eq_true, Bool.not_true, Bool.not_false, Bool.and_true, Bool.and_false, Bool.true_and, Bool.false_and, gI_sI, gI_sL, gI_sA, gI_sM, gL_sI, gL_sL, gL_sA, gL_sM, aI_sI, aI_sL, aI_sA, aI_sM, aL_sI, aL_sL, aL_sA, aL_sM]; try dsimp only
          intro p2
          refine ⟨trivial, fun w3 τ3 hq3 => ?_⟩
          obtain ⟨⟨r3, rfl⟩, hz3⟩ := hq3 c hz
          dsimp only [Option.toList, List.cons_append, List.nil_append, Nat.beq, gI_sI, gI_sL, gI_sA, gI_sM, gL_sI, gL_sL, gL_sA, gL_sM, aI_sI, aI_sL, aI_sA, aI_sM, aL_sI, aL_sL, aL_sA, aL_sM]
          refine ⟨fun h4 => ?_, fun h4 => ?_⟩
          · exact hW _ 53 [(0, .ref 1000), (1, .int x1), (2, .int x2), (3, .int ((aI Y 6) ((gI Y 14)).toNatClampNeg))] _ _ _ (by simp [rdl, rky, Value.category]) ((ih m1 hm1).2.2.2.2.2.2.1 x1 x2 ((aI Y 6) ((gI Y 14)).toNatClampNeg) _ hz3)
          · exact hW _ 46 [(0, .ref 1000), (1, .int x1), (2, .int x2), (3, .int ((aI Y 6) ((gI Y 14)).toNatClampNeg))] _ _ _ (by simp [rdl, rky, Value.category]) ((ih m1 hm1).2.2.2.2.2.1 x1 x2 ((aI Y 6) ((gI Y 14)).toNatClampNeg) _ hz3)
        · intro x1 x2 x3 Y hz
          refine hB _ _ _ _ _ (fun m1 hm1 => ?_)
          dsimp only [ugo, uwp, ust, uct, rfd, Bnamed, Bnamed_46, Nat.beq, lv_args, rlk, rs1, rs2, rdl, rky, rcd, rno, rsw, Value.category, List.filter, List.take, List.drop, List.reverse, List.reverseAux, List.cons_append, List.nil_append, Option.toList, Int.toNat, Int.reduceToNat, if_pos, if_neg, reduceIte, ↓reduceIte, Nat.reduceAdd, Nat.reduceEqDiff, Nat.reduceBEq, beq_self_eq_true, Bool.not_true, Bool.not_false, Bool.and_true, Bool.and_false, Bool.true_and, Bool.false_and, gI_sI, gI_sL, gI_sA, gI_sM, gL_sI, gL_sL, gL_sA, gL_sM, aI_sI, aI_sL, aI_sA, aI_sM, aL_sI, aL_sL, aL_sA, aL_sM]; try dsimp only
          refine ⟨trivial, fun w2 τ2 hq2 => ?_⟩
          obtain ⟨⟨r2, rfl⟩, hz2⟩ := hq2 c hz
          dsimp only [Option.toList, List.cons_append, List.nil_append, Nat.beq, gI_sI, gI_sL, gI_sA, gI_sM, gL_sI, gL_sL, gL_sA, gL_sM, aI_sI, aI_sL, aI_sA, aI_sM, aL_sI, aL_sL, aL_sA, aL_sM]
          refine ⟨fun h3 => ?_, fun h3 => ?_⟩
          · exact hW _ 55 [(0, .ref 1000), (1, .int x1), (2, .int x2), (3, .int x3)] _ _ _ (by simp [rdl, rky, Value.category]) ((ih m1 hm1).2.2.2.2.2.2.2.1 x1 x2 x3 _ hz2)
          · exact hW _ 53 [(0, .ref 1000), (1, .int x1), (2, .int x2), (3, .int x3)] _ _ _ (by simp [rdl, rky, Value.category]) ((ih m1 hm1).2.2.2.2.2.2.1 x1 x2 x3 _ hz2)
        · intro x1 x2 x3 Y hz
          refine hB _ _ _ _ _ (fun m1 hm1 => ?_)
          dsimp only [ugo, uwp, ust, uct, rfd, Bnamed, Bnamed_53, Nat.beq, lv_args, rlk, rs1, rs2, rdl, rky, rcd, rno, rsw, Value.category, List.filter, List.take, List.drop, List.reverse, List.reverseAux, List.cons_append, List.nil_append, Option.toList, Int.toNat, Int.reduceToNat, if_pos, if_neg, reduceIte, ↓reduceIte, Nat.reduceAdd, Nat.reduceEqDiff, Nat.reduceBEq, beq_self_eq_true, Bool.not_true, Bool.not_false, Bool.and_true, Bool.and_false, Bool.true_and, Bool.false_and, gI_sI, gI_sL, gI_sA, gI_sM, gL_sI, gL_sL, gL_sA, gL_sM, aI_sI, aI_sL, aI_sA, aI_sM, aL_sI, aL_sL, aL_sA, aL_sM, oi_0]; try dsimp only
          unfold Qv_namedJ4
          try dsimp only
          exact ⟨⟨_, rfl⟩, hz⟩
        · intro x1 x2 x3 Y hz
          refine hB _ _ _ _ _ (fun m1 hm1 => ?_)
          dsimp only [ugo, uwp, ust, uct, rfd, Bnamed, Bnamed_55, Nat.beq, lv_args, rlk, rs1, rs2, rdl, rky, rcd, rno, rsw, Value.category, List.filter, List.take, List.drop, List.reverse, List.reverseAux, List.cons_append, List.nil_append, Option.toList, Int.toNat, Int.reduceToNat, if_pos, if_neg, reduceIte, ↓reduceIte, Nat.reduceAdd, Nat.reduceEqDiff, Nat.reduceBEq, beq_self_eq_true, Bool.not_true, Bool.not_false, Bool.and_true, Bool.and_false, Bool.true_and, Bool.false_and, gI_sI, gI_sL, gI_sA, gI_sM, gL_sI, gL_sL, gL_sA, gL_sM, aI_sI, aI_sL, aI_sA, aI_sM, aL_sI, aL_sL, aL_sA, aL_sM, oi_61]; try dsimp only
          refine ⟨fun h2 => ?_, fun h2 => ?_⟩
          · exact hW _ 74 [(0, .ref 1000), (1, .int x1), (2, .int x2), (3, .int x3)] _ _ _ (by simp [rdl, rky, Value.category]) ((ih m1 hm1).2.2.2.2.2.2.2.2.2.1 x1 x2 x3 _ hz)
          · exact hW _ 61 [(0, .ref 1000), (1, .int x1), (2, .int x2), (3, .int x3)] _ _ _ (by simp [rdl, rky, Value.category]) ((ih m1 hm1).2.2.2.2.2.2.2.2.1 x1 x2 x3 _ hz)
        · intro x1 x2 x3 Y hz
          refine hB _ _ _ _ _ (fun m1 hm1 => ?_)
          dsimp only [ugo, uwp, ust, uct, rfd, Bnamed, Bnamed_61, Nat.beq, lv_args, rlk, rs1, rs2, rdl, rky, rcd, rno, rsw, Value.category, List.filter, List.take, List.drop, List.reverse, List.reverseAux, List.cons_append, List.nil_append, Option.toList, Int.toNat, Int.reduceToNat, if_pos, if_neg, reduceIte, ↓reduceIte, Nat.reduceAdd, Nat.reduceEqDiff, Nat.reduceBEq, beq_self_eq_true, Bool.not_true, Bool.not_false, Bool.and_true, Bool.and_false, Bool.true_and, Bool.false_and, gI_sI, gI_sL, gI_sA, gI_sM, gL_sI, gL_sL, gL_sA, gL_sM, aI_sI, aI_sL, aI_sA, aI_sM, aL_sI, aL_sL, aL_sA, aL_sM, oi_16, oi_400]; try dsimp only
          refine ⟨trivial, fun w2 τ2 hq2 => ?_⟩
          obtain ⟨⟨r2, rfl⟩, hz2⟩ := hq2 c hz
          dsimp only [Option.toList, List.cons_append, List.nil_append, Nat.beq, gI_sI, gI_sL, gI_sA, gI_sM, gL_sI, gL_sL, gL_sA, gL_sM, aI_sI, aI_sL, aI_sA, aI_sM, aL_sI, aL_sL, aL_sA, aL_sM]
          exact hW _ 74 [(0, .ref 1000), (1, .int x1), (2, .int x2), (3, .int x3)] _ _ _ (by simp [rdl, rky, Value.category]) ((ih m1 hm1).2.2.2.2.2.2.2.2.2.1 x1 x2 x3 _ hz2)
        · intro x1 x2 x3 Y hz
          refine hB _ _ _ _ _ (fun m1 hm1 => ?_)
          dsimp only [ugo, uwp, ust, uct, rfd, Bnamed, Bnamed_74, Nat.beq, lv_args, rlk, rs1, rs2, rdl, rky, rcd, rno, rsw, Value.category, List.filter, List.take, List.drop, List.reverse, List.reverseAux, List.cons_append, List.nil_append, Option.toList, Int.toNat, Int.reduceToNat, if_pos, if_neg, reduceIte, ↓reduceIte, Nat.reduceAdd, Nat.reduceEqDiff, Nat.reduceBEq, beq_self_eq_true, Bool.not_true, Bool.not_false, Bool.and_true, Bool.and_false, Bool.true_and, Bool.false_and, gI_sI, gI_sL, gI_sA, gI_sM, gL_sI, gL_sL, gL_sA, gL_sM, aI_sI, aI_sL, aI_sA, aI_sM, aL_sI, aL_sL, aL_sA, aL_sM, oi_1, oi_5]; try dsimp only
          refine ⟨trivial, fun w2 τ2 hq2 => ?_⟩
          obtain ⟨⟨r2, rfl⟩, hz2⟩ := hq2 c hz
          dsimp only [Option.toList, List.cons_append, List.nil_append, Nat.beq, gI_sI, gI_sL, gI_sA, gI_sM, gL_sI, gL_sL, gL_sA, gL_sM, aI_sI, aI_sL, aI_sA, aI_sM, aL_sI, aL_sL, aL_sA, aL_sM]
          refine ⟨trivial, fun w3 τ3 hq3 => ?_⟩
          obtain ⟨⟨r3, rfl⟩, hz3⟩ := hq3 c hz2
          dsimp only [Option.toList, List.cons_append, List.nil_append, Nat.beq, gI_sI, gI_sL, gI_sA, gI_sM, gL_sI, gL_sL, gL_sA, gL_sM, aI_sI, aI_sL, aI_sA, aI_sM, aL_sI, aL_sL, aL_sA, aL_sM]
          unfold Qv_namedJ4
          try dsimp only
          exact ⟨⟨_, rfl⟩, hz3⟩
        · intro x1 x2 Y hz
          refine hB _ _ _ _ _ (fun m1 hm1 => ?_)
          dsimp only [ugo, uwp, ust, uct, rfd, Bnamed, Bnamed_88, Nat.beq, lv_args, rlk, rs1, rs2, rdl, rky, rcd, rno, rsw, Value.category, List.filter, List.take, List.drop, List.reverse, List.reverseAux, List.cons_append, List.nil_append, Option.toList, Int.toNat, Int.reduceToNat, if_pos, if_neg, reduceIte, ↓reduceIte, Nat.reduceAdd, Nat.reduceEqDiff, Nat.reduceBEq, beq_self_eq_true, Bool.not_true, Bool.not_false, Bool.and_true, Bool.and_false, Bool.true_and, Bool.false_and, gI_sI, gI_sL, gI_sA, gI_sM, gL_sI, gL_sL, gL_sA, gL_sM, aI_sI, aI_sL, aI_sA, aI_sM, aL_sI, aL_sL, aL_sA, aL_sM, oi_40]; try dsimp only
          refine ⟨trivial, fun w2 τ2 hq2 => ?_⟩
          obtain ⟨⟨r2, rfl⟩, hz2⟩ := hq2 c hz
          dsimp only [Option.toList, List.cons_append, List.nil_append, Nat.beq, gI_sI, gI_sL, gI_sA, gI_sM, gL_sI, gL_sL, gL_sA, gL_sM, aI_sI, aI_sL, aI_sA, aI_sM, aL_sI, aL_sL, aL_sA, aL_sM]
          refine ⟨fun h3 => ?_, fun h3 => ?_⟩
          · exact hW _ 141 [(0, .ref 1000), (1, .int x1), (2, .int x2)] _ _ _ (by simp [rdl, rky, Value.category]) ((ih m1 hm1).2.2.2.2.2.2.2.2.2.2.2.2.2.2.2.2.2.1 x1 x2 _ hz2)
          · exact hW _ 97 [(0, .ref 1000), (1, .int x1), (2, .int x2)] _ _ _ (by simp [rdl, rky, Value.category]) ((ih m1 hm1).2.2.2.2.2.2.2.2.2.2.2.1 x1 x2 _ hz2)
        · intro x1 x2 Y hz
          refine hB _ _ _ _ _ (fun m1 hm1 => ?_)
          dsimp only [ugo, uwp, ust, uct, rfd, Bnamed, Bnamed_97, Nat.beq, lv_args, rlk, rs1, rs2, rdl, rky, rcd, rno, rsw, Value.category, List.filter, List.take, List.drop, List.reverse, List.reverseAux, List.cons_append, List.nil_append, Option.toList, Int.toNat, Int.reduceToNat, if_pos, if_neg, reduceIte, ↓reduceIte, Nat.reduceAdd, Nat.reduceEqDiff, Nat.reduceBEq, beq_self_eq_true, Bool.not_true, Bool.not_false, Bool.and_true, Bool.and_false, Bool.true_and, Bool.false_and, gI_sI, gI_sL, gI_sA, gI_sM, gL_sI, gL_sL, gL_sA, gL_sM, aI_sI, aI_sL, aI_sA, aI_sM, aL_sI, aL_sL, aL_sA, aL_sM]; try dsimp only
          refine ⟨trivial, fun w2 τ2 hq2 => ?_⟩
          obtain ⟨⟨r2, rfl⟩, hz2⟩ := hq2 c hz
          dsimp only [Option.toList, List.cons_append, List.nil_append, Nat.beq, gI_sI, gI_sL, gI_sA, gI_sM, gL_sI, gL_sL, gL_sA, gL_sM, aI_sI, aI_sL, aI_sA, aI_sM, aL_sI, aL_sL, aL_sA, aL_sM]
          refine ⟨fun h3 => ?_, fun h3 => ?_⟩
          · exact hW _ 111 [(0, .ref 1000), (1, .int x1), (2, .int x2)] _ _ _ (by simp [rdl, rky, Value.category]) ((ih m1 hm1).2.2.2.2.2.2.2.2.2.2.2.2.2.1 x1 x2 _ hz2)
          · exact hW _ 104 [(0, .ref 1000), (1, .int x1), (2, .int x2)] _ _ _ (by simp [rdl, rky, Value.category]) ((ih m1 hm1).2.2.2.2.2.2.2.2.2.2.2.2.1 x1 x2 _ hz2)
        · intro x1 x2 Y hz
          refine hB _ _ _ _ _ (fun m1 hm1 => ?_)
          dsimp only [ugo, uwp, ust, uct, rfd, Bnamed, Bnamed_104, Nat.beq, lv_args, rlk, rs1, rs2, rdl, rky, rcd, rno, rsw, Value.category, List.filter, List.take, List.drop, List.reverse, List.reverseAux, List.cons_append, List.nil_append, Option.toList, Int.toNat, Int.reduceToNat, if_pos, if_neg, reduceIte, ↓reduceIte, Nat.reduceAdd, Nat.reduceEqDiff, Nat.reduceBEq, beq_self_eq_true, Bool.not_true, Bool.not_false, Bool.and_true, Bool.and_false, Bool.true_and, Bool.false_and, gI_sI, gI_sL, gI_sA, gI_sM, gL_sI, gL_sL, gL_sA, gL_sM, aI_sI, aI_sL, aI_sA, aI_sM, aL_sI, aL_sL, aL_sA, aL_sM]; try dsimp only
          refine ⟨trivial, fun w2 τ2 hq2 => ?_⟩
          obtain ⟨⟨r2, rfl⟩, hz2⟩ := hq2 c hz
          dsimp only [Option.toList, List.cons_append, List.nil_append, Nat.beq, gI_sI, gI_sL, gI_sA, gI_sM, gL_sI, gL_sL, gL_sA, gL_sM, aI_sI, aI_sL, aI_sA, aI_sM, aL_sI, aL_sL, aL_sA, aL_sM]
          refine ⟨fun h3 => ?_, fun h3 => ?_⟩
          · exact hW _ 113 [(0, .ref 1000), (1, .int x1), (2, .int x2)] _ _ _ (by simp [rdl, rky, Value.category]) ((ih m1 hm1).2.2.2.2.2.2.2.2.2.2.2.2.2.2.1 x1 x2 _ hz2)
          · exact hW _ 111 [(0, .ref 1000), (1, .int x1), (2, .int x2)] _ _ _ (by simp [rdl, rky, Value.category]) ((ih m1 hm1).2.2.2.2.2.2.2.2.2.2.2.2.2.1 x1 x2 _ hz2)
        · intro x1 x2 Y hz
          refine hB _ _ _ _ _ (fun m1 hm1 => ?_)
          dsimp only [ugo, uwp, ust, uct, rfd, Bnamed, Bnamed_111, Nat.beq, lv_args, rlk, rs1, rs2, rdl, rky, rcd, rno, rsw, Value.category, List.filter, List.take, List.drop, List.reverse, List.reverseAux, List.cons_append, List.nil_append, Option.toList, Int.toNat, Int.reduceToNat, if_pos, if_neg, reduceIte, ↓reduceIte, Nat.reduceAdd, Nat.reduceEqDiff, Nat.reduceBEq, beq_self_eq_true, Bool.not_true, Bool.not_false, Bool.and_true, Bool.and_false, Bool.true_and, Bool.false_and, gI_sI, gI_sL, gI_sA, gI_sM, gL_sI, gL_sL, gL_sA, gL_sM, aI_sI, aI_sL, aI_sA, aI_sM, aL_sI, aL_sL, aL_sA, aL_sM, oi_0]; try dsimp only
          unfold Qv_namedJ4
          try dsimp only
          exact ⟨⟨_, rfl⟩, hz⟩
        · intro x1 x2 Y hz
          refine hB _ _ _ _ _ (fun m1 hm1 => ?_)
          dsimp only [ugo, uwp, ust, uct, rfd, Bnamed, Bnamed_113, Nat.beq, lv_args, rlk, rs1, rs2, rdl, rky, rcd, rno, rsw, Value.category, List.filter, List.take, List.drop, List.reverse, List.reverseAux, List.cons_append, List.nil_append, Option.toList, Int.toNat, Int.reduceToNat, if_pos, if_neg, reduceIte, ↓reduceIte, Nat.reduceAdd, Nat.reduceEqDiff, Nat.reduceBEq, beq_self_eq_true, Bool.not_true, Bool.not_false, Bool.and_true, Bool.and_false, Bool.true_and, Bool.false_and, gI_sI, gI_sL, gI_sA, gI_sM, gL_sI, gL_sL, gL_sA, gL_sM, aI_sI, aI_sL, aI_sA, aI_sM, aL_sI, aL_sL, aL_sA, aL_sM, oi_0, oi_4, oi_41]; try dsimp only
          refine ⟨trivial, fun w2 τ2 hq2 => ?_⟩
          obtain ⟨⟨r2, rfl⟩, hz2⟩ := hq2 c hz
          dsimp only [Option.toList, List.cons_append, List.nil_append, Nat.beq, gI_sI, gI_sL, gI_sA, gI_sM, gL_sI, gL_sL, gL_sA, gL_sM, aI_sI, aI_sL, aI_sA, aI_sM, aL_sI, aL_sL, aL_sA, aL_sM]
          refine ⟨trivial, fun w3 τ3 hq3 => ?_⟩
          obtain ⟨⟨r3, rfl⟩, hz3⟩ := hq3 c hz2
          dsimp only [Option.toList, List.cons_append, List.nil_append, Nat.beq, gI_sI, gI_sL, gI_sA, gI_sM, gL_sI, gL_sL, gL_sA, gL_sM, aI_sI, aI_sL, aI_sA, aI_sM, aL_sI, aL_sL, aL_sA, aL_sM]
          refine ⟨fun h4 => ?_, fun h4 => ?_⟩
          · exact hW _ 136 [(0, .ref 1000), (1, .int x1), (2, .int x2)] _ _ _ (by simp [rdl, rky, Value.category]) ((ih m1 hm1).2.2.2.2.2.2.2.2.2.2.2.2.2.2.2.2.1 x1 x2 _ hz3)
          · exact hW _ 130 [(0, .ref 1000), (1, .int x1), (2, .int x2)] _ _ _ (by simp [rdl, rky, Value.category]) ((ih m1 hm1).2.2.2.2.2.2.2.2.2.2.2.2.2.2.2.1 x1 x2 _ hz3)
        · intro x1 x2 Y hz
          refine hB _ _ _ _ _ (fun m1 hm1 => ?_)
          dsimp only [ugo, uwp, ust, uct, rfd, Bnamed, Bnamed_130, Nat.beq, lv_args, rlk, rs1, rs2, rdl, rky, rcd, rno, rsw, Value.category, List.filter, List.take, List.drop, List.reverse, List.reverseAux, List.cons_append, List.nil_append, Option.toList, Int.toNat, Int.reduceToNat, if_pos, if_neg, reduceIte, ↓reduceIte, Nat.reduceAdd, Nat.reduceEqDiff, Nat.reduceBEq, beq_self_eq_true, Bool.not_true, Bool.not_false, Bool.and_true, Bool.and_false, Bool.true_and, Bool.false_and, gI_sI, gI_sL, gI_sA, gI_sM, gL_sI, gL_sL, gL_sA, gL_sM, aI_sI, aI_sL, aI_sA, aI_sM, aL_sI, aL_sL, aL_sA, aL_sM, oi_1]; try dsimp only
          refine ⟨trivial, fun w2 τ2 hq2 => ?_⟩
          obtain ⟨⟨r2, rfl⟩, hz2⟩ := hq2 c hz
          dsimp only [Option.toList, List.cons_append, List.nil_append, Nat.beq, gI_sI, gI_sL, gI_sA, gI_sM, gL_sI, gL_sL, gL_sA, gL_sM, aI_sI, aI_sL, aI_sA, aI_sM, aL_sI, aL_sL, aL_sA, aL_sM]
          unfold Qv_namedJ4
          try dsimp only
          exact ⟨⟨_, rfl⟩, hz2⟩
        · intro x1 x2 Y hz
          refine hB _ _ _ _ _ (fun m1 hm1 => ?_)
          dsimp only [ugo, uwp, ust, uct, rfd, Bnamed, Bnamed_136, Nat.beq, lv_args, rlk, rs1, rs2, rdl, rky, rcd, rno, rsw, Value.category, List.filter, List.take, List.drop, List.reverse, List.reverseAux, List.cons_append, List.nil_append, Option.toList, Int.toNat, Int.reduceToNat, if_pos, if_neg, reduceIte, ↓reduceIte, Nat.reduceAdd, Nat.reduceEqDiff, Nat.reduceBEq, beq_self_eq_true, Bool.not_true, Bool.not_false, Bool.and_true, Bool.and_false, Bool.true_and, Bool.false_and, gI_sI, gI_sL, gI_sA, gI_sM, gL_sI, gL_sL, gL_sA, gL_sM, aI_sI, aI_sL, aI_sA, aI_sM, aL_sI, aL_sL, aL_sA, aL_sM]; try dsimp only
          refine ⟨trivial, fun w2 τ2 hq2 => ?_⟩
          obtain ⟨⟨r2, rfl⟩, hz2⟩ := hq2 c hz
          dsimp only [Option.toList, List.cons_append, List.nil_append, Nat.beq, gI_sI, gI_sL, gI_sA, gI_sM, gL_sI, gL_sL, gL_sA, gL_sM, aI_sI, aI_sL, aI_sA, aI_sM, aL_sI, aL_sL, aL_sA, aL_sM]
          unfold Qv_namedJ4
          try dsimp only
          exact ⟨⟨_, rfl⟩, hz2⟩
        · intro x1 x2 Y hz
          refine hB _ _ _ _ _ (fun m1 hm1 => ?_)
          dsimp only [ugo, uwp, ust, uct, rfd, Bnamed, Bnamed_141, Nat.beq, lv_args, rlk, rs1, rs2, rdl, rky, rcd, rno, rsw, Value.category, List.filter, List.take, List.drop, List.reverse, List.reverseAux, List.cons_append, List.nil_append, Option.toList, Int.toNat, Int.reduceToNat, if_pos, if_neg, reduceIte, ↓reduceIte, Nat.reduceAdd, Nat.reduceEqDiff, Nat.reduceBEq, beq_self_eq_true, Bool.not_true, Bool.not_false, Bool.and_true, Bool.and_false, Bool.true_and, Bool.false_and, gI_sI, gI_sL, gI_sA, gI_sM, gL_sI, gL_sL, gL_sA, gL_sM, aI_sI, aI_sL, aI_sA, aI_sM, aL_sI, aL_sL, aL_sA, aL_sM, oi_309]; try dsimp only
          refine ⟨trivial, fun w2 τ2 hq2 => ?_⟩
          obtain ⟨⟨r2, rfl⟩, hz2⟩ := hq2 c hz
          dsimp only [Option.toList, List.cons_append, List.nil_append, Nat.beq, gI_sI, gI_sL, gI_sA, gI_sM, gL_sI, gL_sL, gL_sA, gL_sM, aI_sI, aI_sL, aI_sA, aI_sM, aL_sI, aL_sL, aL_sA, aL_sM]
          refine ⟨fun h3 => ?_, fun h3 => ?_⟩
          · exact hW _ 161 [(0, .ref 1000), (1, .int x1), (2, .int x2)] _ _ _ (by simp [rdl, rky, Value.category]) ((ih m1 hm1).2.2.2.2.2.2.2.2.2.2.2.2.2.2.2.2.2.2.2.1 x1 x2 _ hz2)
          · exact hW _ 151 [(0, .ref 1000), (1, .int x1), (2, .int x2)] _ _ _ (by simp [rdl, rky, Value.category]) ((ih m1 hm1).2.2.2.2.2.2.2.2.2.2.2.2.2.2.2.2.2.2.1 x1 x2 _ hz2)
        · intro x1 x2 Y hz
          refine hB _ _ _ _ _ (fun m1 hm1 => ?_)
          dsimp only [ugo, uwp, ust, uct, rfd, Bnamed, Bnamed_151, Nat.beq, lv_args, rlk, rs1, rs2, rdl, rky, rcd, rno, rsw, Value.category, List.filter, List.take, List.drop, List.reverse, List.reverseAux, List.cons_append, List.nil_append, Option.toList, Int.toNat, Int.reduceToNat, if_pos, if_neg, reduceIte, ↓reduceIte, Nat.reduceAdd, Nat.reduceEqDiff, Nat.reduceBEq, beq_self_eq_true, Bool.not_true, Bool.not_false, Bool.and_true, Bool.and_false, Bool.true_and, Bool.false_and, gI_sI, gI_sL, gI_sA, gI_sM, gL_sI, gL_sL, gL_sA, gL_sM, aI_sI, aI_sL, aI_sA, aI_sM, aL_sI, aL_sL, aL_sA, aL_sM, oi_310]; try dsimp only
          refine ⟨trivial, fun w2 τ2 hq2 => ?_⟩
          obtain ⟨⟨r2, rfl⟩, hz2⟩ := hq2 c hz
          dsimp only [Option.toList, List.cons_append, List.nil_append, Nat.beq, gI_sI, gI_sL, gI_sA, gI_sM, gL_sI, gL_sL, gL_sA, gL_sM, aI_sI, aI_sL, aI_sA, aI_sM, aL_sI, aL_sL, aL_sA, aL_sM]
          refine ⟨fun h3 => ?_, fun h3 => ?_⟩
          · exact hW _ 213 [(0, .ref 1000), (1, .int x1), (2, .int x2)] _ _ _ (by simp [rdl, rky, Value.category]) ((ih m1 hm1).2.2.2.2.2.2.2.2.2.2.2.2.2.2.2.2.2.2.2.2.2.2 x1 x2 _ hz2)
          · exact hW _ 161 [(0, .ref 1000), (1, .int x1), (2, .int x2)] _ _ _ (by simp [rdl, rky, Value.category]) ((ih m1 hm1).2.2.2.2.2.2.2.2.2.2.2.2.2.2.2.2.2.2.2.1 x1 x2 _ hz2)
        · intro x1 x2 Y hz
          refine hB _ _ _ _ _ (fun m1 hm1 => ?_)
          dsimp only [ugo, uwp, ust, uct, rfd, Bnamed, Bnamed_161, Nat.beq, lv_args, rlk, rs1, rs2, rdl, rky, rcd, rno, rsw, Value.category, List.filter, List.take, List.drop, List.reverse, List.reverseAux, List.cons_append, List.nil_append, Option.toList, Int.toNat, Int.reduceToNat, if_pos, if_neg, reduceIte, ↓reduceIte, Nat.reduceAdd, Nat.reduceEqDiff, Nat.reduceBEq, beq_self_eq_true, Bool.not_true, Bool.not_false, Bool.and_true, Bool.and_false, Bool.true_and, Bool.false_and, gI_sI, gI_sL, gI_sA, gI_sM, gL_sI, gL_sL, gL_sA, gL_sM, aI_sI, aI_sL, aI_sA, aI_sM, aL_sI, aL_sL, aL_sA, aL_sM]; try dsimp only
          intro p2
          refine ⟨trivial, fun w3 τ3 hq3 => ?_⟩
          obtain ⟨⟨r3, rfl⟩, hz3⟩ := hq3 c hz
          dsimp only [Option.toList, List.cons_append, List.nil_append, Nat.beq, gI_sI, gI_sL, gI_sA, gI_sM, gL_sI, gL_sL, gL_sA, gL_sM, aI_sI, aI_sL, aI_sA, aI_sM, aL_sI, aL_sL, aL_sA, aL_sM]
          refine ⟨fun h4 => ?_, fun h4 => ?_⟩
          · exact hW _ 186 [(0, .ref 1000), (1, .int x1), (2, .int x2), (3, .int ((aI Y 6) ((gI Y 14)).toNatClampNeg)), (4, .int (gI Y 14))] _ _ _ (by simp [rdl, rky, Value.category]) ((ih m1 hm1).2.2.2.2.2.2.2.2.2.2.2.2.2.2.2.2.2.2.2.2.2.1 x1 x2 ((aI Y 6) ((gI Y 14)).toNatClampNeg) (gI Y 14) _ hz3)
          · exact hW _ 184 [(0, .ref 1000), (1, .int x1), (2, .int x2), (3, .int ((aI Y 6) ((gI Y 14)).toNatClampNeg)), (4, .int (gI Y 14))] _ _ _ (by simp [rdl, rky, Value.category]) ((ih m1 hm1).2.2.2.2.2.2.2.2.2.2.2.2.2.2.2.2.2.2.2.2.1 x1 x2 ((aI Y 6) ((gI Y 14)).toNatClampNeg) (gI Y 14) _ hz3)
        · intro x1 x2 x3 x4 Y hz
          refine hB _ _ _ _ _ (fun m1 hm1 => ?_)
          dsimp only [ugo, uwp, ust, uct, rfd, Bnamed, Bnamed_184, Nat.beq, lv_args, rlk, rs1, rs2, rdl, rky, rcd, rno, rsw, Value.category, List.filter, List.take, List.drop, List.reverse, List.reverseAux, List.cons_append, List.nil_append, Option.toList, Int.toNat, Int.reduceToNat, if_pos, if_neg, reduceIte, ↓reduceIte, Nat.reduceAdd, Nat.reduceEqDiff, Nat.reduceBEq, beq_self_eq_true, Bool.not_true, Bool.not_false, Bool.and_true, Bool.and_false, Bool.true_and, Bool.false_and, gI_sI, gI_sL, gI_sA, gI_sM, gL_sI, gL_sL, gL_sA, gL_sM, aI_sI, aI_sL, aI_sA, aI_sM, aL_sI, aL_sL, aL_sA, aL_sM, oi_0]; try dsimp only
          unfold Qv_namedJ4
          try dsimp only
          exact ⟨⟨_, rfl⟩, hz⟩
        · intro x1 x2 x3 x4 Y hz
          refine hB _ _ _ _ _ (fun m1 hm1 => ?_)
          dsimp only [ugo, uwp, ust, uct, rfd, Bnamed, Bnamed_186, Nat.beq, lv_args, rlk, rs1, rs2, rdl, rky, rcd, rno, rsw, Value.category, List.filter, List.take, List.drop, List.reverse, List.reverseAux, List.cons_append, List.nil_append, Option.toList, Int.toNat, Int.reduceToNat, if_pos, if_neg, reduceIte, ↓reduceIte, Nat.reduceAdd, Nat.reduceEqDiff, Nat.reduceBEq, beq_self_eq_true, Bool.not_true, Bool.not_false, Bool.and_true, Bool.and_false, Bool.true_and, Bool.false_and, gI_sI, gI_sL, gI_sA, gI_sM, gL_sI, gL_sL, gL_sA, gL_sM, aI_sI, aI_sL, aI_sA, aI_sM, aL_sI, aL_sL, aL_sA, aL_sM, oi_1, oi_3]; try dsimp only
          refine ⟨trivial, fun w2 τ2 hq2 => ?_⟩
          obtain ⟨⟨r2, rfl⟩, hz2⟩ := hq2 c hz
          dsimp only [Option.toList, List.cons_append, List.nil_append, Nat.beq, gI_sI, gI_sL, gI_sA, gI_sM, gL_sI, gL_sL, gL_sA, gL_sM, aI_sI, aI_sL, aI_sA, aI_sM, aL_sI, aL_sL, aL_sA, aL_sM]
          refine ⟨trivial, fun w3 τ3 hq3 => ?_⟩
          obtain ⟨rfl, hz3⟩ := hq3 c ((hz2.i (by decide)).i (by decide))
          dsimp only [Option.toList, List.cons_append, List.nil_append, Nat.beq, gI_sI, gI_sL, gI_sA, gI_sM, gL_sI, gL_sL, gL_sA, gL_sM, aI_sI, aI_sL, aI_sA, aI_sM, aL_sI, aL_sL, aL_sA, aL_sM]
          unfold Qv_namedJ4
          try dsimp only
          exact ⟨⟨_, rfl⟩, hz3⟩
        · intro x1 x2 Y hz
          refine hB _ _ _ _ _ (fun m1 hm1 => ?_)
          dsimp only [ugo, uwp, ust, uct, rfd, Bnamed, Bnamed_213, Nat.beq, lv_args, rlk, rs1, rs2, rdl, rky, rcd, rno, rsw, Value.category, List.filter, List.take, List.drop, List.reverse, List.reverseAux, List.cons_append, List.nil_append, Option.toList, Int.toNat, Int.reduceToNat, if_pos, if_neg, reduceIte, ↓reduceIte, Nat.reduceAdd, Nat.reduceEqDiff, Nat.reduceBEq, beq_self_eq_true, Bool.not_true, Bool.not_false, Bool.and_true, Bool.and_false, Bool.true_and, Bool.false_and, gI_sI, gI_sL, gI_sA, gI_sM, gL_sI, gL_sL, gL_sA, gL_sM, aI_sI, aI_sL, aI_sA, aI_sM, aL_sI, aL_sL, aL_sA, aL_sM, oi_0, oi_1, oi_2]; try dsimp only
          refine ⟨trivial, fun w2 τ2 hq2 => ?_⟩
          obtain ⟨⟨r2, rfl⟩, hz2⟩ := hq2 c hz
          dsimp only [Option.toList, List.cons_append, List.nil_append, Nat.beq, gI_sI, gI_sL, gI_sA, gI_sM, gL_sI, gL_sL, gL_sA, gL_sM, aI_sI, aI_sL, aI_sA, aI_sM, aL_sI, aL_sL, aL_sA, aL_sM]
          refine ⟨trivial, fun w3 τ3 hq3 => ?_⟩
          obtain ⟨rfl, hz3⟩ := hq3 c ((hz2.i (by decide)).i (by decide))
          dsimp only [Option.toList, List.cons_append, List.nil_append, Nat.beq, gI_sI, gI_sL, gI_sA, gI_sM, gL_sI, gL_sL, gL_sA, gL_sM, aI_sI, aI_sL, aI_sA, aI_sM, aL_sI, aL_sL, aL_sA, aL_sM]
          unfold Qv_namedJ4
          try dsimp only
          exact ⟨⟨_, rfl⟩, hz3⟩
    intro n0
    exact (all n0).1 a1 σ hP
  next => exact hP.elim
theorem w_namedJ4 : UMet 30 (fun _ _ => True) Qw_namedJ4 := fun A1 σ _ w τ h c hP => v_namedJ4 c A1 σ hP w τ h
def Pv_wantJ4 (c : RS) : UP1 := fun A1 σ => match A1 with
  | [.int a1] => J4 c σ
  | _ => False
def Qv_wantJ4 (c : RS) : UQ1 := fun A1 σ w τ => match A1 with
  | [.int a1] => (∃ r : Int32, w = some (.int r)) ∧ J4 c τ
  | _ => False
def Qw_wantJ4 : UQ1 := fun A1 σ w τ => ∀ (c : RS), Pv_wantJ4 c A1 σ → Qv_wantJ4 c A1 σ w τ
set_option maxRecDepth 100000 in
set_option maxHeartbeats 4000000 in
theorem v_wantJ4 (c : RS) : UMet 18 (Pv_wantJ4 c) (Qv_wantJ4 c) := by
  refine UMet.by Bwant [(13, (fun _ _ => True), Qw_cantJ4), (14, (fun _ _ => True), Qw_isSignJ4), (17, (fun _ _ => True), Qw_takeJ4)] rfl (ucc w_cantJ4 (ucc w_isSignJ4 (ucc w_takeJ4 uc0))) ?_
  intro A1 σ hP K hB hW
  unfold Pv_wantJ4 at hP
  split at hP
  next a1 =>
    have all : ∀ N : Nat, (∀ (x1 : Int32) (Y : RS), J4 c Y → K N 0 [(0, .ref 1000), (1, .int x1)] [] Y) ∧ (∀ (x1 : Int32) (Y : RS), J4 c Y → K N 8 [(0, .ref 1000), (1, .int x1)] [] Y) ∧ (∀ (x1 : Int32) (Y : RS), J4 c Y → K N 15 [(0, .ref 1000), (1, .int x1)] [] Y) ∧ (∀ (x1 : Int32) (s0 : Int32) (Y : RS), J4 c Y → K N 19 [(0, .ref 1000), (1, .int x1)] [.int s0] Y) := by
      intro N
      induction N using Nat.strongRecOn with
      | ind N ih =>
        refine ⟨?_, ?_, ?_, ?_⟩
        · intro x1 Y hz
          refine hB _ _ _ _ _ (fun m1 hm1 => ?_)
          dsimp only [ugo, uwp, ust, uct, rfd, Bwant, Bwant_0, Nat.beq, lv_args, rlk, rs1, rs2, rdl, rky, rcd, rno, rsw, Value.category, List.filter, List.take, List.drop, List.reverse, List.reverseAux, List.cons_append, List.nil_append, Option.toList, Int.toNat, Int.reduceToNat, if_pos, if_neg, reduceIte, ↓reduceIte, Nat.reduceAdd, Nat.reduceEqDiff, Nat.reduceBEq, beq_self_eq_true, Bool.not_true, Bool.not_false, Bool.and_true, Bool.and_false, Bool.true_and, Bool.false_and, gI_sI, gI_sL, gI_sA, gI_sM, gL_sI, gL_sL, gL_sA, gL_sM, aI_sI, aI_sL, aI_sA, aI_sM, aL_sI, aL_sL, aL_sA, aL_sM]; try dsimp only
          refine ⟨trivial, fun w2 τ2 hq2 => ?_⟩
          obtain ⟨⟨r2, rfl⟩, hz2⟩ := hq2 c hz
          dsimp only [Option.toList, List.cons_append, List.nil_append, Nat.beq, gI_sI, gI_sL, gI_sA, gI_sM, gL_sI, gL_sL, gL_sA, gL_sM, aI_sI, aI_sL, aI_sA, aI_sM, aL_sI, aL_sL, aL_sA, aL_sM]
          refine ⟨fun h3 => ?_, fun h3 => ?_⟩
          · exact hW _ 15 [(0, .ref 1000), (1, .int x1)] _ _ _ (by simp [rdl, rky, Value.category]) ((ih m1 hm1).2.2.1 x1 _ hz2)
          · exact hW _ 8 [(0, .ref 1000), (1, .int x1)] _ _ _ (by simp [rdl, rky, Value.category]) ((ih m1 hm1).2.1 x1 _ hz2)
        · intro x1 Y hz
          refine hB _ _ _ _ _ (fun m1 hm1 => ?_)
          dsimp only [ugo, uwp, ust, uct, rfd, Bwant, Bwant_8, Nat.beq, lv_args, rlk, rs1, rs2, rdl, rky, rcd, rno, rsw, Value.category, List.filter, List.take, List.drop, List.reverse, List.reverseAux, List.cons_append, List.nil_append, Option.toList, Int.toNat, Int.reduceToNat, if_pos, if_neg, reduceIte, ↓reduceIte, Nat.reduceAdd, Nat.reduceEqDiff, Nat.reduceBEq, beq_self_eq_true, Bool.not_true, Bool.not_false, Bool.and_true, Bool.and_false, Bool.true_and, Bool.false_and, gI_sI, gI_sL, gI_sA, gI_sM, gL_sI, gL_sL, gL_sA, gL_sM, aI_sI, aI_sL, aI_sA, aI_sM, aL_sI, aL_sL, aL_sA, aL_sM]; try dsimp only
          refine ⟨trivial, fun w2 τ2 hq2 => ?_⟩
          obtain ⟨⟨r2, rfl⟩, hz2⟩ := hq2 c hz
          dsimp only [Option.toList, List.cons_append, List.nil_append, Nat.beq, gI_sI, gI_sL, gI_sA, gI_sM, gL_sI, gL_sL, gL_sA, gL_sM, aI_sI, aI_sL, aI_sA, aI_sM, aL_sI, aL_sL, aL_sA, aL_sM]
          exact hW _ 19 [(0, .ref 1000), (1, .int x1)] _ _ _ (by simp [rdl, rky, Value.category]) ((ih m1 hm1).2.2.2 x1 r2 _ hz2)
        · intro x1 Y hz
          refine hB _ _ _ _ _ (fun m1 hm1 => ?_)
          dsimp only [ugo, uwp, ust, uct, rfd, Bwant, Bwant_15, Nat.beq, lv_args, rlk, rs1, rs2, rdl, rky, rcd, rno, rsw, Value.category, List.filter, List.take, List.drop, List.reverse, List.reverseAux, List.cons_append, List.nil_append, Option.toList, Int.toNat, Int.reduceToNat, if_pos, if_neg, reduceIte, ↓reduceIte, Nat.reduceAdd, Nat.reduceEqDiff, Nat.reduceBEq, beq_self_eq_true, Bool.not_true, Bool.not_false, Bool.and_true, Bool.and_false, Bool.true_and, Bool.false_and, gI_sI, gI_sL, gI_sA, gI_sM, gL_sI, gL_sL, gL_sA, gL_sM, aI_sI, aI_sL, aI_sA, aI_sM, aL_sI, aL_sL, aL_sA, aL_sM]; try dsimp only
          refine ⟨trivial, fun w2 τ2 hq2 => ?_⟩
          obtain ⟨rfl, hz2⟩ := hq2 c hz
          dsimp only [Option.toList, List.cons_append, List.nil_append, Nat.beq, gI_sI, gI_sL, gI_sA, gI_sM, gL_sI, gL_sL, gL_sA, gL_sM, aI_sI, aI_sL, aI_sA, aI_sM, aL_sI, aL_sL, aL_sA, aL_sM]
          exact hW _ 19 [(0, .ref 1000), (1, .int x1)] _ _ _ (by simp [rdl, rky, Value.category]) ((ih m1 hm1).2.2.2 x1 0 _ hz2)
        · intro x1 s0 Y hz
          refine hB _ _ _ _ _ (fun m1 hm1 => ?_)
          dsimp only [ugo, uwp, ust, uct, rfd, Bwant, Bwant_19, Nat.beq, lv_args, rlk, rs1, rs2, rdl, rky, rcd, rno, rsw, Value.category, List.filter, List.take, List.drop, List.reverse, List.reverseAux, List.cons_append, List.nil_append, Option.toList, Int.toNat, Int.reduceToNat, if_pos, if_neg, reduceIte, ↓reduceIte, Nat.reduceAdd, Nat.reduceEqDiff, Nat.reduceBEq, beq_self_eq_true, Bool.not_true, Bool.not_false, Bool.and_true, Bool.and_false, Bool.true_and, Bool.false_and, gI_sI, gI_sL, gI_sA, gI_sM, gL_sI, gL_sL, gL_sA, gL_sM, aI_sI, aI_sL, aI_sA, aI_sM, aL_sI, aL_sL, aL_sA, aL_sM]; try dsimp only
          unfold Qv_wantJ4
          try dsimp only
          exact ⟨⟨_, rfl⟩, hz⟩
    intro n0
    exact (all n0).1 a1 σ hP
  next => exact hP.elim
theorem w_wantJ4 : UMet 18 (fun _ _ => True) Qw_wantJ4 := fun A1 σ _ w τ h c hP => v_wantJ4 c A1 σ hP w τ h
def Pv_operandJ4 (c : RS) : UP1 := fun A1 σ => match A1 with
  | [.int a1] => J4 c σ
  | _ => False
def Qv_operandJ4 (c : RS) : UQ1 := fun A1 σ w τ => match A1 with
  | [.int a1] => (∃ r : Int32, w = some (.int r)) ∧ J4 c τ
  | _ => False
def Qw_operandJ4 : UQ1 := fun A1 σ w τ => ∀ (c : RS), Pv_operandJ4 c A1 σ → Qv_operandJ4 c A1 σ w τ
set_option maxRecDepth 100000 in
set_option maxHeartbeats 4000000 in
theorem v_operandJ4 (c : RS) : UMet 29 (Pv_operandJ4 c) (Qv_operandJ4 c) := by
  refine UMet.by Boperand [(13, (fun _ _ => True), Qw_cantJ4), (21, (fun _ _ => True), Qw_emitExpJ4), (19, (fun _ _ => True), Qw_enterJ4), (14, (fun _ _ => True), Qw_isSignJ4), (23, (fun _ _ => True), Qw_isTypeJ4), (15, (fun _ _ => True), Qw_isWordJ4), (30, (fun _ _ => True), Qw_namedJ4), (25, (fun _ _ => True), Qw_pushJ4), (17, (fun _ _ => True), Qw_takeJ4), (28, (fun _ _ => True), Qw_waitJ4), (18, (fun _ _ => True), Qw_wantJ4), (26, (fun _ _ => True), Qw_wholeJ4)] rfl (ucc w_cantJ4 (ucc w_emitExpJ4 (ucc w_enterJ4 (ucc w_isSignJ4 (ucc w_isTypeJ4 (ucc w_isWordJ4 (ucc w_namedJ4 (ucc w_pushJ4 (ucc w_takeJ4 (ucc w_waitJ4 (ucc w_wantJ4 (ucc w_wholeJ4 uc0)))))))))))) ?_
  intro A1 σ hP K hB hW
  unfold Pv_operandJ4 at hP
  split at hP
  next a1 =>
    have all : ∀ N : Nat, (∀ (x1 : Int32) (Y : RS), J4 c Y → K N 0 [(0, .ref 1000), (1, .int x1)] [] Y) ∧ (∀ (x1 : Int32) (x2 : Int32) (x3 : Int32) (Y : RS), J4 c Y → K N 22 [(0, .ref 1000), (1, .int x1), (2, .int x2), (3, .int x3)] [] Y) ∧ (∀ (x1 : Int32) (x2 : Int32) (x3 : Int32) (Y : RS), J4 c Y → K N 28 [(0, .ref 1000), (1, .int x1), (2, .int x2), (3, .int x3)] [] Y) ∧ (∀ (x1 : Int32) (x2 : Int32) (x3 : Int32) (Y : RS), J4 c Y → K N 33 [(0, .ref 1000), (1, .int x1), (2, .int x2), (3, .int x3)] [] Y) ∧ (∀ (x1 : Int32) (x2 : Int32) (x3 : Int32) (Y : RS), J4 c Y → K N 38 [(0, .ref 1000), (1, .int x1), (2, .int x2), (3, .int x3)] [] Y) ∧ (∀ (x1 : Int32) (x2 : Int32) (x3 : Int32) (Y : RS), J4 c Y → K N 47 [(0, .ref 1000), (1, .int x1), (2, .int x2), (3, .int x3)] [] Y) ∧ (∀ (x1 : Int32) (x2 : Int32) (x3 : Int32) (Y : RS), J4 c Y → K N 56 [(0, .ref 1000), (1, .int x1), (2, .int x2), (3, .int x3)] [] Y) ∧ (∀ (x1 : Int32) (x2 : Int32) (x3 : Int32) (Y : RS), J4 c Y → K N 63 [(0, .ref 1000), (1, .int x1), (2, .int x2), (3, .int x3)] [] Y) ∧ (∀ (x1 : Int32) (x2 : Int32) (x3 : Int32) (Y : RS), J4 c Y → K N 65 [(0, .ref 1000), (1, .int x1), (2, .int x2), (3, .int x3)] [] Y) ∧ (∀ (x1 : Int32) (x2 : Int32) (x3 : Int32) (Y : RS), J4 c Y → K N 70 [(0, .ref 1000), (1, .int x1), (2, .int x2), (3, .int x3)] [] Y) ∧ (∀ (x1 : Int32) (x2 : Int32) (x3 : Int32) (Y : RS), J4 c Y → K N 79 [(0, .ref 1000), (1, .int x1), (2, .int x2), (3, .int x3)] [] Y) ∧ (∀ (x1 : Int32) (x2 : Int32) (x3 : Int32) (Y : RS), J4 c Y → K N 83 [(0, .ref 1000), (1, .int x1), (2, .int x2), (3, .int x3)] [] Y) ∧ (∀ (x1 : Int32) (x2 : Int32) (x3 : Int32) (Y : RS), J4 c Y → K N 87 [(0, .ref 1000), (1, .int x1), (2, .int x2), (3, .int x3)] [] Y) ∧ (∀ (x1 : Int32) (x2 : Int32) (x3 : Int32) (Y : RS), J4 c Y → K N 92 [(0, .ref 1000), (1, .int x1), (2, .int x2), (3, .int x3)] [] Y) ∧ (∀ (x1 : Int32) (x2 : Int32) (x3 : Int32) (Y : RS), J4 c Y → K N 96 [(0, .ref 1000), (1, .int x1), (2, .int x2), (3, .int x3)] [] Y) ∧ (∀ (x1 : Int32) (x2 : Int32) (x3 : Int32) (s0 : Int32) (Y : RS), J4 c Y → K N 97 [(0, .ref 1000), (1, .int x1), (2, .int x2), (3, .int x3)] [.int s0] Y) ∧ (∀ (x1 : Int32) (x2 : Int32) (x3 : Int32) (x4 : Int32) (s0 : Int32) (Y : RS), J4 c Y → K N 128 [(0, .ref 1000), (1, .int x1), (2, .int x2), (3, .int x3), (4, .int x4)] [.int s0, .ref 21] Y) ∧ (∀ (x1 : Int32) (x2 : Int32) (x3 : Int32) (x4 : Int32) (s0 : Int32) (Y : RS), J4 c Y → K N 142 [(0, .ref 1000), (1, .int x1), (2, .int x2), (3, .int x3), (4, .int x4)] [.int s0, .ref 21] Y) ∧ (∀ (x1 : Int32) (x2 : Int32) (x3 : Int32) (x4 : Int32) (s0 : Int32) (Y : RS), J4 c Y → K N 158 [(0, .ref 1000), (1, .int x1), (2, .int x2), (3, .int x3), (4, .int x4)] [.int s0, .ref 21] Y) ∧ (∀ (x1 : Int32) (x2 : Int32) (x3 : Int32) (x4 : Int32) (s0 : Int32) (Y : RS), J4 c Y → K N 175 [(0, .ref 1000), (1, .int x1), (2, .int x2), (3, .int x3), (4, .int x4)] [.int s0, .ref 21] Y) ∧ (∀ (x1 : Int32) (x2 : Int32) (x3 : Int32) (x4 : Int32) (s0 : Int32) (Y : RS), J4 c Y → K N 179 [(0, .ref 1000), (1, .int x1), (2, .int x2), (3, .int x3), (4, .int x4)] [.int s0, .ref 21] Y) ∧ (∀ (x1 : Int32) (x2 : Int32) (x3 : Int32) (x4 : Int32) (s0 : Int32) (s1 : Int32) (Y : RS), J4 c Y → K N 180 [(0, .ref 1000), (1, .int x1), (2, .int x2), (3, .int x3), (4, .int x4)] [.int s0, .int s1, .ref 21] Y) ∧ (∀ (x1 : Int32) (x2 : Int32) (x3 : Int32) (Y : RS), J4 c Y → K N 193 [(0, .ref 1000), (1, .int x1), (2, .int x2), (3, .int x3)] [] Y) ∧ (∀ (x1 : Int32) (x2 : Int32) (x3 : Int32) (Y : RS), J4 c Y → K N 202 [(0, .ref 1000), (1, .int x1), (2, .int x2), (3, .int x3)] [] Y) ∧ (∀ (x1 : Int32) (x2 : Int32) (x3 : Int32) (Y : RS), J4 c Y → K N 211 [(0, .ref 1000), (1, .int x1), (2, .int x2), (3, .int x3)] [] Y) ∧ (∀ (x1 : Int32) (x2 : Int32) (x3 : Int32) (Y : RS), J4 c Y → K N 220 [(0, .ref 1000), (1, .int x1), (2, .int x2), (3, .int x3)] [] Y) ∧ (∀ (x1 : Int32) (x2 : Int32) (x3 : Int32) (Y : RS), J4 c Y → K N 229 [(0, .ref 1000), (1, .int x1), (2, .int x2), (3, .int x3)] [] Y) ∧ (∀ (x1 : Int32) (x2 : Int32) (x3 : Int32) (x4 : Int32) (Y : RS), J4 c Y → K N 244 [(0, .ref 1000), (1, .int x1), (2, .int x2), (3, .int x3), (4, .int x4)] [] Y) ∧ (∀ (x1 : Int32) (x2 : Int32) (x3 : Int32) (x4 : Int32) (Y : RS), J4 c Y → K N 251 [(0, .ref 1000), (1, .int x1), (2, .int x2), (3, .int x3), (4, .int x4)] [] Y) ∧ (∀ (x1 : Int32) (x2 : Int32) (x3 : Int32) (x4 : Int32) (Y : RS), J4 c Y → K N 253 [(0, .ref 1000), (1, .int x1), (2, .int x2), (3, .int x3), (4, .int x4)] [] Y) ∧ (∀ (x1 : Int32) (x2 : Int32) (x3 : Int32) (Y : RS), J4 c Y → K N 268 [(0, .ref 1000), (1, .int x1), (2, .int x2), (3, .int x3)] [] Y) ∧ (∀ (x1 : Int32) (x2 : Int32) (x3 : Int32) (Y : RS), J4 c Y → K N 278 [(0, .ref 1000), (1, .int x1), (2, .int x2), (3, .int x3)] [] Y) ∧ (∀ (x1 : Int32) (x2 : Int32) (x3 : Int32) (Y : RS), J4 c Y → K N 288 [(0, .ref 1000), (1, .int x1), (2, .int x2), (3, .int x3)] [] Y) ∧ (∀ (x1 : Int32) (x2 : Int32) (x3 : Int32) (x4 : Int32) (Y : RS), J4 c Y → K N 303 [(0, .ref 1000), (1, .int x1), (2, .int x2), (3, .int x3), (4, .int x4)] [] Y) ∧ (∀ (x1 : Int32) (x2 : Int32) (x3 : Int32) (x4 : Int32) (Y : RS), J4 c Y → K N 305 [(0, .ref 1000), (1, .int x1), (2, .int x2), (3, .int x3), (4, .int x4)] [] Y) ∧ (∀ (x1 : Int32) (x2 : Int32) (x3 : Int32) (x4 : Int32) (Y : RS), J4 c Y → K N 318 [(0, .ref 1000), (1, .int x1), (2, .int x2), (3, .int x3), (4, .int x4)] [] Y) ∧ (∀ (x1 : Int32) (x2 : Int32) (x3 : Int32) (x4 : Int32) (Y : RS), J4 c Y → K N 323 [(0, .ref 1000), (1, .int x1), (2, .int x2), (3, .int x3), (4, .int x4)] [] Y) ∧ (∀ (x1 : Int32) (x2 : Int32) (x3 : Int32) (x4 : Int32) (x5 : Int32) (Y : RS), J4 c Y → K N 336 [(0, .ref 1000), (1, .int x1), (2, .int x2), (3, .int x3), (4, .int x4), (5, .int x5)] [] Y) ∧ (∀ (x1 : Int32) (x2 : Int32) (x3 : Int32) (x4 : Int32) (x5 : Int32) (Y : RS), J4 c Y → K N 338 [(0, .ref 1000), (1, .int x1), (2, .int x2), (3, .int x3), (4, .int x4), (5, .int x5)] [] Y) ∧ (∀ (x1 : Int32) (x2 : Int32) (x3 : Int32) (Y : RS), J4 c Y → K N 367 [(0, .ref 1000), (1, .int x1), (2, .int x2), (3, .int x3)] [] Y) ∧ (∀ (x1 : Int32) (x2 : Int32) (x3 : Int32) (Y : RS), J4 c Y → K N 376 [(0, .ref 1000), (1, .int x1), (2, .int x2), (3, .int x3)] [] Y) ∧ (∀ (x1 : Int32) (x2 : Int32) (x3 : Int32) (Y : RS), J4 c Y → K N 381 [(0, .ref 1000), (1, .int x1), (2, .int x2), (3, .int x3)] [] Y) ∧ (∀ (x1 : Int32) (x2 : Int32) (x3 : Int32) (Y : RS), J4 c Y → K N 388 [(0, .ref 1000), (1, .int x1), (2, .int x2), (3, .int x3)] [] Y) ∧ (∀ (x1 : Int32) (x2 : Int32) (x3 : Int32) (Y : RS), J4 c Y → K N 390 [(0, .ref 1000), (1, .int x1), (2, .int x2), (3, .int x3)] [] Y) ∧ (∀ (x1 : Int32) (x2 : Int32) (x3 : Int32) (Y : RS), J4 c Y → K N 401 [(0, .ref 1000), (1, .int x1), (2, .int x2), (3, .int x3)] [] Y) ∧ (∀ (x1 : Int32) (x2 : Int32) (x3 : Int32) (x4 : Int32) (Y : RS), J4 c Y → K N 419 [(0, .ref 1000), (1, .int x1), (2, .int x2), (3, .int x3), (4, .int x4)] [] Y) ∧ (∀ (x1 : Int32) (x2 : Int32) (x3 : Int32) (x4 : Int32) (Y : RS), J4 c Y → K N 428 [(0, .ref 1000), (1, .int x1), (2, .int x2), (3, .int x3), (4, .int x4)] [] Y) ∧ (∀ (x1 : Int32) (x2 : Int32) (x3 : Int32) (x4 : Int32) (Y : RS), J4 c Y → K N 435 [(0, .ref 1000), (1, .int x1), (2, .int x2), (3, .int x3), (4, .int x4)] [] Y) ∧ (∀ (x1 : Int32) (x2 : Int32) (x3 : Int32) (x4 : Int32) (Y : RS), J4 c Y → K N 437 [(0, .ref 1000), (1, .int x1), (2, .int x2), (3, .int x3), (4, .int x4)] [] Y) ∧ (∀ (x1 : Int32) (x2 : Int32) (x3 : Int32) (Y : RS), J4 c Y → K N 452 [(0, .ref 1000), (1, .int x1), (2, .int x2), (3, .int x3)] [] Y) ∧ (∀ (x1 : Int32) (x2 : Int32) (x3 : Int32) (Y : RS), J4 c Y → K N 459 [(0, .ref 1000), (1, .int x1), (2, .int x2), (3, .int x3)] [] Y) ∧ (∀ (x1 : Int32) (x2 : Int32) (x3 : Int32) (Y : RS), J4 c Y → K N 461 [(0, .ref 1000), (1, .int x1), (2, .int x2), (3, .int x3)] [] Y) := by
      intro N
      induction N using Nat.strongRecOn with
      | ind N ih =>
        refine ⟨?_, ?_, ?_, ?_, ?_, ?_, ?_, ?_, ?_, ?_, ?_, ?_, ?_, ?_, ?_, ?_, ?_, ?_, ?_, ?_, ?_, ?_, ?_, ?_, ?_, ?_, ?_, ?_, ?_, ?_, ?_, ?_, ?_, ?_, ?_, ?_, ?_, ?_, ?_, ?_, ?_, ?_, ?_, ?_, ?_, ?_, ?_, ?_, ?_, ?_, ?_, ?_⟩
        · intro x1 Y hz
          refine hB _ _ _ _ _ (fun m1 hm1 => ?_)
          dsimp only [ugo, uwp, ust, uct, rfd, Boperand, Boperand_0, Nat.beq, lv_args, rlk, rs1, rs2, rdl, rky, rcd, rno, rsw, Value.category, List.filter, List.take, List.drop, List.reverse, List.reverseAux, List.cons_append, List.nil_append, Option.toList, Int.toNat, Int.reduceToNat, if_pos, if_neg, reduceIte, ↓reduceIte, Nat.reduceAdd, Nat.reduceEqDiff, Nat.reduceBEq, beq_self_eq_true, Bool.not_true, Bool.not_false, Bool.and_true, Bool.and_false, Bool.true_and, Bool.false_and, gI_sI, gI_sL, gI_sA, gI_sM, gL_sI, gL_sL, gL_sA, gL_sM, aI_sI, aI_sL, aI_sA, aI_sM, aL_sI, aL_sL, aL_sA, aL_sM, oi_0, oi_1]; try dsimp only
          intro p2
          refine ⟨fun h3 => ?_, fun h3 => ?_⟩
          · exact hW _ 28 [(0, .ref 1000), (1, .int x1), (2, .int (gI Y 14)), (3, .int ((aI Y 3) ((gI Y 14)).toNatClampNeg))] _ _ _ (by simp [rdl, rky, Value.category]) ((ih m1 hm1).2.2.1 x1 (gI Y 14) ((aI Y 3) ((gI Y 14)).toNatClampNeg) _ (hz.i (by decide)))
          · exact hW _ 22 [(0, .ref 1000), (1, .int x1), (2, .int (gI Y 14)), (3, .int ((aI Y 3) ((gI Y 14)).toNatClampNeg))] _ _ _ (by simp [rdl, rky, Value.category]) ((ih m1 hm1).2.1 x1 (gI Y 14) ((aI Y 3) ((gI Y 14)).toNatClampNeg) _ (hz.i (by decide)))
        · intro x1 x2 x3 Y hz
          refine hB _ _ _ _ _ (fun m1 hm1 => ?_)
          dsimp only [ugo, uwp, ust, uct, rfd, Boperand, Boperand_22, Nat.beq, lv_args, rlk, rs1, rs2, rdl, rky, rcd, rno, rsw, Value.category, List.filter, List.take, List.drop, List.reverse, List.reverseAux, List.cons_append, List.nil_append, Option.toList, Int.toNat, Int.reduceToNat, if_pos, if_neg, reduceIte, ↓reduceIte, Nat.reduceAdd, Nat.reduceEqDiff, Nat.reduceBEq, beq_self_eq_true, Bool.not_true, Bool.not_false, Bool.and_true, Bool.and_false, Bool.true_and, Bool.false_and, gI_sI, gI_sL, gI_sA, gI_sM, gL_sI, gL_sL, gL_sA, gL_sM, aI_sI, aI_sL, aI_sA, aI_sM, aL_sI, aL_sL, aL_sA, aL_sM]; try dsimp only
          refine ⟨trivial, fun w2 τ2 hq2 => ?_⟩
          obtain ⟨⟨r2, rfl⟩, hz2⟩ := hq2 c hz
          dsimp only [Option.toList, List.cons_append, List.nil_append, Nat.beq, gI_sI, gI_sL, gI_sA, gI_sM, gL_sI, gL_sL, gL_sA, gL_sM, aI_sI, aI_sL, aI_sA, aI_sM, aL_sI, aL_sL, aL_sA, aL_sM]
          unfold Qv_operandJ4
          try dsimp only
          exact ⟨⟨_, rfl⟩, hz2⟩
        · intro x1 x2 x3 Y hz
          refine hB _ _ _ _ _ (fun m1 hm1 => ?_)
          dsimp only [ugo, uwp, ust, uct, rfd, Boperand, Boperand_28, Nat.beq, lv_args, rlk, rs1, rs2, rdl, rky, rcd, rno, rsw, Value.category, List.filter, List.take, List.drop, List.reverse, List.reverseAux, List.cons_append, List.nil_append, Option.toList, Int.toNat, Int.reduceToNat, if_pos, if_neg, reduceIte, ↓reduceIte, Nat.reduceAdd, Nat.reduceEqDiff, Nat.reduceBEq, beq_self_eq_true, Bool.not_true, Bool.not_false, Bool.and_true, Bool.and_false, Bool.true_and, Bool.false_and, gI_sI, gI_sL, gI_sA, gI_sM, gL_sI, gL_sL, gL_sA, gL_sM, aI_sI, aI_sL, aI_sA, aI_sM, aL_sI, aL_sL, aL_sA, aL_sM, oi_2]; try dsimp only
          refine ⟨fun h2 => ?_, fun h2 => ?_⟩
          · exact hW _ 56 [(0, .ref 1000), (1, .int x1), (2, .int x2), (3, .int x3)] _ _ _ (by simp [rdl, rky, Value.category]) ((ih m1 hm1).2.2.2.2.2.2.1 x1 x2 x3 _ hz)
          · exact hW _ 33 [(0, .ref 1000), (1, .int x1), (2, .int x2), (3, .int x3)] _ _ _ (by simp [rdl, rky, Value.category]) ((ih m1 hm1).2.2.2.1 x1 x2 x3 _ hz)
        · intro x1 x2 x3 Y hz
          refine hB _ _ _ _ _ (fun m1 hm1 => ?_)
          dsimp only [ugo, uwp, ust, uct, rfd, Boperand, Boperand_33, Nat.beq, lv_args, rlk, rs1, rs2, rdl, rky, rcd, rno, rsw, Value.category, List.filter, List.take, List.drop, List.reverse, List.reverseAux, List.cons_append, List.nil_append, Option.toList, Int.toNat, Int.reduceToNat, if_pos, if_neg, reduceIte, ↓reduceIte, Nat.reduceAdd, Nat.reduceEqDiff, Nat.reduceBEq, beq_self_eq_true, Bool.not_true, Bool.not_false, Bool.and_true, Bool.and_false, Bool.true_and, Bool.false_and, gI_sI, gI_sL, gI_sA, gI_sM, gL_sI, gL_sL, gL_sA, gL_sM, aI_sI, aI_sL, aI_sA, aI_sM, aL_sI, aL_sL, aL_sA, aL_sM, oi_3]; try dsimp only
          refine ⟨fun h2 => ?_, fun h2 => ?_⟩
          · exact hW _ 56 [(0, .ref 1000), (1, .int x1), (2, .int x2), (3, .int x3)] _ _ _ (by simp [rdl, rky, Value.category]) ((ih m1 hm1).2.2.2.2.2.2.1 x1 x2 x3 _ hz)
          · exact hW _ 38 [(0, .ref 1000), (1, .int x1), (2, .int x2), (3, .int x3)] _ _ _ (by simp [rdl, rky, Value.category]) ((ih m1 hm1).2.2.2.2.1 x1 x2 x3 _ hz)
        · intro x1 x2 x3 Y hz
          refine hB _ _ _ _ _ (fun m1 hm1 => ?_)
          dsimp only [ugo, uwp, ust, uct, rfd, Boperand, Boperand_38, Nat.beq, lv_args, rlk, rs1, rs2, rdl, rky, rcd, rno, rsw, Value.category, List.filter, List.take, List.drop, List.reverse, List.reverseAux, List.cons_append, List.nil_append, Option.toList, Int.toNat, Int.reduceToNat, if_pos, if_neg, reduceIte, ↓reduceIte, Nat.reduceAdd, Nat.reduceEqDiff, Nat.reduceBEq, beq_self_eq_true, Bool.not_true, Bool.not_false, Bool.and_true, Bool.and_false, Bool.true_and, Bool.false_and, gI_sI, gI_sL, gI_sA, gI_sM, gL_sI, gL_sL, gL_sA, gL_sM, aI_sI, aI_sL, aI_sA, aI_sM, aL_sI, aL_sL, aL_sA, aL_sM, oi_22]; try dsimp only
          refine ⟨trivial, fun w2 τ2 hq2 => ?_⟩
          obtain ⟨⟨r2, rfl⟩, hz2⟩ := hq2 c hz
          dsimp only [Option.toList, List.cons_append, List.nil_append, Nat.beq, gI_sI, gI_sL, gI_sA, gI_sM, gL_sI, gL_sL, gL_sA, gL_sM, aI_sI, aI_sL, aI_sA, aI_sM, aL_sI, aL_sL, aL_sA, aL_sM]
          refine ⟨fun h3 => ?_, fun h3 => ?_⟩
          · exact hW _ 56 [(0, .ref 1000), (1, .int x1), (2, .int x2), (3, .int x3)] _ _ _ (by simp [rdl, rky, Value.category]) ((ih m1 hm1).2.2.2.2.2.2.1 x1 x2 x3 _ hz2)
          · exact hW _ 47 [(0, .ref 1000), (1, .int x1), (2, .int x2), (3, .int x3)] _ _ _ (by simp [rdl, rky, Value.category]) ((ih m1 hm1).2.2.2.2.2.1 x1 x2 x3 _ hz2)
        · intro x1 x2 x3 Y hz
          refine hB _ _ _ _ _ (fun m1 hm1 => ?_)
          dsimp only [ugo, uwp, ust, uct, rfd, Boperand, Boperand_47, Nat.beq, lv_args, rlk, rs1, rs2, rdl, rky, rcd, rno, rsw, Value.category, List.filter, List.take, List.drop, List.reverse, List.reverseAux, List.cons_append, List.nil_append, Option.toList, Int.toNat, Int.reduceToNat, if_pos, if_neg, reduceIte, ↓reduceIte, Nat.reduceAdd, Nat.reduceEqDiff, Nat.reduceBEq, beq_self_eq_true, Bool.not_true, Bool.not_false, Bool.and_true, Bool.and_false, Bool.true_and, Bool.false_and, gI_sI, gI_sL, gI_sA, gI_sM, gL_sI, gL_sL, gL_sA, gL_sM, aI_sI, aI_sL, aI_sA, aI_sM, aL_sI, aL_sL, aL_sA, aL_sM, oi_23]; try dsimp only
          refine ⟨trivial, fun w2 τ2 hq2 => ?_⟩
          obtain ⟨⟨r2, rfl⟩, hz2⟩ := hq2 c hz
          dsimp only [Option.toList, List.cons_append, List.nil_append, Nat.beq, gI_sI, gI_sL, gI_sA, gI_sM, gL_sI, gL_sL, gL_sA, gL_sM, aI_sI, aI_sL, aI_sA, aI_sM, aL_sI, aL_sL, aL_sA, aL_sM]
          refine ⟨fun h3 => ?_, fun h3 => ?_⟩
          · exact hW _ 193 [(0, .ref 1000), (1, .int x1), (2, .int x2), (3, .int x3)] _ _ _ (by simp [rdl, rky, Value.category]) ((ih m1 hm1).2.2.2.2.2.2.2.2.2.2.2.2.2.2.2.2.2.2.2.2.2.2.1 x1 x2 x3 _ hz2)
          · exact hW _ 56 [(0, .ref 1000), (1, .int x1), (2, .int x2), (3, .int x3)] _ _ _ (by simp [rdl, rky, Value.category]) ((ih m1 hm1).2.2.2.2.2.2.1 x1 x2 x3 _ hz2)
        · intro x1 x2 x3 Y hz
          refine hB _ _ _ _ _ (fun m1 hm1 => ?_)
          dsimp only [ugo, uwp, ust, uct, rfd, Boperand, Boperand_56, Nat.beq, lv_args, rlk, rs1, rs2, rdl, rky, rcd, rno, rsw, Value.category, List.filter, List.take, List.drop, List.reverse, List.reverseAux, List.cons_append, List.nil_append, Option.toList, Int.toNat, Int.reduceToNat, if_pos, if_neg, reduceIte, ↓reduceIte, Nat.reduceAdd, Nat.reduceEqDiff, Nat.reduceBEq, beq_self_eq_true, Bool.not_true, Bool.not_false, Bool.and_true, Bool.and_false, Bool.true_and, Bool.false_and, gI_sI, gI_sL, gI_sA, gI_sM, gL_sI, gL_sL, gL_sA, gL_sM, aI_sI, aI_sL, aI_sA, aI_sM, aL_sI, aL_sL, aL_sA, aL_sM]; try dsimp only
          refine ⟨trivial, fun w2 τ2 hq2 => ?_⟩
          obtain ⟨⟨r2, rfl⟩, hz2⟩ := hq2 c hz
          dsimp only [Option.toList, List.cons_append, List.nil_append, Nat.beq, gI_sI, gI_sL, gI_sA, gI_sM, gL_sI, gL_sL, gL_sA, gL_sM, aI_sI, aI_sL, aI_sA, aI_sM, aL_sI, aL_sL, aL_sA, aL_sM]
          refine ⟨fun h3 => ?_, fun h3 => ?_⟩
          · exact hW _ 65 [(0, .ref 1000), (1, .int x1), (2, .int x2), (3, .int x3)] _ _ _ (by simp [rdl, rky, Value.category]) ((ih m1 hm1).2.2.2.2.2.2.2.2.1 x1 x2 x3 _ hz2)
          · exact hW _ 63 [(0, .ref 1000), (1, .int x1), (2, .int x2), (3, .int x3)] _ _ _ (by simp [rdl, rky, Value.category]) ((ih m1 hm1).2.2.2.2.2.2.2.1 x1 x2 x3 _ hz2)
        · intro x1 x2 x3 Y hz
          refine hB _ _ _ _ _ (fun m1 hm1 => ?_)
          dsimp only [ugo, uwp, ust, uct, rfd, Boperand, Boperand_63, Nat.beq, lv_args, rlk, rs1, rs2, rdl, rky, rcd, rno, rsw, Value.category, List.filter, List.take, List.drop, List.reverse, List.reverseAux, List.cons_append, List.nil_append, Option.toList, Int.toNat, Int.reduceToNat, if_pos, if_neg, reduceIte, ↓reduceIte, Nat.reduceAdd, Nat.reduceEqDiff, Nat.reduceBEq, beq_self_eq_true, Bool.not_true, Bool.not_false, Bool.and_true, Bool.and_false, Bool.true_and, Bool.false_and, gI_sI, gI_sL, gI_sA, gI_sM, gL_sI, gL_sL, gL_sA, gL_sM, aI_sI, aI_sL, aI_sA, aI_sM, aL_sI, aL_sL, aL_sA, aL_sM, oi_0]; try dsimp only
          unfold Qv_operandJ4
          try dsimp only
          exact ⟨⟨_, rfl⟩, hz⟩
        · intro x1 x2 x3 Y hz
          refine hB _ _ _ _ _ (fun m1 hm1 => ?_)
          dsimp only [ugo, uwp, ust, uct, rfd, Boperand, Boperand_65, Nat.beq, lv_args, rlk, rs1, rs2, rdl, rky, rcd, rno, rsw, Value.category, List.filter, List.take, List.drop, List.reverse, List.reverseAux, List.cons_append, List.nil_append, Option.toList, Int.toNat, Int.reduceToNat, if_pos, if_neg, reduceIte, ↓reduceIte, Nat.reduceAdd, Nat.reduceEqDiff, Nat.reduceBEq, beq_self_eq_true, Bool.not_true, Bool.not_false, Bool.and_true, Bool.and_false, Bool.true_and, Bool.false_and, gI_sI, gI_sL, gI_sA, gI_sM, gL_sI, gL_sL, gL_sA, gL_sM, aI_sI, aI_sL, aI_sA, aI_sM, aL_sI, aL_sL, aL_sA, aL_sM, oi_2]; try dsimp only
          refine ⟨fun h2 => ?_, fun h2 => ?_⟩
          · exact hW _ 87 [(0, .ref 1000), (1, .int x1), (2, .int x2), (3, .int x3)] _ _ _ (by simp [rdl, rky, Value.category]) ((ih m1 hm1).2.2.2.2.2.2.2.2.2.2.2.2.1 x1 x2 x3 _ hz)
          · exact hW _ 70 [(0, .ref 1000), (1, .int x1), (2, .int x2), (3, .int x3)] _ _ _ (by simp [rdl, rky, Value.category]) ((ih m1 hm1).2.2.2.2.2.2.2.2.2.1 x1 x2 x3 _ hz)
        · intro x1 x2 x3 Y hz
          refine hB _ _ _ _ _ (fun m1 hm1 => ?_)
          dsimp only [ugo, uwp, ust, uct, rfd, Boperand, Boperand_70, Nat.beq, lv_args, rlk, rs1, rs2, rdl, rky, rcd, rno, rsw, Value.category, List.filter, List.take, List.drop, List.reverse, List.reverseAux, List.cons_append, List.nil_append, Option.toList, Int.toNat, Int.reduceToNat, if_pos, if_neg, reduceIte, ↓reduceIte, Nat.reduceAdd, Nat.reduceEqDiff, Nat.reduceBEq, beq_self_eq_true, Bool.not_true, Bool.not_false, Bool.and_true, Bool.and_false, Bool.true_and, Bool.false_and, gI_sI, gI_sL, gI_sA, gI_sM, gL_sI, gL_sL, gL_sA, gL_sM, aI_sI, aI_sL, aI_sA, aI_sM, aL_sI, aL_sL, aL_sA, aL_sM]; try dsimp only
          intro p2
          refine ⟨fun h3 => ?_, fun h3 => ?_⟩
          · exact hW _ 83 [(0, .ref 1000), (1, .int x1), (2, .int x2), (3, .int x3)] _ _ _ (by simp [rdl, rky, Value.category]) ((ih m1 hm1).2.2.2.2.2.2.2.2.2.2.2.1 x1 x2 x3 _ hz)
          · exact hW _ 79 [(0, .ref 1000), (1, .int x1), (2, .int x2), (3, .int x3)] _ _ _ (by simp [rdl, rky, Value.category]) ((ih m1 hm1).2.2.2.2.2.2.2.2.2.2.1 x1 x2 x3 _ hz)
        · intro x1 x2 x3 Y hz
          refine hB _ _ _ _ _ (fun m1 hm1 => ?_)
          dsimp only [ugo, uwp, ust, uct, rfd, Boperand, Boperand_79, Nat.beq, lv_args, rlk, rs1, rs2, rdl, rky, rcd, rno, rsw, Value.category, List.filter, List.take, List.drop, List.reverse, List.reverseAux, List.cons_append, List.nil_append, Option.toList, Int.toNat, Int.reduceToNat, if_pos, if_neg, reduceIte, ↓reduceIte, Nat.reduceAdd, Nat.reduceEqDiff, Nat.reduceBEq, beq_self_eq_true, Bool.not_true, Bool.not_false, Bool.and_true, Bool.and_false, Bool.true_and, Bool.false_and, gI_sI, gI_sL, gI_sA, gI_sM, gL_sI, gL_sL, gL_sA, gL_sM, aI_sI, aI_sL, aI_sA, aI_sM, aL_sI, aL_sL, aL_sA, aL_sM, oi_4]; try dsimp only
          exact hW _ 97 [(0, .ref 1000), (1, .int x1), (2, .int x2), (3, .int x3)] _ _ _ (by simp [rdl, rky, Value.category]) ((ih m1 hm1).2.2.2.2.2.2.2.2.2.2.2.2.2.2.2.1 x1 x2 x3 4 _ hz)
        · intro x1 x2 x3 Y hz
          refine hB _ _ _ _ _ (fun m1 hm1 => ?_)
          dsimp only [ugo, uwp, ust, uct, rfd, Boperand, Boperand_83, Nat.beq, lv_args, rlk, rs1, rs2, rdl, rky, rcd, rno, rsw, Value.category, List.filter, List.take, List.drop, List.reverse, List.reverseAux, List.cons_append, List.nil_append, Option.toList, Int.toNat, Int.reduceToNat, if_pos, if_neg, reduceIte, ↓reduceIte, Nat.reduceAdd, Nat.reduceEqDiff, Nat.reduceBEq, beq_self_eq_true, Bool.not_true, Bool.not_false, Bool.and_true, Bool.and_false, Bool.true_and, Bool.false_and, gI_sI, gI_sL, gI_sA, gI_sM, gL_sI, gL_sL, gL_sA, gL_sM, aI_sI, aI_sL, aI_sA, aI_sM, aL_sI, aL_sL, aL_sA, aL_sM, oi_3]; try dsimp only
          exact hW _ 97 [(0, .ref 1000), (1, .int x1), (2, .int x2), (3, .int x3)] _ _ _ (by simp [rdl, rky, Value.category]) ((ih m1 hm1).2.2.2.2.2.2.2.2.2.2.2.2.2.2.2.1 x1 x2 x3 3 _ hz)
        · intro x1 x2 x3 Y hz
          refine hB _ _ _ _ _ (fun m1 hm1 => ?_)
          dsimp only [ugo, uwp, ust, uct, rfd, Boperand, Boperand_87, Nat.beq, lv_args, rlk, rs1, rs2, rdl, rky, rcd, rno, rsw, Value.category, List.filter, List.take, List.drop, List.reverse, List.reverseAux, List.cons_append, List.nil_append, Option.toList, Int.toNat, Int.reduceToNat, if_pos, if_neg, reduceIte, ↓reduceIte, Nat.reduceAdd, Nat.reduceEqDiff, Nat.reduceBEq, beq_self_eq_true, Bool.not_true, Bool.not_false, Bool.and_true, Bool.and_false, Bool.true_and, Bool.false_and, gI_sI, gI_sL, gI_sA, gI_sM, gL_sI, gL_sL, gL_sA, gL_sM, aI_sI, aI_sL, aI_sA, aI_sM, aL_sI, aL_sL, aL_sA, aL_sM, oi_3]; try dsimp only
          refine ⟨fun h2 => ?_, fun h2 => ?_⟩
          · exact hW _ 96 [(0, .ref 1000), (1, .int x1), (2, .int x2), (3, .int x3)] _ _ _ (by simp [rdl, rky, Value.category]) ((ih m1 hm1).2.2.2.2.2.2.2.2.2.2.2.2.2.2.1 x1 x2 x3 _ hz)
          · exact hW _ 92 [(0, .ref 1000), (1, .int x1), (2, .int x2), (3, .int x3)] _ _ _ (by simp [rdl, rky, Value.category]) ((ih m1 hm1).2.2.2.2.2.2.2.2.2.2.2.2.2.1 x1 x2 x3 _ hz)
        · intro x1 x2 x3 Y hz
          refine hB _ _ _ _ _ (fun m1 hm1 => ?_)
          dsimp only [ugo, uwp, ust, uct, rfd, Boperand, Boperand_92, Nat.beq, lv_args, rlk, rs1, rs2, rdl, rky, rcd, rno, rsw, Value.category, List.filter, List.take, List.drop, List.reverse, List.reverseAux, List.cons_append, List.nil_append, Option.toList, Int.toNat, Int.reduceToNat, if_pos, if_neg, reduceIte, ↓reduceIte, Nat.reduceAdd, Nat.reduceEqDiff, Nat.reduceBEq, beq_self_eq_true, Bool.not_true, Bool.not_false, Bool.and_true, Bool.and_false, Bool.true_and, Bool.false_and, gI_sI, gI_sL, gI_sA, gI_sM, gL_sI, gL_sL, gL_sA, gL_sM, aI_sI, aI_sL, aI_sA, aI_sM, aL_sI, aL_sL, aL_sA, aL_sM, oi_2]; try dsimp only
          exact hW _ 97 [(0, .ref 1000), (1, .int x1), (2, .int x2), (3, .int x3)] _ _ _ (by simp [rdl, rky, Value.category]) ((ih m1 hm1).2.2.2.2.2.2.2.2.2.2.2.2.2.2.2.1 x1 x2 x3 2 _ hz)
        · intro x1 x2 x3 Y hz
          refine hB _ _ _ _ _ (fun m1 hm1 => ?_)
          dsimp only [ugo, uwp, ust, uct, rfd, Boperand, Boperand_96, Nat.beq, lv_args, rlk, rs1, rs2, rdl, rky, rcd, rno, rsw, Value.category, List.filter, List.take, List.drop, List.reverse, List.reverseAux, List.cons_append, List.nil_append, Option.toList, Int.toNat, Int.reduceToNat, if_pos, if_neg, reduceIte, ↓reduceIte, Nat.reduceAdd, Nat.reduceEqDiff, Nat.reduceBEq, beq_self_eq_true, Bool.not_true, Bool.not_false, Bool.and_true, Bool.and_false, Bool.true_and, Bool.false_and, gI_sI, gI_sL, gI_sA, gI_sM, gL_sI, gL_sL, gL_sA, gL_sM, aI_sI, aI_sL, aI_sA, aI_sM, aL_sI, aL_sL, aL_sA, aL_sM, oi_0]; try dsimp only
          exact hW _ 97 [(0, .ref 1000), (1, .int x1), (2, .int x2), (3, .int x3)] _ _ _ (by simp [rdl, rky, Value.category]) ((ih m1 hm1).2.2.2.2.2.2.2.2.2.2.2.2.2.2.2.1 x1 x2 x3 0 _ hz)
        · intro x1 x2 x3 s0 Y hz
          refine hB _ _ _ _ _ (fun m1 hm1 => ?_)
          dsimp only [ugo, uwp, ust, uct, rfd, Boperand, Boperand_97, Nat.beq, lv_args, rlk, rs1, rs2, rdl, rky, rcd, rno, rsw, Value.category, List.filter, List.take, List.drop, List.reverse, List.reverseAux, List.cons_append, List.nil_append, Option.toList, Int.toNat, Int.reduceToNat, if_pos, if_neg, reduceIte, ↓reduceIte, Nat.reduceAdd, Nat.reduceEqDiff, Nat.reduceBEq, beq_self_eq_true, Bool.not_true, Bool.not_false, Bool.and_true, Bool.and_false, Bool.true_and, Bool.false_and, gI_sI, gI_sL, gI_sA, gI_sM, gL_sI, gL_sL, gL_sA, gL_sM, aI_sI, aI_sL, aI_sA, aI_sM, aL_sI, aL_sL, aL_sA, aL_sM, oi_1]; try dsimp only
          refine ⟨trivial, fun w2 τ2 hq2 => ?_⟩
          obtain ⟨⟨r2, rfl⟩, hz2⟩ := hq2 c hz
          dsimp only [Option.toList, List.cons_append, List.nil_append, Nat.beq, gI_sI, gI_sL, gI_sA, gI_sM, gL_sI, gL_sL, gL_sA, gL_sM, aI_sI, aI_sL, aI_sA, aI_sM, aL_sI, aL_sL, aL_sA, aL_sM]
          refine ⟨fun h3 => ?_, fun h3 => ?_⟩
          · exact hW _ 179 [(0, .ref 1000), (1, .int x1), (2, .int x2), (3, .int x3), (4, .int s0)] _ _ _ (by simp [rdl, rky, Value.category]) ((ih m1 hm1).2.2.2.2.2.2.2.2.2.2.2.2.2.2.2.2.2.2.2.2.1 x1 x2 x3 s0 r2 _ (hz2.i (by decide)))
          · exact hW _ 128 [(0, .ref 1000), (1, .int x1), (2, .int x2), (3, .int x3), (4, .int s0)] _ _ _ (by simp [rdl, rky, Value.category]) ((ih m1 hm1).2.2.2.2.2.2.2.2.2.2.2.2.2.2.2.2.1 x1 x2 x3 s0 r2 _ (hz2.i (by decide)))
        · intro x1 x2 x3 x4 s0 Y hz
          refine hB _ _ _ _ _ (fun m1 hm1 => ?_)
          dsimp only [ugo, uwp, ust, uct, rfd, Boperand, Boperand_128, Nat.beq, lv_args, rlk, rs1, rs2, rdl, rky, rcd, rno, rsw, Value.category, List.filter, List.take, List.drop, List.reverse, List.reverseAux, List.cons_append, List.nil_append, Option.toList, Int.toNat, Int.reduceToNat, if_pos, if_neg, reduceIte, ↓reduceIte, Nat.reduceAdd, Nat.reduceEqDiff, Nat.reduceBEq, beq_self_eq_true, Bool.not_true, Bool.not_false, Bool.and_true, Bool.and_false, Bool.true_and, Bool.false_and, gI_sI, gI_sL, gI_sA, gI_sM, gL_sI, gL_sL, gL_sA, gL_sM, aI_sI, aI_sL, aI_sA, aI_sM, aL_sI, aL_sL, aL_sA, aL_sM, oi_1]; try dsimp only
          intro p2
          refine ⟨fun h3 => ?_, fun h3 => ?_⟩
          · exact hW _ 179 [(0, .ref 1000), (1, .int x1), (2, .int x2), (3, .int x3), (4, .int x4)] _ _ _ (by simp [rdl, rky, Value.category]) ((ih m1 hm1).2.2.2.2.2.2.2.2.2.2.2.2.2.2.2.2.2.2.2.2.1 x1 x2 x3 x4 s0 _ hz)
          · exact hW _ 142 [(0, .ref 1000), (1, .int x1), (2, .int x2), (3, .int x3), (4, .int x4)] _ _ _ (by simp [rdl, rky, Value.category]) ((ih m1 hm1).2.2.2.2.2.2.2.2.2.2.2.2.2.2.2.2.2.1 x1 x2 x3 x4 s0 _ hz)
        · intro x1 x2 x3 x4 s0 Y hz
          refine hB _ _ _ _ _ (fun m1 hm1 => ?_)
          dsimp only [ugo, uwp, ust, uct, rfd, Boperand, Boperand_142, Nat.beq, lv_args, rlk, rs1, rs2, rdl, rky, rcd, rno, rsw, Value.category, List.filter, List.take, List.drop, List.reverse, List.reverseAux, List.cons_append, List.nil_append, Option.toList, Int.toNat, Int.reduceToNat, if_pos, if_neg, reduceIte, ↓reduceIte, Nat.reduceAdd, Nat.reduceEqDiff, Nat.reduceBEq, beq_self_eq_true, Bool.not_true, Bool.not_false, Bool.and_true, Bool.and_false, Bool.true_and, Bool.false_and, gI_sI, gI_sL, gI_sA, gI_sM, gL_sI, gL_sL, gL_sA, gL_sM, aI_sI, aI_sL, aI_sA, aI_sM, aL_sI, aL_sL, aL_sA, aL_sM, oi_1, oi_45]; try dsimp only
          intro p2
          refine ⟨fun h3 => ?_, fun h3 => ?_⟩
          · exact hW _ 179 [(0, .ref 1000), (1, .int x1), (2, .int x2), (3, .int x3), (4, .int x4)] _ _ _ (by simp [rdl, rky, Value.category]) ((ih m1 hm1).2.2.2.2.2.2.2.2.2.2.2.2.2.2.2.2.2.2.2.2.1 x1 x2 x3 x4 s0 _ hz)
          · exact hW _ 158 [(0, .ref 1000), (1, .int x1), (2, .int x2), (3, .int x3), (4, .int x4)] _ _ _ (by simp [rdl, rky, Value.category]) ((ih m1 hm1).2.2.2.2.2.2.2.2.2.2.2.2.2.2.2.2.2.2.1 x1 x2 x3 x4 s0 _ hz)
        · intro x1 x2 x3 x4 s0 Y hz
          refine hB _ _ _ _ _ (fun m1 hm1 => ?_)
          dsimp only [ugo, uwp, ust, uct, rfd, Boperand, Boperand_158, Nat.beq, lv_args, rlk, rs1, rs2, rdl, rky, rcd, rno, rsw, Value.category, List.filter, List.take, List.drop, List.reverse, List.reverseAux, List.cons_append, List.nil_append, Option.toList, Int.toNat, Int.reduceToNat, if_pos, if_neg, reduceIte, ↓reduceIte, Nat.reduceAdd, Nat.reduceEqDiff, Nat.reduceBEq, beq_self_eq_true, Bool.not_true, Bool.not_false, Bool.and_true, Bool.and_false, Bool.true_and, Bool.false_and, gI_sI, gI_sL, gI_sA, gI_sM, gL_sI, gL_sL, gL_sA, gL_sM, aI_sI, aI_sL, aI_sA, aI_sM, aL_sI, aL_sL, aL_sA, aL_sM, oi_1]; try dsimp only
          intro p2
          refine ⟨fun h3 => ?_, fun h3 => ?_⟩
          · exact hW _ 179 [(0, .ref 1000), (1, .int x1), (2, .int x2), (3, .int x3), (4, .int x4)] _ _ _ (by simp [rdl, rky, Value.category]) ((ih m1 hm1).2.2.2.2.2.2.2.2.2.2.2.2.2.2.2.2.2.2.2.2.1 x1 x2 x3 x4 s0 _ hz)
          · exact hW _ 175 [(0, .ref 1000), (1, .int x1), (2, .int x2), (3, .int x3), (4, .int x4)] _ _ _ (by simp [rdl, rky, Value.category]) ((ih m1 hm1).2.2.2.2.2.2.2.2.2.2.2.2.2.2.2.2.2.2.2.1 x1 x2 x3 x4 s0 _ hz)
        · intro x1 x2 x3 x4 s0 Y hz
          refine hB _ _ _ _ _ (fun m1 hm1 => ?_)
          dsimp only [ugo, uwp, ust, uct, rfd, Boperand, Boperand_175, Nat.beq, lv_args, rlk, rs1, rs2, rdl, rky, rcd, rno, rsw, Value.category, List.filter, List.take, List.drop, List.reverse, List.reverseAux, List.cons_append, List.nil_append, Option.toList, Int.toNat, Int.reduceToNat, if_pos, if_neg, reduceIte, ↓reduceIte, Nat.reduceAdd, Nat.reduceEqDiff, Nat.reduceBEq, beq_self_eq_true, Bool.not_true, Bool.not_false, Bool.and_true, Bool.and_false, Bool.true_and, Bool.false_and, gI_sI, gI_sL, gI_sA, gI_sM, gL_sI, gL_sL, gL_sA, gL_sM, aI_sI, aI_sL, aI_sA, aI_sM, aL_sI, aL_sL, aL_sA, aL_sM, oi_1]; try dsimp only
          exact hW _ 180 [(0, .ref 1000), (1, .int x1), (2, .int x2), (3, .int x3), (4, .int x4)] _ _ _ (by simp [rdl, rky, Value.category]) ((ih m1 hm1).2.2.2.2.2.2.2.2.2.2.2.2.2.2.2.2.2.2.2.2.2.1 x1 x2 x3 x4 1 s0 _ hz)
        · intro x1 x2 x3 x4 s0 Y hz
          refine hB _ _ _ _ _ (fun m1 hm1 => ?_)
          dsimp only [ugo, uwp, ust, uct, rfd, Boperand, Boperand_179, Nat.beq, lv_args, rlk, rs1, rs2, rdl, rky, rcd, rno, rsw, Value.category, List.filter, List.take, List.drop, List.reverse, List.reverseAux, List.cons_append, List.nil_append, Option.toList, Int.toNat, Int.reduceToNat, if_pos, if_neg, reduceIte, ↓reduceIte, Nat.reduceAdd, Nat.reduceEqDiff, Nat.reduceBEq, beq_self_eq_true, Bool.not_true, Bool.not_false, Bool.and_true, Bool.and_false, Bool.true_and, Bool.false_and, gI_sI, gI_sL, gI_sA, gI_sM, gL_sI, gL_sL, gL_sA, gL_sM, aI_sI, aI_sL, aI_sA, aI_sM, aL_sI, aL_sL, aL_sA, aL_sM, oi_0]; try dsimp only
          exact hW _ 180 [(0, .ref 1000), (1, .int x1), (2, .int x2), (3, .int x3), (4, .int x4)] _ _ _ (by simp [rdl, rky, Value.category]) ((ih m1 hm1).2.2.2.2.2.2.2.2.2.2.2.2.2.2.2.2.2.2.2.2.2.1 x1 x2 x3 x4 0 s0 _ hz)
        · intro x1 x2 x3 x4 s0 s1 Y hz
          refine hB _ _ _ _ _ (fun m1 hm1 => ?_)
          dsimp only [ugo, uwp, ust, uct, rfd, Boperand, Boperand_180, Nat.beq, lv_args, rlk, rs1, rs2, rdl, rky, rcd, rno, rsw, Value.category, List.filter, List.take, List.drop, List.reverse, List.reverseAux, List.cons_append, List.nil_append, Option.toList, Int.toNat, Int.reduceToNat, if_pos, if_neg, reduceIte, ↓reduceIte, Nat.reduceAdd, Nat.reduceEqDiff, Nat.reduceBEq, beq_self_eq_true, Bool.not_true, Bool.not_false, Bool.and_true, Bool.and_false, Bool.true_and, Bool.false_and, gI_sI, gI_sL, gI_sA, gI_sM, gL_sI, gL_sL, gL_sA, gL_sM, aI_sI, aI_sL, aI_sA, aI_sM, aL_sI, aL_sL, aL_sA, aL_sM, oi_1]; try dsimp only
          intro p2
          refine ⟨trivial, fun w3 τ3 hq3 => ?_⟩
          obtain ⟨rfl, hz3⟩ := hq3 c ((hz.a (by decide)).i (by decide))
          dsimp only [Option.toList, List.cons_append, List.nil_append, Nat.beq, gI_sI, gI_sL, gI_sA, gI_sM, gL_sI, gL_sL, gL_sA, gL_sM, aI_sI, aI_sL, aI_sA, aI_sM, aL_sI, aL_sL, aL_sA, aL_sM]
          unfold Qv_operandJ4
          try dsimp only
          exact ⟨⟨_, rfl⟩, hz3⟩
        · intro x1 x2 x3 Y hz
          refine hB _ _ _ _ _ (fun m1 hm1 => ?_)
          dsimp only [ugo, uwp, ust, uct, rfd, Boperand, Boperand_193, Nat.beq, lv_args, rlk, rs1, rs2, rdl, rky, rcd, rno, rsw, Value.category, List.filter, List.take, List.drop, List.reverse, List.reverseAux, List.cons_append, List.nil_append, Option.toList, Int.toNat, Int.reduceToNat, if_pos, if_neg, reduceIte, ↓reduceIte, Nat.reduceAdd, Nat.reduceEqDiff, Nat.reduceBEq, beq_self_eq_true, Bool.not_true, Bool.not_false, Bool.and_true, Bool.and_false, Bool.true_and, Bool.false_and, gI_sI, gI_sL, gI_sA, gI_sM, gL_sI, gL_sL, gL_sA, gL_sM, aI_sI, aI_sL, aI_sA, aI_sM, aL_sI, aL_sL, aL_sA, aL_sM, oi_43]; try dsimp only
          refine ⟨trivial, fun w2 τ2 hq2 => ?_⟩
          obtain ⟨⟨r2, rfl⟩, hz2⟩ := hq2 c hz
          dsimp only [Option.toList, List.cons_append, List.nil_append, Nat.beq, gI_sI, gI_sL, gI_sA, gI_sM, gL_sI, gL_sL, gL_sA, gL_sM, aI_sI, aI_sL, aI_sA, aI_sM, aL_sI, aL_sL, aL_sA, aL_sM]
          refine ⟨fun h3 => ?_, fun h3 => ?_⟩
          · exact hW _ 229 [(0, .ref 1000), (1, .int x1), (2, .int x2), (3, .int x3)] _ _ _ (by simp [rdl, rky, Value.category]) ((ih m1 hm1).2.2.2.2.2.2.2.2.2.2.2.2.2.2.2.2.2.2.2.2.2.2.2.2.2.2.1 x1 x2 x3 _ hz2)
          · exact hW _ 202 [(0, .ref 1000), (1, .int x1), (2, .int x2), (3, .int x3)] _ _ _ (by simp [rdl, rky, Value.category]) ((ih m1 hm1).2.2.2.2.2.2.2.2.2.2.2.2.2.2.2.2.2.2.2.2.2.2.2.1 x1 x2 x3 _ hz2)
        · intro x1 x2 x3 Y hz
          refine hB _ _ _ _ _ (fun m1 hm1 => ?_)
          dsimp only [ugo, uwp, ust, uct, rfd, Boperand, Boperand_202, Nat.beq, lv_args, rlk, rs1, rs2, rdl, rky, rcd, rno, rsw, Value.category, List.filter, List.take, List.drop, List.reverse, List.reverseAux, List.cons_append, List.nil_append, Option.toList, Int.toNat, Int.reduceToNat, if_pos, if_neg, reduceIte, ↓reduceIte, Nat.reduceAdd, Nat.reduceEqDiff, Nat.reduceBEq, beq_self_eq_true, Bool.not_true, Bool.not_false, Bool.and_true, Bool.and_false, Bool.true_and, Bool.false_and, gI_sI, gI_sL, gI_sA, gI_sM, gL_sI, gL_sL, gL_sA, gL_sM, aI_sI, aI_sL, aI_sA, aI_sM, aL_sI, aL_sL, aL_sA, aL_sM, oi_45]; try dsimp only
          refine ⟨trivial, fun w2 τ2 hq2 => ?_⟩
          obtain ⟨⟨r2, rfl⟩, hz2⟩ := hq2 c hz
          dsimp only [Option.toList, List.cons_append, List.nil_append, Nat.beq, gI_sI, gI_sL, gI_sA, gI_sM, gL_sI, gL_sL, gL_sA, gL_sM, aI_sI, aI_sL, aI_sA, aI_sM, aL_sI, aL_sL, aL_sA, aL_sM]
          refine ⟨fun h3 => ?_, fun h3 => ?_⟩
          · exact hW _ 229 [(0, .ref 1000), (1, .int x1), (2, .int x2), (3, .int x3)] _ _ _ (by simp [rdl, rky, Value.category]) ((ih m1 hm1).2.2.2.2.2.2.2.2.2.2.2.2.2.2.2.2.2.2.2.2.2.2.2.2.2.2.1 x1 x2 x3 _ hz2)
          · exact hW _ 211 [(0, .ref 1000), (1, .int x1), (2, .int x2), (3, .int x3)] _ _ _ (by simp [rdl, rky, Value.category]) ((ih m1 hm1).2.2.2.2.2.2.2.2.2.2.2.2.2.2.2.2.2.2.2.2.2.2.2.2.1 x1 x2 x3 _ hz2)
        · intro x1 x2 x3 Y hz
          refine hB _ _ _ _ _ (fun m1 hm1 => ?_)
          dsimp only [ugo, uwp, ust, uct, rfd, Boperand, Boperand_211, Nat.beq, lv_args, rlk, rs1, rs2, rdl, rky, rcd, rno, rsw, Value.category, List.filter, List.take, List.drop, List.reverse, List.reverseAux, List.cons_append, List.nil_append, Option.toList, Int.toNat, Int.reduceToNat, if_pos, if_neg, reduceIte, ↓reduceIte, Nat.reduceAdd, Nat.reduceEqDiff, Nat.reduceBEq, beq_self_eq_true, Bool.not_true, Bool.not_false, Bool.and_true, Bool.and_false, Bool.true_and, Bool.false_and, gI_sI, gI_sL, gI_sA, gI_sM, gL_sI, gL_sL, gL_sA, gL_sM, aI_sI, aI_sL, aI_sA, aI_sM, aL_sI, aL_sL, aL_sA, aL_sM, oi_33]; try dsimp only
          refine ⟨trivial, fun w2 τ2 hq2 => ?_⟩
          obtain ⟨⟨r2, rfl⟩, hz2⟩ := hq2 c hz
          dsimp only [Option.toList, List.cons_append, List.nil_append, Nat.beq, gI_sI, gI_sL, gI_sA, gI_sM, gL_sI, gL_sL, gL_sA, gL_sM, aI_sI, aI_sL, aI_sA, aI_sM, aL_sI, aL_sL, aL_sA, aL_sM]
          refine ⟨fun h3 => ?_, fun h3 => ?_⟩
          · exact hW _ 229 [(0, .ref 1000), (1, .int x1), (2, .int x2), (3, .int x3)] _ _ _ (by simp [rdl, rky, Value.category]) ((ih m1 hm1).2.2.2.2.2.2.2.2.2.2.2.2.2.2.2.2.2.2.2.2.2.2.2.2.2.2.1 x1 x2 x3 _ hz2)
          · exact hW _ 220 [(0, .ref 1000), (1, .int x1), (2, .int x2), (3, .int x3)] _ _ _ (by simp [rdl, rky, Value.category]) ((ih m1 hm1).2.2.2.2.2.2.2.2.2.2.2.2.2.2.2.2.2.2.2.2.2.2.2.2.2.1 x1 x2 x3 _ hz2)
        · intro x1 x2 x3 Y hz
          refine hB _ _ _ _ _ (fun m1 hm1 => ?_)
          dsimp only [ugo, uwp, ust, uct, rfd, Boperand, Boperand_220, Nat.beq, lv_args, rlk, rs1, rs2, rdl, rky, rcd, rno, rsw, Value.category, List.filter, List.take, List.drop, List.reverse, List.reverseAux, List.cons_append, List.nil_append, Option.toList, Int.toNat, Int.reduceToNat, if_pos, if_neg, reduceIte, ↓reduceIte, Nat.reduceAdd, Nat.reduceEqDiff, Nat.reduceBEq, beq_self_eq_true, Bool.not_true, Bool.not_false, Bool.and_true, Bool.and_false, Bool.true_and, Bool.false_and, gI_sI, gI_sL, gI_sA, gI_sM, gL_sI, gL_sL, gL_sA, gL_sM, aI_sI, aI_sL, aI_sA, aI_sM, aL_sI, aL_sL, aL_sA, aL_sM, oi_126]; try dsimp only
          refine ⟨trivial, fun w2 τ2 hq2 => ?_⟩
          obtain ⟨⟨r2, rfl⟩, hz2⟩ := hq2 c hz
          dsimp only [Option.toList, List.cons_append, List.nil_append, Nat.beq, gI_sI, gI_sL, gI_sA, gI_sM, gL_sI, gL_sL, gL_sA, gL_sM, aI_sI, aI_sL, aI_sA, aI_sM, aL_sI, aL_sL, aL_sA, aL_sM]
          refine ⟨fun h3 => ?_, fun h3 => ?_⟩
          · exact hW _ 268 [(0, .ref 1000), (1, .int x1), (2, .int x2), (3, .int x3)] _ _ _ (by simp [rdl, rky, Value.category]) ((ih m1 hm1).2.2.2.2.2.2.2.2.2.2.2.2.2.2.2.2.2.2.2.2.2.2.2.2.2.2.2.2.2.2.1 x1 x2 x3 _ hz2)
          · exact hW _ 229 [(0, .ref 1000), (1, .int x1), (2, .int x2), (3, .int x3)] _ _ _ (by simp [rdl, rky, Value.category]) ((ih m1 hm1).2.2.2.2.2.2.2.2.2.2.2.2.2.2.2.2.2.2.2.2.2.2.2.2.2.2.1 x1 x2 x3 _ hz2)
        · intro x1 x2 x3 Y hz
          refine hB _ _ _ _ _ (fun m1 hm1 => ?_)
          dsimp only [ugo, uwp, ust, uct, rfd, Boperand, Boperand_229, Nat.beq, lv_args, rlk, rs1, rs2, rdl, rky, rcd, rno, rsw, Value.category, List.filter, List.take, List.drop, List.reverse, List.reverseAux, List.cons_append, List.nil_append, Option.toList, Int.toNat, Int.reduceToNat, if_pos, if_neg, reduceIte, ↓reduceIte, Nat.reduceAdd, Nat.reduceEqDiff, Nat.reduceBEq, beq_self_eq_true, Bool.not_true, Bool.not_false, Bool.and_true, Bool.and_false, Bool.true_and, Bool.false_and, gI_sI, gI_sL, gI_sA, gI_sM, gL_sI, gL_sL, gL_sA, gL_sM, aI_sI, aI_sL, aI_sA, aI_sM, aL_sI, aL_sL, aL_sA, aL_sM]; try dsimp only
          intro p2
          refine ⟨trivial, fun w3 τ3 hq3 => ?_⟩
          obtain ⟨⟨r3, rfl⟩, hz3⟩ := hq3 c hz
          dsimp only [Option.toList, List.cons_append, List.nil_append, Nat.beq, gI_sI, gI_sL, gI_sA, gI_sM, gL_sI, gL_sL, gL_sA, gL_sM, aI_sI, aI_sL, aI_sA, aI_sM, aL_sI, aL_sL, aL_sA, aL_sM]
          refine ⟨fun h4 => ?_, fun h4 => ?_⟩
          · exact hW _ 251 [(0, .ref 1000), (1, .int x1), (2, .int x2), (3, .int x3), (4, .int ((aI Y 6) (x2).toNatClampNeg))] _ _ _ (by simp [rdl, rky, Value.category]) ((ih m1 hm1).2.2.2.2.2.2.2.2.2.2.2.2.2.2.2.2.2.2.2.2.2.2.2.2.2.2.2.2.1 x1 x2 x3 ((aI Y 6) (x2).toNatClampNeg) _ hz3)
          · exact hW _ 244 [(0, .ref 1000), (1, .int x1), (2, .int x2), (3, .int x3), (4, .int ((aI Y 6) (x2).toNatClampNeg))] _ _ _ (by simp [rdl, rky, Value.category]) ((ih m1 hm1).2.2.2.2.2.2.2.2.2.2.2.2.2.2.2.2.2.2.2.2.2.2.2.2.2.2.2.1 x1 x2 x3 ((aI Y 6) (x2).toNatClampNeg) _ hz3)
        · intro x1 x2 x3 x4 Y hz
          refine hB _ _ _ _ _ (fun m1 hm1 => ?_)
          dsimp only [ugo, uwp, ust, uct, rfd, Boperand, Boperand_244, Nat.beq, lv_args, rlk, rs1, rs2, rdl, rky, rcd, rno, rsw, Value.category, List.filter, List.take, List.drop, List.reverse, List.reverseAux, List.cons_append, List.nil_append, Option.toList, Int.toNat, Int.reduceToNat, if_pos, if_neg, reduceIte, ↓reduceIte, Nat.reduceAdd, Nat.reduceEqDiff, Nat.reduceBEq, beq_self_eq_true, Bool.not_true, Bool.not_false, Bool.and_true, Bool.and_false, Bool.true_and, Bool.false_and, gI_sI, gI_sL, gI_sA, gI_sM, gL_sI, gL_sL, gL_sA, gL_sM, aI_sI, aI_sL, aI_sA, aI_sM, aL_sI, aL_sL, aL_sA, aL_sM]; try dsimp only
          refine ⟨trivial, fun w2 τ2 hq2 => ?_⟩
          obtain ⟨⟨r2, rfl⟩, hz2⟩ := hq2 c hz
          dsimp only [Option.toList, List.cons_append, List.nil_append, Nat.beq, gI_sI, gI_sL, gI_sA, gI_sM, gL_sI, gL_sL, gL_sA, gL_sM, aI_sI, aI_sL, aI_sA, aI_sM, aL_sI, aL_sL, aL_sA, aL_sM]
          refine ⟨fun h3 => ?_, fun h3 => ?_⟩
          · exact hW _ 253 [(0, .ref 1000), (1, .int x1), (2, .int x2), (3, .int x3), (4, .int x4)] _ _ _ (by simp [rdl, rky, Value.category]) ((ih m1 hm1).2.2.2.2.2.2.2.2.2.2.2.2.2.2.2.2.2.2.2.2.2.2.2.2.2.2.2.2.2.1 x1 x2 x3 x4 _ hz2)
          · exact hW _ 251 [(0, .ref 1000), (1, .int x1), (2, .int x2), (3, .int x3), (4, .int x4)] _ _ _ (by simp [rdl, rky, Value.category]) ((ih m1 hm1).2.2.2.2.2.2.2.2.2.2.2.2.2.2.2.2.2.2.2.2.2.2.2.2.2.2.2.2.1 x1 x2 x3 x4 _ hz2)
        · intro x1 x2 x3 x4 Y hz
          refine hB _ _ _ _ _ (fun m1 hm1 => ?_)
          dsimp only [ugo, uwp, ust, uct, rfd, Boperand, Boperand_251, Nat.beq, lv_args, rlk, rs1, rs2, rdl, rky, rcd, rno, rsw, Value.category, List.filter, List.take, List.drop, List.reverse, List.reverseAux, List.cons_append, List.nil_append, Option.toList, Int.toNat, Int.reduceToNat, if_pos, if_neg, reduceIte, ↓reduceIte, Nat.reduceAdd, Nat.reduceEqDiff, Nat.reduceBEq, beq_self_eq_true, Bool.not_true, Bool.not_false, Bool.and_true, Bool.and_false, Bool.true_and, Bool.false_and, gI_sI, gI_sL, gI_sA, gI_sM, gL_sI, gL_sL, gL_sA, gL_sM, aI_sI, aI_sL, aI_sA, aI_sM, aL_sI, aL_sL, aL_sA, aL_sM, oi_0]; try dsimp only
          unfold Qv_operandJ4
          try dsimp only
          exact ⟨⟨_, rfl⟩, hz⟩
        · intro x1 x2 x3 x4 Y hz
          refine hB _ _ _ _ _ (fun m1 hm1 => ?_)
          dsimp only [ugo, uwp, ust, uct, rfd, Boperand, Boperand_253, Nat.beq, lv_args, rlk, rs1, rs2, rdl, rky, rcd, rno, rsw, Value.category, List.filter, List.take, List.drop, List.reverse, List.reverseAux, List.cons_append, List.nil_append, Option.toList, Int.toNat, Int.reduceToNat, if_pos, if_neg, reduceIte, ↓reduceIte, Nat.reduceAdd, Nat.reduceEqDiff, Nat.reduceBEq, beq_self_eq_true, Bool.not_true, Bool.not_false, Bool.and_true, Bool.and_false, Bool.true_and, Bool.false_and, gI_sI, gI_sL, gI_sA, gI_sM, gL_sI, gL_sL, gL_sA, gL_sM, aI_sI, aI_sL, aI_sA, aI_sM, aL_sI, aL_sL, aL_sA, aL_sM, oi_0]; try dsimp only
          refine ⟨trivial, fun w2 τ2 hq2 => ?_⟩
          obtain ⟨⟨r2, rfl⟩, hz2⟩ := hq2 c hz
          dsimp only [Option.toList, List.cons_append, List.nil_append, Nat.beq, gI_sI, gI_sL, gI_sA, gI_sM, gL_sI, gL_sL, gL_sA, gL_sM, aI_sI, aI_sL, aI_sA, aI_sM, aL_sI, aL_sL, aL_sA, aL_sM]
          refine ⟨trivial, fun w3 τ3 hq3 => ?_⟩
          obtain ⟨⟨r3, rfl⟩, hz3⟩ := hq3 c hz2
          dsimp only [Option.toList, List.cons_append, List.nil_append, Nat.beq, gI_sI, gI_sL, gI_sA, gI_sM, gL_sI, gL_sL, gL_sA, gL_sM, aI_sI, aI_sL, aI_sA, aI_sM, aL_sI, aL_sL, aL_sA, aL_sM]
          unfold Qv_operandJ4
          try dsimp only
          exact ⟨⟨_, rfl⟩, hz3⟩
        · intro x1 x2 x3 Y hz
          refine hB _ _ _ _ _ (fun m1 hm1 => ?_)
          dsimp only [ugo, uwp, ust, uct, rfd, Boperand, Boperand_268, Nat.beq, lv_args, rlk, rs1, rs2, rdl, rky, rcd, rno, rsw, Value.category, List.filter, List.take, List.drop, List.reverse, List.reverseAux, List.cons_append, List.nil_append, Option.toList, Int.toNat, Int.reduceToNat, if_pos, if_neg, reduceIte, ↓reduceIte, Nat.reduceAdd, Nat.reduceEqDiff, Nat.reduceBEq, beq_self_eq_true, Bool.not_true, Bool.not_false, Bool.and_true, Bool.and_false, Bool.true_and, Bool.false_and, gI_sI, gI_sL, gI_sA, gI_sM, gL_sI, gL_sL, gL_sA, gL_sM, aI_sI, aI_sL, aI_sA, aI_sM, aL_sI, aL_sL, aL_sA, aL_sM, oi_309]; try dsimp only
          refine ⟨trivial, fun w2 τ2 hq2 => ?_⟩
          obtain ⟨⟨r2, rfl⟩, hz2⟩ := hq2 c hz
          dsimp only [Option.toList, List.cons_append, List.nil_append, Nat.beq, gI_sI, gI_sL, gI_sA, gI_sM, gL_sI, gL_sL, gL_sA, gL_sM, aI_sI, aI_sL, aI_sA, aI_sM, aL_sI, aL_sL, aL_sA, aL_sM]
          refine ⟨fun h3 => ?_, fun h3 => ?_⟩
          · exact hW _ 288 [(0, .ref 1000), (1, .int x1), (2, .int x2), (3, .int x3)] _ _ _ (by simp [rdl, rky, Value.category]) ((ih m1 hm1).2.2.2.2.2.2.2.2.2.2.2.2.2.2.2.2.2.2.2.2.2.2.2.2.2.2.2.2.2.2.2.2.1 x1 x2 x3 _ hz2)
          · exact hW _ 278 [(0, .ref 1000), (1, .int x1), (2, .int x2), (3, .int x3)] _ _ _ (by simp [rdl, rky, Value.category]) ((ih m1 hm1).2.2.2.2.2.2.2.2.2.2.2.2.2.2.2.2.2.2.2.2.2.2.2.2.2.2.2.2.2.2.2.1 x1 x2 x3 _ hz2)
        · intro x1 x2 x3 Y hz
          refine hB _ _ _ _ _ (fun m1 hm1 => ?_)
          dsimp only [ugo, uwp, ust, uct, rfd, Boperand, Boperand_278, Nat.beq, lv_args, rlk, rs1, rs2, rdl, rky, rcd, rno, rsw, Value.category, List.filter, List.take, List.drop, List.reverse, List.reverseAux, List.cons_append, List.nil_append, Option.toList, Int.toNat, Int.reduceToNat, if_pos, if_neg, reduceIte, ↓reduceIte, Nat.reduceAdd, Nat.reduceEqDiff, Nat.reduceBEq, beq_self_eq_true, Bool.not_true, Bool.not_false, Bool.and_true, Bool.and_false, Bool.true_and, Bool.false_and, gI_sI, gI_sL, gI_sA, gI_sM, gL_sI, gL_sL, gL_sA, gL_sM, aI_sI, aI_sL, aI_sA, aI_sM, aL_sI, aL_sL, aL_sA, aL_sM, oi_310]; try dsimp only
          refine ⟨trivial, fun w2 τ2 hq2 => ?_⟩
          obtain ⟨⟨r2, rfl⟩, hz2⟩ := hq2 c hz
          dsimp only [Option.toList, List.cons_append, List.nil_append, Nat.beq, gI_sI, gI_sL, gI_sA, gI_sM, gL_sI, gL_sL, gL_sA, gL_sM, aI_sI, aI_sL, aI_sA, aI_sM, aL_sI, aL_sL, aL_sA, aL_sM]
          refine ⟨fun h3 => ?_, fun h3 => ?_⟩
          · exact hW _ 367 [(0, .ref 1000), (1, .int x1), (2, .int x2), (3, .int x3)] _ _ _ (by simp [rdl, rky, Value.category]) ((ih m1 hm1).2.2.2.2.2.2.2.2.2.2.2.2.2.2.2.2.2.2.2.2.2.2.2.2.2.2.2.2.2.2.2.2.2.2.2.2.2.2.2.1 x1 x2 x3 _ hz2)
          · exact hW _ 288 [(0, .ref 1000), (1, .int x1), (2, .int x2), (3, .int x3)] _ _ _ (by simp [rdl, rky, Value.category]) ((ih m1 hm1).2.2.2.2.2.2.2.2.2.2.2.2.2.2.2.2.2.2.2.2.2.2.2.2.2.2.2.2.2.2.2.2.1 x1 x2 x3 _ hz2)
        · intro x1 x2 x3 Y hz
          refine hB _ _ _ _ _ (fun m1 hm1 => ?_)
          dsimp only [ugo, uwp, ust, uct, rfd, Boperand, Boperand_288, Nat.beq, lv_args, rlk, rs1, rs2, rdl, rky, rcd, rno, rsw, Value.category, List.filter, List.take, List.drop, List.reverse, List.reverseAux, List.cons_append, List.nil_append, Option.toList, Int.toNat, Int.reduceToNat, if_pos, if_neg, reduceIte, ↓reduceIte, Nat.reduceAdd, Nat.reduceEqDiff, Nat.reduceBEq, beq_self_eq_true, Bool.not_true, Bool.not_false, Bool.and_true, Bool.and_false, Bool.true_and, Bool.false_and, gI_sI, gI_sL, gI_sA, gI_sM, gL_sI, gL_sL, gL_sA, gL_sM, aI_sI, aI_sL, aI_sA, aI_sM, aL_sI, aL_sL, aL_sA, aL_sM]; try dsimp only
          intro p2
          refine ⟨trivial, fun w3 τ3 hq3 => ?_⟩
          obtain ⟨⟨r3, rfl⟩, hz3⟩ := hq3 c hz
          dsimp only [Option.toList, List.cons_append, List.nil_append, Nat.beq, gI_sI, gI_sL, gI_sA, gI_sM, gL_sI, gL_sL, gL_sA, gL_sM, aI_sI, aI_sL, aI_sA, aI_sM, aL_sI, aL_sL, aL_sA, aL_sM]
          refine ⟨fun h4 => ?_, fun h4 => ?_⟩
          · exact hW _ 305 [(0, .ref 1000), (1, .int x1), (2, .int x2), (3, .int x3), (4, .int ((aI Y 6) (x2).toNatClampNeg))] _ _ _ (by simp [rdl, rky, Value.category]) ((ih m1 hm1).2.2.2.2.2.2.2.2.2.2.2.2.2.2.2.2.2.2.2.2.2.2.2.2.2.2.2.2.2.2.2.2.2.2.1 x1 x2 x3 ((aI Y 6) (x2).toNatClampNeg) _ hz3)
          · exact hW _ 303 [(0, .ref 1000), (1, .int x1), (2, .int x2), (3, .int x3), (4, .int ((aI Y 6) (x2).toNatClampNeg))] _ _ _ (by simp [rdl, rky, Value.category]) ((ih m1 hm1).2.2.2.2.2.2.2.2.2.2.2.2.2.2.2.2.2.2.2.2.2.2.2.2.2.2.2.2.2.2.2.2.2.1 x1 x2 x3 ((aI Y 6) (x2).toNatClampNeg) _ hz3)
        · intro x1 x2 x3 x4 Y hz
          refine hB _ _ _ _ _ (fun m1 hm1 => ?_)
          dsimp only [ugo, uwp, ust, uct, rfd, Boperand, Boperand_303, Nat.beq, lv_args, rlk, rs1, rs2, rdl, rky, rcd, rno, rsw, Value.category, List.filter, List.take, List.drop, List.reverse, List.reverseAux, List.cons_append, List.nil_append, Option.toList, Int.toNat, Int.reduceToNat, if_pos, if_neg, reduceIte, ↓reduceIte, Nat.reduceAdd, Nat.reduceEqDiff, Nat.reduceBEq, beq_self_eq_true, Bool.not_true, Bool.not_false, Bool.and_true, Bool.and_false, Bool.true_and, Bool.false_and, gI_sI, gI_sL, gI_sA, gI_sM, gL_sI, gL_sL, gL_sA, gL_sM, aI_sI, aI_sL, aI_sA, aI_sM, aL_sI, aL_sL, aL_sA, aL_sM, oi_0]; try dsimp only
          unfold Qv_operandJ4
          try dsimp only
          exact ⟨⟨_, rfl⟩, hz⟩
        · intro x1 x2 x3 x4 Y hz
          refine hB _ _ _ _ _ (fun m1 hm1 => ?_)
          dsimp only [ugo, uwp, ust, uct, rfd, Boperand, Boperand_305, Nat.beq, lv_args, rlk, rs1, rs2, rdl, rky, rcd, rno, rsw, Value.category, List.filter, List.take, List.drop, List.reverse, List.reverseAux, List.cons_append, List.nil_append, Option.toList, Int.toNat, Int.reduceToNat, if_pos, if_neg, reduceIte, ↓reduceIte, Nat.reduceAdd, Nat.reduceEqDiff, Nat.reduceBEq, beq_self_eq_true, Bool.not_true, Bool.not_false, Bool.and_true, Bool.and_false, Bool.true_and, Bool.false_and, gI_sI, gI_sL, gI_sA, gI_sM, gL_sI, gL_sL, gL_sA, gL_sM, aI_sI, aI_sL, aI_sA, aI_sM, aL_sI, aL_sL, aL_sA, aL_sM, oi_1]; try dsimp only
          intro p2
          refine ⟨fun h3 => ?_, fun h3 => ?_⟩
          · exact hW _ 323 [(0, .ref 1000), (1, .int x1), (2, .int x2), (3, .int x3), (4, .int x4)] _ _ _ (by simp [rdl, rky, Value.category]) ((ih m1 hm1).2.2.2.2.2.2.2.2.2.2.2.2.2.2.2.2.2.2.2.2.2.2.2.2.2.2.2.2.2.2.2.2.2.2.2.2.1 x1 x2 x3 x4 _ hz)
          · exact hW _ 318 [(0, .ref 1000), (1, .int x1), (2, .int x2), (3, .int x3), (4, .int x4)] _ _ _ (by simp [rdl, rky, Value.category]) ((ih m1 hm1).2.2.2.2.2.2.2.2.2.2.2.2.2.2.2.2.2.2.2.2.2.2.2.2.2.2.2.2.2.2.2.2.2.2.2.1 x1 x2 x3 x4 _ hz)
        · intro x1 x2 x3 x4 Y hz
          refine hB _ _ _ _ _ (fun m1 hm1 => ?_)
          dsimp only [ugo, uwp, ust, uct, rfd, Boperand, Boperand_318, Nat.beq, lv_args, rlk, rs1, rs2, rdl, rky, rcd, rno, rsw, Value.category, List.filter, List.take, List.drop, List.reverse, List.reverseAux, List.cons_append, List.nil_append, Option.toList, Int.toNat, Int.reduceToNat, if_pos, if_neg, reduceIte, ↓reduceIte, Nat.reduceAdd, Nat.reduceEqDiff, Nat.reduceBEq, beq_self_eq_true, Bool.not_true, Bool.not_false, Bool.and_true, Bool.and_false, Bool.true_and, Bool.false_and, gI_sI, gI_sL, gI_sA, gI_sM, gL_sI, gL_sL, gL_sA, gL_sM, aI_sI, aI_sL, aI_sA, aI_sM, aL_sI, aL_sL, aL_sA, aL_sM]; try dsimp only
          refine ⟨trivial, fun w2 τ2 hq2 => ?_⟩
          obtain ⟨rfl, hz2⟩ := hq2 c hz
          dsimp only [Option.toList, List.cons_append, List.nil_append, Nat.beq, gI_sI, gI_sL, gI_sA, gI_sM, gL_sI, gL_sL, gL_sA, gL_sM, aI_sI, aI_sL, aI_sA, aI_sM, aL_sI, aL_sL, aL_sA, aL_sM]
          unfold Qv_operandJ4
          try dsimp only
          exact ⟨⟨_, rfl⟩, hz2⟩
        · intro x1 x2 x3 x4 Y hz
          refine hB _ _ _ _ _ (fun m1 hm1 => ?_)
          dsimp only [ugo, uwp, ust, uct, rfd, Boperand, Boperand_323, Nat.beq, lv_args, rlk, rs1, rs2, rdl, rky, rcd, rno, rsw, Value.category, List.filter, List.take, List.drop, List.reverse, List.reverseAux, List.cons_append, List.nil_append, Option.toList, Int.toNat, Int.reduceToNat, if_pos, if_neg, reduceIte, ↓reduceIte, Nat.reduceAdd, Nat.reduceEqDiff, Nat.reduceBEq, beq_self_eq_true, Bool.not_true, Bool.not_false, Bool.and_true, Bool.and_false, Bool.true_and, Bool.false_and, gI_sI, gI_sL, gI_sA, gI_sM, gL_sI, gL_sL, gL_sA, gL_sM, aI_sI, aI_sL, aI_sA, aI_sM, aL_sI, aL_sL, aL_sA, aL_sM]; try dsimp only
          refine ⟨trivial, fun w2 τ2 hq2 => ?_⟩
          obtain ⟨⟨r2, rfl⟩, hz2⟩ := hq2 c hz
          dsimp only [Option.toList, List.cons_append, List.nil_append, Nat.beq, gI_sI, gI_sL, gI_sA, gI_sM, gL_sI, gL_sL, gL_sA, gL_sM, aI_sI, aI_sL, aI_sA, aI_sM, aL_sI, aL_sL, aL_sA, aL_sM]
          refine ⟨fun h3 => ?_, fun h3 => ?_⟩
          · exact hW _ 338 [(0, .ref 1000), (1, .int x1), (2, .int x2), (3, .int x3), (4, .int x4), (5, .int (gI Y 14))] _ _ _ (by simp [rdl, rky, Value.category]) ((ih m1 hm1).2.2.2.2.2.2.2.2.2.2.2.2.2.2.2.2.2.2.2.2.2.2.2.2.2.2.2.2.2.2.2.2.2.2.2.2.2.2.1 x1 x2 x3 x4 (gI Y 14) _ hz2)
          · exact hW _ 336 [(0, .ref 1000), (1, .int x1), (2, .int x2), (3, .int x3), (4, .int x4), (5, .int (gI Y 14))] _ _ _ (by simp [rdl, rky, Value.category]) ((ih m1 hm1).2.2.2.2.2.2.2.2.2.2.2.2.2.2.2.2.2.2.2.2.2.2.2.2.2.2.2.2.2.2.2.2.2.2.2.2.2.1 x1 x2 x3 x4 (gI Y 14) _ hz2)
        · intro x1 x2 x3 x4 x5 Y hz
          refine hB _ _ _ _ _ (fun m1 hm1 => ?_)
          dsimp only [ugo, uwp, ust, uct, rfd, Boperand, Boperand_336, Nat.beq, lv_args, rlk, rs1, rs2, rdl, rky, rcd, rno, rsw, Value.category, List.filter, List.take, List.drop, List.reverse, List.reverseAux, List.cons_append, List.nil_append, Option.toList, Int.toNat, Int.reduceToNat, if_pos, if_neg, reduceIte, ↓reduceIte, Nat.reduceAdd, Nat.reduceEqDiff, Nat.reduceBEq, beq_self_eq_true, Bool.not_true, Bool.not_false, Bool.and_true, Bool.and_false, Bool.true_and, Bool.false_and, gI_sI, gI_sL, gI_sA, gI_sM, gL_sI, gL_sL, gL_sA, gL_sM, aI_sI, aI_sL, aI_sA, aI_sM, aL_sI, aL_sL, aL_sA, aL_sM, oi_0]; try dsimp only
          unfold Qv_operandJ4
          try dsimp only
          exact ⟨⟨_, rfl⟩, hz⟩
        · intro x1 x2 x3 x4 x5 Y hz
          refine hB _ _ _ _ _ (fun m1 hm1 => ?_)
          dsimp only [ugo, uwp, ust, uct, rfd, Boperand, Boperand_338, Nat.beq, lv_args, rlk, rs1, rs2, rdl, rky, rcd, rno, rsw, Value.category, List.filter, List.take, List.drop, List.reverse, List.reverseAux, List.cons_append, List.nil_append, Option.toList, Int.toNat, Int.reduceToNat, if_pos, if_neg, reduceIte, ↓reduceIte, Nat.reduceAdd, Nat.reduceEqDiff, Nat.reduceBEq, beq_self_eq_true, Bool.not_true, Bool.not_false, Bool.and_true, Bool.and_false, Bool.true_and, Bool.false_and, gI_sI, gI_sL, gI_sA, gI_sM, gL_sI, gL_sL, gL_sA, gL_sM, aI_sI, aI_sL, aI_sA, aI_sM, aL_sI, aL_sL, aL_sA, aL_sM, oi_1, oi_4]; try dsimp only
          refine ⟨trivial, fun w2 τ2 hq2 => ?_⟩
          obtain ⟨⟨r2, rfl⟩, hz2⟩ := hq2 c hz
          dsimp only [Option.toList, List.cons_append, List.nil_append, Nat.beq, gI_sI, gI_sL, gI_sA, gI_sM, gL_sI, gL_sL, gL_sA, gL_sM, aI_sI, aI_sL, aI_sA, aI_sM, aL_sI, aL_sL, aL_sA, aL_sM]
          refine ⟨trivial, fun w3 τ3 hq3 => ?_⟩
          obtain ⟨rfl, hz3⟩ := hq3 c ((hz2.i (by decide)).i (by decide))
          dsimp only [Option.toList, List.cons_append, List.nil_append, Nat.beq, gI_sI, gI_sL, gI_sA, gI_sM, gL_sI, gL_sL, gL_sA, gL_sM, aI_sI, aI_sL, aI_sA, aI_sM, aL_sI, aL_sL, aL_sA, aL_sM]
          unfold Qv_operandJ4
          try dsimp only
          exact ⟨⟨_, rfl⟩, hz3⟩
        · intro x1 x2 x3 Y hz
          refine hB _ _ _ _ _ (fun m1 hm1 => ?_)
          dsimp only [ugo, uwp, ust, uct, rfd, Boperand, Boperand_367, Nat.beq, lv_args, rlk, rs1, rs2, rdl, rky, rcd, rno, rsw, Value.category, List.filter, List.take, List.drop, List.reverse, List.reverseAux, List.cons_append, List.nil_append, Option.toList, Int.toNat, Int.reduceToNat, if_pos, if_neg, reduceIte, ↓reduceIte, Nat.reduceAdd, Nat.reduceEqDiff, Nat.reduceBEq, beq_self_eq_true, Bool.not_true, Bool.not_false, Bool.and_true, Bool.and_false, Bool.true_and, Bool.false_and, gI_sI, gI_sL, gI_sA, gI_sM, gL_sI, gL_sL, gL_sA, gL_sM, aI_sI, aI_sL, aI_sA, aI_sM, aL_sI, aL_sL, aL_sA, aL_sM, oi_40]; try dsimp only
          refine ⟨trivial, fun w2 τ2 hq2 => ?_⟩
          obtain ⟨⟨r2, rfl⟩, hz2⟩ := hq2 c hz
          dsimp only [Option.toList, List.cons_append, List.nil_append, Nat.beq, gI_sI, gI_sL, gI_sA, gI_sM, gL_sI, gL_sL, gL_sA, gL_sM, aI_sI, aI_sL, aI_sA, aI_sM, aL_sI, aL_sL, aL_sA, aL_sM]
          refine ⟨fun h3 => ?_, fun h3 => ?_⟩
          · exact hW _ 381 [(0, .ref 1000), (1, .int x1), (2, .int x2), (3, .int x3)] _ _ _ (by simp [rdl, rky, Value.category]) ((ih m1 hm1).2.2.2.2.2.2.2.2.2.2.2.2.2.2.2.2.2.2.2.2.2.2.2.2.2.2.2.2.2.2.2.2.2.2.2.2.2.2.2.2.2.1 x1 x2 x3 _ hz2)
          · exact hW _ 376 [(0, .ref 1000), (1, .int x1), (2, .int x2), (3, .int x3)] _ _ _ (by simp [rdl, rky, Value.category]) ((ih m1 hm1).2.2.2.2.2.2.2.2.2.2.2.2.2.2.2.2.2.2.2.2.2.2.2.2.2.2.2.2.2.2.2.2.2.2.2.2.2.2.2.2.1 x1 x2 x3 _ hz2)
        · intro x1 x2 x3 Y hz
          refine hB _ _ _ _ _ (fun m1 hm1 => ?_)
          dsimp only [ugo, uwp, ust, uct, rfd, Boperand, Boperand_376, Nat.beq, lv_args, rlk, rs1, rs2, rdl, rky, rcd, rno, rsw, Value.category, List.filter, List.take, List.drop, List.reverse, List.reverseAux, List.cons_append, List.nil_append, Option.toList, Int.toNat, Int.reduceToNat, if_pos, if_neg, reduceIte, ↓reduceIte, Nat.reduceAdd, Nat.reduceEqDiff, Nat.reduceBEq, beq_self_eq_true, Bool.not_true, Bool.not_false, Bool.and_true, Bool.and_false, Bool.true_and, Bool.false_and, gI_sI, gI_sL, gI_sA, gI_sM, gL_sI, gL_sL, gL_sA, gL_sM, aI_sI, aI_sL, aI_sA, aI_sM, aL_sI, aL_sL, aL_sA, aL_sM]; try dsimp only
          refine ⟨trivial, fun w2 τ2 hq2 => ?_⟩
          obtain ⟨rfl, hz2⟩ := hq2 c hz
          dsimp only [Option.toList, List.cons_append, List.nil_append, Nat.beq, gI_sI, gI_sL, gI_sA, gI_sM, gL_sI, gL_sL, gL_sA, gL_sM, aI_sI, aI_sL, aI_sA, aI_sM, aL_sI, aL_sL, aL_sA, aL_sM]
          unfold Qv_operandJ4
          try dsimp only
          exact ⟨⟨_, rfl⟩, hz2⟩
        · intro x1 x2 x3 Y hz
          refine hB _ _ _ _ _ (fun m1 hm1 => ?_)
          dsimp only [ugo, uwp, ust, uct, rfd, Boperand, Boperand_381, Nat.beq, lv_args, rlk, rs1, rs2, rdl, rky, rcd, rno, rsw, Value.category, List.filter, List.take, List.drop, List.reverse, List.reverseAux, List.cons_append, List.nil_append, Option.toList, Int.toNat, Int.reduceToNat, if_pos, if_neg, reduceIte, ↓reduceIte, Nat.reduceAdd, Nat.reduceEqDiff, Nat.reduceBEq, beq_self_eq_true, Bool.not_true, Bool.not_false, Bool.and_true, Bool.and_false, Bool.true_and, Bool.false_and, gI_sI, gI_sL, gI_sA, gI_sM, gL_sI, gL_sL, gL_sA, gL_sM, aI_sI, aI_sL, aI_sA, aI_sM, aL_sI, aL_sL, aL_sA, aL_sM]; try dsimp only
          refine ⟨trivial, fun w2 τ2 hq2 => ?_⟩
          obtain ⟨⟨r2, rfl⟩, hz2⟩ := hq2 c hz
          dsimp only [Option.toList, List.cons_append, List.nil_append, Nat.beq, gI_sI, gI_sL, gI_sA, gI_sM, gL_sI, gL_sL, gL_sA, gL_sM, aI_sI, aI_sL, aI_sA, aI_sM, aL_sI, aL_sL, aL_sA, aL_sM]
          refine ⟨fun h3 => ?_, fun h3 => ?_⟩
          · exact hW _ 390 [(0, .ref 1000), (1, .int x1), (2, .int x2), (3, .int x3)] _ _ _ (by simp [rdl, rky, Value.category]) ((ih m1 hm1).2.2.2.2.2.2.2.2.2.2.2.2.2.2.2.2.2.2.2.2.2.2.2.2.2.2.2.2.2.2.2.2.2.2.2.2.2.2.2.2.2.2.2.1 x1 x2 x3 _ hz2)
          · exact hW _ 388 [(0, .ref 1000), (1, .int x1), (2, .int x2), (3, .int x3)] _ _ _ (by simp [rdl, rky, Value.category]) ((ih m1 hm1).2.2.2.2.2.2.2.2.2.2.2.2.2.2.2.2.2.2.2.2.2.2.2.2.2.2.2.2.2.2.2.2.2.2.2.2.2.2.2.2.2.2.1 x1 x2 x3 _ hz2)
        · intro x1 x2 x3 Y hz
          refine hB _ _ _ _ _ (fun m1 hm1 => ?_)
          dsimp only [ugo, uwp, ust, uct, rfd, Boperand, Boperand_388, Nat.beq, lv_args, rlk, rs1, rs2, rdl, rky, rcd, rno, rsw, Value.category, List.filter, List.take, List.drop, List.reverse, List.reverseAux, List.cons_append, List.nil_append, Option.toList, Int.toNat, Int.reduceToNat, if_pos, if_neg, reduceIte, ↓reduceIte, Nat.reduceAdd, Nat.reduceEqDiff, Nat.reduceBEq, beq_self_eq_true, Bool.not_true, Bool.not_false, Bool.and_true, Bool.and_false, Bool.true_and, Bool.false_and, gI_sI, gI_sL, gI_sA, gI_sM, gL_sI, gL_sL, gL_sA, gL_sM, aI_sI, aI_sL, aI_sA, aI_sM, aL_sI, aL_sL, aL_sA, aL_sM, oi_0]; try dsimp only
          unfold Qv_operandJ4
          try dsimp only
          exact ⟨⟨_, rfl⟩, hz⟩
        · intro x1 x2 x3 Y hz
          refine hB _ _ _ _ _ (fun m1 hm1 => ?_)
          dsimp only [ugo, uwp, ust, uct, rfd, Boperand, Boperand_390, Nat.beq, lv_args, rlk, rs1, rs2, rdl, rky, rcd, rno, rsw, Value.category, List.filter, List.take, List.drop, List.reverse, List.reverseAux, List.cons_append, List.nil_append, Option.toList, Int.toNat, Int.reduceToNat, if_pos, if_neg, reduceIte, ↓reduceIte, Nat.reduceAdd, Nat.reduceEqDiff, Nat.reduceBEq, beq_self_eq_true, Bool.not_true, Bool.not_false, Bool.and_true, Bool.and_false, Bool.true_and, Bool.false_and, gI_sI, gI_sL, gI_sA, gI_sM, gL_sI, gL_sL, gL_sA, gL_sM, aI_sI, aI_sL, aI_sA, aI_sM, aL_sI, aL_sL, aL_sA, aL_sM]; try dsimp only
          refine ⟨trivial, fun w2 τ2 hq2 => ?_⟩
          obtain ⟨⟨r2, rfl⟩, hz2⟩ := hq2 c hz
          dsimp only [Option.toList, List.cons_append, List.nil_append, Nat.beq, gI_sI, gI_sL, gI_sA, gI_sM, gL_sI, gL_sL, gL_sA, gL_sM, aI_sI, aI_sL, aI_sA, aI_sM, aL_sI, aL_sL, aL_sA, aL_sM]
          refine ⟨fun h3 => ?_, fun h3 => ?_⟩
          · exact hW _ 452 [(0, .ref 1000), (1, .int x1), (2, .int x2), (3, .int x3)] _ _ _ (by simp [rdl, rky, Value.category]) ((ih m1 hm1).2.2.2.2.2.2.2.2.2.2.2.2.2.2.2.2.2.2.2.2.2.2.2.2.2.2.2.2.2.2.2.2.2.2.2.2.2.2.2.2.2.2.2.2.2.2.2.2.2.1 x1 x2 x3 _ hz2)
          · exact hW _ 401 [(0, .ref 1000), (1, .int x1), (2, .int x2), (3, .int x3)] _ _ _ (by simp [rdl, rky, Value.category]) ((ih m1 hm1).2.2.2.2.2.2.2.2.2.2.2.2.2.2.2.2.2.2.2.2.2.2.2.2.2.2.2.2.2.2.2.2.2.2.2.2.2.2.2.2.2.2.2.2.1 x1 x2 x3 _ hz2)
        · intro x1 x2 x3 Y hz
          refine hB _ _ _ _ _ (fun m1 hm1 => ?_)
          dsimp only [ugo, uwp, ust, uct, rfd, Boperand, Boperand_401, Nat.beq, lv_args, rlk, rs1, rs2, rdl, rky, rcd, rno, rsw, Value.category, List.filter, List.take, List.drop, List.reverse, List.reverseAux, List.cons_append, List.nil_append, Option.toList, Int.toNat, Int.reduceToNat, if_pos, if_neg, reduceIte, ↓reduceIte, Nat.reduceAdd, Nat.reduceEqDiff, Nat.reduceBEq, beq_self_eq_true, Bool.not_true, Bool.not_false, Bool.and_true, Bool.and_false, Bool.true_and, Bool.false_and, gI_sI, gI_sL, gI_sA, gI_sM, gL_sI, gL_sL, gL_sA, gL_sM, aI_sI, aI_sL, aI_sA, aI_sM, aL_sI, aL_sL, aL_sA, aL_sM]; try dsimp only
          intro p2
          refine ⟨trivial, fun w3 τ3 hq3 => ?_⟩
          obtain ⟨⟨r3, rfl⟩, hz3⟩ := hq3 c hz
          dsimp only [Option.toList, List.cons_append, List.nil_append, Nat.beq, gI_sI, gI_sL, gI_sA, gI_sM, gL_sI, gL_sL, gL_sA, gL_sM, aI_sI, aI_sL, aI_sA, aI_sM, aL_sI, aL_sL, aL_sA, aL_sM]
          refine ⟨fun h4 => ?_, fun h4 => ?_⟩
          · exact hW _ 435 [(0, .ref 1000), (1, .int x1), (2, .int x2), (3, .int x3), (4, .int ((aI Y 6) ((gI Y 14)).toNatClampNeg))] _ _ _ (by simp [rdl, rky, Value.category]) ((ih m1 hm1).2.2.2.2.2.2.2.2.2.2.2.2.2.2.2.2.2.2.2.2.2.2.2.2.2.2.2.2.2.2.2.2.2.2.2.2.2.2.2.2.2.2.2.2.2.2.2.1 x1 x2 x3 ((aI Y 6) ((gI Y 14)).toNatClampNeg) _ hz3)
          · exact hW _ 419 [(0, .ref 1000), (1, .int x1), (2, .int x2), (3, .int x3), (4, .int ((aI Y 6) ((gI Y 14)).toNatClampNeg))] _ _ _ (by simp [rdl, rky, Value.category]) ((ih m1 hm1).2.2.2.2.2.2.2.2.2.2.2.2.2.2.2.2.2.2.2.2.2.2.2.2.2.2.2.2.2.2.2.2.2.2.2.2.2.2.2.2.2.2.2.2.2.1 x1 x2 x3 ((aI Y 6) ((gI Y 14)).toNatClampNeg) _ hz3)
        · intro x1 x2 x3 x4 Y hz
          refine hB _ _ _ _ _ (fun m1 hm1 => ?_)
          dsimp only [ugo, uwp, ust, uct, rfd, Boperand, Boperand_419, Nat.beq, lv_args, rlk, rs1, rs2, rdl, rky, rcd, rno, rsw, Value.category, List.filter, List.take, List.drop, List.reverse, List.reverseAux, List.cons_append, List.nil_append, Option.toList, Int.toNat, Int.reduceToNat, if_pos, if_neg, reduceIte, ↓reduceIte, Nat.reduceAdd, Nat.reduceEqDiff, Nat.reduceBEq, beq_self_eq_true, Bool.not_true, Bool.not_false, Bool.and_true, Bool.and_false, Bool.true_and, Bool.false_and, gI_sI, gI_sL, gI_sA, gI_sM, gL_sI, gL_sL, gL_sA, gL_sM, aI_sI, aI_sL, aI_sA, aI_sM, aL_sI, aL_sL, aL_sA, aL_sM, oi_41]; try dsimp only
          refine ⟨trivial, fun w2 τ2 hq2 => ?_⟩
          obtain ⟨⟨r2, rfl⟩, hz2⟩ := hq2 c hz
          dsimp only [Option.toList, List.cons_append, List.nil_append, Nat.beq, gI_sI, gI_sL, gI_sA, gI_sM, gL_sI, gL_sL, gL_sA, gL_sM, aI_sI, aI_sL, aI_sA, aI_sM, aL_sI, aL_sL, aL_sA, aL_sM]
          refine ⟨fun h3 => ?_, fun h3 => ?_⟩
          · exact hW _ 435 [(0, .ref 1000), (1, .int x1), (2, .int x2), (3, .int x3), (4, .int x4)] _ _ _ (by simp [rdl, rky, Value.category]) ((ih m1 hm1).2.2.2.2.2.2.2.2.2.2.2.2.2.2.2.2.2.2.2.2.2.2.2.2.2.2.2.2.2.2.2.2.2.2.2.2.2.2.2.2.2.2.2.2.2.2.2.1 x1 x2 x3 x4 _ hz2)
          · exact hW _ 428 [(0, .ref 1000), (1, .int x1), (2, .int x2), (3, .int x3), (4, .int x4)] _ _ _ (by simp [rdl, rky, Value.category]) ((ih m1 hm1).2.2.2.2.2.2.2.2.2.2.2.2.2.2.2.2.2.2.2.2.2.2.2.2.2.2.2.2.2.2.2.2.2.2.2.2.2.2.2.2.2.2.2.2.2.2.1 x1 x2 x3 x4 _ hz2)
        · intro x1 x2 x3 x4 Y hz
          refine hB _ _ _ _ _ (fun m1 hm1 => ?_)
          dsimp only [ugo, uwp, ust, uct, rfd, Boperand, Boperand_428, Nat.beq, lv_args, rlk, rs1, rs2, rdl, rky, rcd, rno, rsw, Value.category, List.filter, List.take, List.drop, List.reverse, List.reverseAux, List.cons_append, List.nil_append, Option.toList, Int.toNat, Int.reduceToNat, if_pos, if_neg, reduceIte, ↓reduceIte, Nat.reduceAdd, Nat.reduceEqDiff, Nat.reduceBEq, beq_self_eq_true, Bool.not_true, Bool.not_false, Bool.and_true, Bool.and_false, Bool.true_and, Bool.false_and, gI_sI, gI_sL, gI_sA, gI_sM, gL_sI, gL_sL, gL_sA, gL_sM, aI_sI, aI_sL, aI_sA, aI_sM, aL_sI, aL_sL, aL_sA, aL_sM]; try dsimp only
          refine ⟨trivial, fun w2 τ2 hq2 => ?_⟩
          obtain ⟨⟨r2, rfl⟩, hz2⟩ := hq2 c hz
          dsimp only [Option.toList, List.cons_append, List.nil_append, Nat.beq, gI_sI, gI_sL, gI_sA, gI_sM, gL_sI, gL_sL, gL_sA, gL_sM, aI_sI, aI_sL, aI_sA, aI_sM, aL_sI, aL_sL, aL_sA, aL_sM]
          refine ⟨fun h3 => ?_, fun h3 => ?_⟩
          · exact hW _ 437 [(0, .ref 1000), (1, .int x1), (2, .int x2), (3, .int x3), (4, .int x4)] _ _ _ (by simp [rdl, rky, Value.category]) ((ih m1 hm1).2.2.2.2.2.2.2.2.2.2.2.2.2.2.2.2.2.2.2.2.2.2.2.2.2.2.2.2.2.2.2.2.2.2.2.2.2.2.2.2.2.2.2.2.2.2.2.2.1 x1 x2 x3 x4 _ hz2)
          · exact hW _ 435 [(0, .ref 1000), (1, .int x1), (2, .int x2), (3, .int x3), (4, .int x4)] _ _ _ (by simp [rdl, rky, Value.category]) ((ih m1 hm1).2.2.2.2.2.2.2.2.2.2.2.2.2.2.2.2.2.2.2.2.2.2.2.2.2.2.2.2.2.2.2.2.2.2.2.2.2.2.2.2.2.2.2.2.2.2.2.1 x1 x2 x3 x4 _ hz2)
        · intro x1 x2 x3 x4 Y hz
          refine hB _ _ _ _ _ (fun m1 hm1 => ?_)
          dsimp only [ugo, uwp, ust, uct, rfd, Boperand, Boperand_435, Nat.beq, lv_args, rlk, rs1, rs2, rdl, rky, rcd, rno, rsw, Value.category, List.filter, List.take, List.drop, List.reverse, List.reverseAux, List.cons_append, List.nil_append, Option.toList, Int.toNat, Int.reduceToNat, if_pos, if_neg, reduceIte, ↓reduceIte, Nat.reduceAdd, Nat.reduceEqDiff, Nat.reduceBEq, beq_self_eq_true, Bool.not_true, Bool.not_false, Bool.and_true, Bool.and_false, Bool.true_and, Bool.false_and, gI_sI, gI_sL, gI_sA, gI_sM, gL_sI, gL_sL, gL_sA, gL_sM, aI_sI, aI_sL, aI_sA, aI_sM, aL_sI, aL_sL, aL_sA, aL_sM, oi_0]; try dsimp only
          unfold Qv_operandJ4
          try dsimp only
          exact ⟨⟨_, rfl⟩, hz⟩
        · intro x1 x2 x3 x4 Y hz
          refine hB _ _ _ _ _ (fun m1 hm1 => ?_)
          dsimp only [ugo, uwp, ust, uct, rfd, Boperand, Boperand_437, Nat.beq, lv_args, rlk, rs1, rs2, rdl, rky, rcd, rno, rsw, Value.category, List.filter, List.take, List.drop, List.reverse, List.reverseAux, List.cons_append, List.nil_append, Option.toList, Int.toNat, Int.reduceToNat, if_pos, if_neg, reduceIte, ↓reduceIte, Nat.reduceAdd, Nat.reduceEqDiff, Nat.reduceBEq, beq_self_eq_true, Bool.not_true, Bool.not_false, Bool.and_true, Bool.and_false, Bool.true_and, Bool.false_and, gI_sI, gI_sL, gI_sA, gI_sM, gL_sI, gL_sL, gL_sA, gL_sM, aI_sI, aI_sL, aI_sA, aI_sM, aL_sI, aL_sL, aL_sA, aL_sM, oi_0, oi_1]; try dsimp only
          refine ⟨trivial, fun w2 τ2 hq2 => ?_⟩
          obtain ⟨⟨r2, rfl⟩, hz2⟩ := hq2 c hz
          dsimp only [Option.toList, List.cons_append, List.nil_append, Nat.beq, gI_sI, gI_sL, gI_sA, gI_sM, gL_sI, gL_sL, gL_sA, gL_sM, aI_sI, aI_sL, aI_sA, aI_sM, aL_sI, aL_sL, aL_sA, aL_sM]
          refine ⟨trivial, fun w3 τ3 hq3 => ?_⟩
          obtain ⟨⟨r3, rfl⟩, hz3⟩ := hq3 c hz2
          dsimp only [Option.toList, List.cons_append, List.nil_append, Nat.beq, gI_sI, gI_sL, gI_sA, gI_sM, gL_sI, gL_sL, gL_sA, gL_sM, aI_sI, aI_sL, aI_sA, aI_sM, aL_sI, aL_sL, aL_sA, aL_sM]
          unfold Qv_operandJ4
          try dsimp only
          exact ⟨⟨_, rfl⟩, hz3⟩
        · intro x1 x2 x3 Y hz
          refine hB _ _ _ _ _ (fun m1 hm1 => ?_)
          dsimp only [ugo, uwp, ust, uct, rfd, Boperand, Boperand_452, Nat.beq, lv_args, rlk, rs1, rs2, rdl, rky, rcd, rno, rsw, Value.category, List.filter, List.take, List.drop, List.reverse, List.reverseAux, List.cons_append, List.nil_append, Option.toList, Int.toNat, Int.reduceToNat, if_pos, if_neg, reduceIte, ↓reduceIte, Nat.reduceAdd, Nat.reduceEqDiff, Nat.reduceBEq, beq_self_eq_true, Bool.not_true, Bool.not_false, Bool.and_true, Bool.and_false, Bool.true_and, Bool.false_and, gI_sI, gI_sL, gI_sA, gI_sM, gL_sI, gL_sL, gL_sA, gL_sM, aI_sI, aI_sL, aI_sA, aI_sM, aL_sI, aL_sL, aL_sA, aL_sM]; try dsimp only
          refine ⟨trivial, fun w2 τ2 hq2 => ?_⟩
          obtain ⟨⟨r2, rfl⟩, hz2⟩ := hq2 c hz
          dsimp only [Option.toList, List.cons_append, List.nil_append, Nat.beq, gI_sI, gI_sL, gI_sA, gI_sM, gL_sI, gL_sL, gL_sA, gL_sM, aI_sI, aI_sL, aI_sA, aI_sM, aL_sI, aL_sL, aL_sA, aL_sM]
          refine ⟨fun h3 => ?_, fun h3 => ?_⟩
          · exact hW _ 461 [(0, .ref 1000), (1, .int x1), (2, .int x2), (3, .int x3)] _ _ _ (by simp [rdl, rky, Value.category]) ((ih m1 hm1).2.2.2.2.2.2.2.2.2.2.2.2.2.2.2.2.2.2.2.2.2.2.2.2.2.2.2.2.2.2.2.2.2.2.2.2.2.2.2.2.2.2.2.2.2.2.2.2.2.2.2 x1 x2 x3 _ hz2)
          · exact hW _ 459 [(0, .ref 1000), (1, .int x1), (2, .int x2), (3, .int x3)] _ _ _ (by simp [rdl, rky, Value.category]) ((ih m1 hm1).2.2.2.2.2.2.2.2.2.2.2.2.2.2.2.2.2.2.2.2.2.2.2.2.2.2.2.2.2.2.2.2.2.2.2.2.2.2.2.2.2.2.2.2.2.2.2.2.2.2.1 x1 x2 x3 _ hz2)
        · intro x1 x2 x3 Y hz
          refine hB _ _ _ _ _ (fun m1 hm1 => ?_)
          dsimp only [ugo, uwp, ust, uct, rfd, Boperand, Boperand_459, Nat.beq, lv_args, rlk, rs1, rs2, rdl, rky, rcd, rno, rsw, Value.category, List.filter, List.take, List.drop, List.reverse, List.reverseAux, List.cons_append, List.nil_append, Option.toList, Int.toNat, Int.reduceToNat, if_pos, if_neg, reduceIte, ↓reduceIte, Nat.reduceAdd, Nat.reduceEqDiff, Nat.reduceBEq, beq_self_eq_true, Bool.not_true, Bool.not_false, Bool.and_true, Bool.and_false, Bool.true_and, Bool.false_and, gI_sI, gI_sL, gI_sA, gI_sM, gL_sI, gL_sL, gL_sA, gL_sM, aI_sI, aI_sL, aI_sA, aI_sM, aL_sI, aL_sL, aL_sA, aL_sM, oi_0]; try dsimp only
          unfold Qv_operandJ4
          try dsimp only
          exact ⟨⟨_, rfl⟩, hz⟩
        · intro x1 x2 x3 Y hz
          refine hB _ _ _ _ _ (fun m1 hm1 => ?_)
          dsimp only [ugo, uwp, ust, uct, rfd, Boperand, Boperand_461, Nat.beq, lv_args, rlk, rs1, rs2, rdl, rky, rcd, rno, rsw, Value.category, List.filter, List.take, List.drop, List.reverse, List.reverseAux, List.cons_append, List.nil_append, Option.toList, Int.toNat, Int.reduceToNat, if_pos, if_neg, reduceIte, ↓reduceIte, Nat.reduceAdd, Nat.reduceEqDiff, Nat.reduceBEq, beq_self_eq_true, Bool.not_true, Bool.not_false, Bool.and_true, Bool.and_false, Bool.true_and, Bool.false_and, gI_sI, gI_sL, gI_sA, gI_sM, gL_sI, gL_sL, gL_sA, gL_sM, aI_sI, aI_sL, aI_sA, aI_sM, aL_sI, aL_sL, aL_sA, aL_sM, oi_0, oi_1, oi_3]; try dsimp only
          refine ⟨trivial, fun w2 τ2 hq2 => ?_⟩
          obtain ⟨⟨r2, rfl⟩, hz2⟩ := hq2 c hz
          dsimp only [Option.toList, List.cons_append, List.nil_append, Nat.beq, gI_sI, gI_sL, gI_sA, gI_sM, gL_sI, gL_sL, gL_sA, gL_sM, aI_sI, aI_sL, aI_sA, aI_sM, aL_sI, aL_sL, aL_sA, aL_sM]
          refine ⟨trivial, fun w3 τ3 hq3 => ?_⟩
          obtain ⟨⟨r3, rfl⟩, hz3⟩ := hq3 c hz2
          dsimp only [Option.toList, List.cons_append, List.nil_append, Nat.beq, gI_sI, gI_sL, gI_sA, gI_sM, gL_sI, gL_sL, gL_sA, gL_sM, aI_sI, aI_sL, aI_sA, aI_sM, aL_sI, aL_sL, aL_sA, aL_sM]
          unfold Qv_operandJ4
          try dsimp only
          exact ⟨⟨_, rfl⟩, hz3⟩
    intro n0
    exact (all n0).1 a1 σ hP
  next => exact hP.elim
theorem w_operandJ4 : UMet 29 (fun _ _ => True) Qw_operandJ4 := fun A1 σ _ w τ h c hP => v_operandJ4 c A1 σ hP w τ h
def Pv_expressionJ4 (c : RS) : UP1 := fun A1 σ => match A1 with
  | [] => J4 c σ
  | _ => False
def Qv_expressionJ4 (c : RS) : UQ1 := fun A1 σ w τ => match A1 with
  | [] => (∃ r : Int32, w = some (.int r)) ∧ J4 c τ
  | _ => False
def Qw_expressionJ4 : UQ1 := fun A1 σ w τ => ∀ (c : RS), Pv_expressionJ4 c A1 σ → Qv_expressionJ4 c A1 σ w τ
set_option maxRecDepth 100000 in
set_option maxHeartbeats 4000000 in
theorem v_expressionJ4 (c : RS) : UMet 27 (Pv_expressionJ4 c) (Qv_expressionJ4 c) := by
  refine UMet.by Bexpression [(34, (fun _ _ => True), Qw_behindJ4), (29, (fun _ _ => True), Qw_operandJ4)] rfl (ucc w_behindJ4 (ucc w_operandJ4 uc0)) ?_
  intro A1 σ hP K hB hW
  unfold Pv_expressionJ4 at hP
  split at hP
  next =>
    have all : ∀ N : Nat, (∀ (Y : RS), J4 c Y → K N 0 [(0, .ref 1000)] [] Y) ∧ (∀ (x1 : Int32) (x2 : Int32) (Y : RS), J4 c Y → K N 14 [(0, .ref 1000), (1, .int x1), (2, .int x2)] [] Y) ∧ (∀ (x1 : Int32) (x2 : Int32) (Y : RS), J4 c Y → K N 18 [(0, .ref 1000), (1, .int x1), (2, .int x2)] [] Y) ∧ (∀ (x1 : Int32) (x2 : Int32) (Y : RS), J4 c Y → K N 26 [(0, .ref 1000), (1, .int x1), (2, .int x2)] [] Y) ∧ (∀ (x1 : Int32) (x2 : Int32) (Y : RS), J4 c Y → K N 28 [(0, .ref 1000), (1, .int x1), (2, .int x2)] [] Y) ∧ (∀ (x1 : Int32) (x2 : Int32) (Y : RS), J4 c Y → K N 35 [(0, .ref 1000), (1, .int x1), (2, .int x2)] [] Y) ∧ (∀ (x1 : Int32) (x2 : Int32) (Y : RS), J4 c Y → K N 43 [(0, .ref 1000), (1, .int x1), (2, .int x2)] [] Y) ∧ (∀ (x1 : Int32) (x2 : Int32) (Y : RS), J4 c Y → K N 50 [(0, .ref 1000), (1, .int x1), (2, .int x2)] [] Y) ∧ (∀ (x1 : Int32) (x2 : Int32) (Y : RS), J4 c Y → K N 52 [(0, .ref 1000), (1, .int x1), (2, .int x2)] [] Y) ∧ (∀ (x1 : Int32) (x2 : Int32) (Y : RS), J4 c Y → K N 65 [(0, .ref 1000), (1, .int x1), (2, .int x2)] [] Y) := by
      intro N
      induction N using Nat.strongRecOn with
      | ind N ih =>
        refine ⟨?_, ?_, ?_, ?_, ?_, ?_, ?_, ?_, ?_, ?_⟩
        · intro Y hz
          refine hB _ _ _ _ _ (fun m1 hm1 => ?_)
          dsimp only [ugo, uwp, ust, uct, rfd, Bexpression, Bexpression_0, Nat.beq, lv_args, rlk, rs1, rs2, rdl, rky, rcd, rno, rsw, Value.category, List.filter, List.take, List.drop, List.reverse, List.reverseAux, List.cons_append, List.nil_append, Option.toList, Int.toNat, Int.reduceToNat, if_pos, if_neg, reduceIte, ↓reduceIte, Nat.reduceAdd, Nat.reduceEqDiff, Nat.reduceBEq, beq_self_eq_true, Bool.not_true, Bool.not_false, Bool.and_true, Bool.and_false, Bool.true_and, Bool.false_and, gI_sI, gI_sL, gI_sA, gI_sM, gL_sI, gL_sL, gL_sA, gL_sM, aI_sI, aI_sL, aI_sA, aI_sM, aL_sI, aL_sL, aL_sA, aL_sM, oi_0, oi_1]; try dsimp only
          exact hW _ 14 [(0, .ref 1000), (1, .int 1), (2, .int 1)] _ _ _ (by simp [rdl, rky, Value.category]) ((ih m1 hm1).2.1 1 1 _ ((hz.i (by decide)).i (by decide)))
        · intro x1 x2 Y hz
          refine hB _ _ _ _ _ (fun m1 hm1 => ?_)
          dsimp only [ugo, uwp, ust, uct, rfd, Bexpression, Bexpression_14, Nat.beq, lv_args, rlk, rs1, rs2, rdl, rky, rcd, rno, rsw, Value.category, List.filter, List.take, List.drop, List.reverse, List.reverseAux, List.cons_append, List.nil_append, Option.toList, Int.toNat, Int.reduceToNat, if_pos, if_neg, reduceIte, ↓reduceIte, Nat.reduceAdd, Nat.reduceEqDiff, Nat.reduceBEq, beq_self_eq_true, Bool.not_true, Bool.not_false, Bool.and_true, Bool.and_false, Bool.true_and, Bool.false_and, gI_sI, gI_sL, gI_sA, gI_sM, gL_sI, gL_sL, gL_sA, gL_sM, aI_sI, aI_sL, aI_sA, aI_sM, aL_sI, aL_sL, aL_sA, aL_sM]; try dsimp only
          refine ⟨fun h2 => ?_, fun h2 => ?_⟩
          · exact hW _ 65 [(0, .ref 1000), (1, .int x1), (2, .int x2)] _ _ _ (by simp [rdl, rky, Value.category]) ((ih m1 hm1).2.2.2.2.2.2.2.2.2 x1 x2 _ hz)
          · exact hW _ 18 [(0, .ref 1000), (1, .int x1), (2, .int x2)] _ _ _ (by simp [rdl, rky, Value.category]) ((ih m1 hm1).2.2.1 x1 x2 _ hz)
        · intro x1 x2 Y hz
          refine hB _ _ _ _ _ (fun m1 hm1 => ?_)
          dsimp only [ugo, uwp, ust, uct, rfd, Bexpression, Bexpression_18, Nat.beq, lv_args, rlk, rs1, rs2, rdl, rky, rcd, rno, rsw, Value.category, List.filter, List.take, List.drop, List.reverse, List.reverseAux, List.cons_append, List.nil_append, Option.toList, Int.toNat, Int.reduceToNat, if_pos, if_neg, reduceIte, ↓reduceIte, Nat.reduceAdd, Nat.reduceEqDiff, Nat.reduceBEq, beq_self_eq_true, Bool.not_true, Bool.not_false, Bool.and_true, Bool.and_false, Bool.true_and, Bool.false_and, gI_sI, gI_sL, gI_sA, gI_sM, gL_sI, gL_sL, gL_sA, gL_sM, aI_sI, aI_sL, aI_sA, aI_sM, aL_sI, aL_sL, aL_sA, aL_sM]; try dsimp only
          refine ⟨trivial, fun w2 τ2 hq2 => ?_⟩
          obtain ⟨⟨r2, rfl⟩, hz2⟩ := hq2 c hz
          dsimp only [Option.toList, List.cons_append, List.nil_append, Nat.beq, gI_sI, gI_sL, gI_sA, gI_sM, gL_sI, gL_sL, gL_sA, gL_sM, aI_sI, aI_sL, aI_sA, aI_sM, aL_sI, aL_sL, aL_sA, aL_sM]
          refine ⟨fun h3 => ?_, fun h3 => ?_⟩
          · exact hW _ 28 [(0, .ref 1000), (1, .int x1), (2, .int x2)] _ _ _ (by simp [rdl, rky, Value.category]) ((ih m1 hm1).2.2.2.2.1 x1 x2 _ hz2)
          · exact hW _ 26 [(0, .ref 1000), (1, .int x1), (2, .int x2)] _ _ _ (by simp [rdl, rky, Value.category]) ((ih m1 hm1).2.2.2.1 x1 x2 _ hz2)
        · intro x1 x2 Y hz
          refine hB _ _ _ _ _ (fun m1 hm1 => ?_)
          dsimp only [ugo, uwp, ust, uct, rfd, Bexpression, Bexpression_26, Nat.beq, lv_args, rlk, rs1, rs2, rdl, rky, rcd, rno, rsw, Value.category, List.filter, List.take, List.drop, List.reverse, List.reverseAux, List.cons_append, List.nil_append, Option.toList, Int.toNat, Int.reduceToNat, if_pos, if_neg, reduceIte, ↓reduceIte, Nat.reduceAdd, Nat.reduceEqDiff, Nat.reduceBEq, beq_self_eq_true, Bool.not_true, Bool.not_false, Bool.and_true, Bool.and_false, Bool.true_and, Bool.false_and, gI_sI, gI_sL, gI_sA, gI_sM, gL_sI, gL_sL, gL_sA, gL_sM, aI_sI, aI_sL, aI_sA, aI_sM, aL_sI, aL_sL, aL_sA, aL_sM, oi_0]; try dsimp only
          unfold Qv_expressionJ4
          try dsimp only
          exact ⟨⟨_, rfl⟩, hz⟩
        · intro x1 x2 Y hz
          refine hB _ _ _ _ _ (fun m1 hm1 => ?_)
          dsimp only [ugo, uwp, ust, uct, rfd, Bexpression, Bexpression_28, Nat.beq, lv_args, rlk, rs1, rs2, rdl, rky, rcd, rno, rsw, Value.category, List.filter, List.take, List.drop, List.reverse, List.reverseAux, List.cons_append, List.nil_append, Option.toList, Int.toNat, Int.reduceToNat, if_pos, if_neg, reduceIte, ↓reduceIte, Nat.reduceAdd, Nat.reduceEqDiff, Nat.reduceBEq, beq_self_eq_true, Bool.not_true, Bool.not_false, Bool.and_true, Bool.and_false, Bool.true_and, Bool.false_and, gI_sI, gI_sL, gI_sA, gI_sM, gL_sI, gL_sL, gL_sA, gL_sM, aI_sI, aI_sL, aI_sA, aI_sM, aL_sI, aL_sL, aL_sA, aL_sM]; try dsimp only
          refine ⟨fun h2 => ?_, fun h2 => ?_⟩
          · exact hW _ 43 [(0, .ref 1000), (1, .int x1), (2, .int x2)] _ _ _ (by simp [rdl, rky, Value.category]) ((ih m1 hm1).2.2.2.2.2.2.1 x1 x2 _ hz)
          · exact hW _ 35 [(0, .ref 1000), (1, .int x1), (2, .int x2)] _ _ _ (by simp [rdl, rky, Value.category]) ((ih m1 hm1).2.2.2.2.2.1 x1 x2 _ hz)
        · intro x1 x2 Y hz
          refine hB _ _ _ _ _ (fun m1 hm1 => ?_)
          dsimp only [ugo, uwp, ust, uct, rfd, Bexpression, Bexpression_35, Nat.beq, lv_args, rlk, rs1, rs2, rdl, rky, rcd, rno, rsw, Value.category, List.filter, List.take, List.drop, List.reverse, List.reverseAux, List.cons_append, List.nil_append, Option.toList, Int.toNat, Int.reduceToNat, if_pos, if_neg, reduceIte, ↓reduceIte, Nat.reduceAdd, Nat.reduceEqDiff, Nat.reduceBEq, beq_self_eq_true, Bool.not_true, Bool.not_false, Bool.and_true, Bool.and_false, Bool.true_and, Bool.false_and, gI_sI, gI_sL, gI_sA, gI_sM, gL_sI, gL_sL, gL_sA, gL_sM, aI_sI, aI_sL, aI_sA, aI_sM, aL_sI, aL_sL, aL_sA, aL_sM]; try dsimp only
          exact hW _ 14 [(0, .ref 1000), (1, .int (gI Y 35)), (2, .int x2)] _ _ _ (by simp [rdl, rky, Value.category]) ((ih m1 hm1).2.1 (gI Y 35) x2 _ hz)
        · intro x1 x2 Y hz
          refine hB _ _ _ _ _ (fun m1 hm1 => ?_)
          dsimp only [ugo, uwp, ust, uct, rfd, Bexpression, Bexpression_43, Nat.beq, lv_args, rlk, rs1, rs2, rdl, rky, rcd, rno, rsw, Value.category, List.filter, List.take, List.drop, List.reverse, List.reverseAux, List.cons_append, List.nil_append, Option.toList, Int.toNat, Int.reduceToNat, if_pos, if_neg, reduceIte, ↓reduceIte, Nat.reduceAdd, Nat.reduceEqDiff, Nat.reduceBEq, beq_self_eq_true, Bool.not_true, Bool.not_false, Bool.and_true, Bool.and_false, Bool.true_and, Bool.false_and, gI_sI, gI_sL, gI_sA, gI_sM, gL_sI, gL_sL, gL_sA, gL_sM, aI_sI, aI_sL, aI_sA, aI_sM, aL_sI, aL_sL, aL_sA, aL_sM]; try dsimp only
          refine ⟨trivial, fun w2 τ2 hq2 => ?_⟩
          obtain ⟨⟨r2, rfl⟩, hz2⟩ := hq2 c hz
          dsimp only [Option.toList, List.cons_append, List.nil_append, Nat.beq, gI_sI, gI_sL, gI_sA, gI_sM, gL_sI, gL_sL, gL_sA, gL_sM, aI_sI, aI_sL, aI_sA, aI_sM, aL_sI, aL_sL, aL_sA, aL_sM]
          refine ⟨fun h3 => ?_, fun h3 => ?_⟩
          · exact hW _ 52 [(0, .ref 1000), (1, .int x1), (2, .int x2)] _ _ _ (by simp [rdl, rky, Value.category]) ((ih m1 hm1).2.2.2.2.2.2.2.2.1 x1 x2 _ hz2)
          · exact hW _ 50 [(0, .ref 1000), (1, .int x1), (2, .int x2)] _ _ _ (by simp [rdl, rky, Value.category]) ((ih m1 hm1).2.2.2.2.2.2.2.1 x1 x2 _ hz2)
        · intro x1 x2 Y hz
          refine hB _ _ _ _ _ (fun m1 hm1 => ?_)
          dsimp only [ugo, uwp, ust, uct, rfd, Bexpression, Bexpression_50, Nat.beq, lv_args, rlk, rs1, rs2, rdl, rky, rcd, rno, rsw, Value.category, List.filter, List.take, List.drop, List.reverse, List.reverseAux, List.cons_append, List.nil_append, Option.toList, Int.toNat, Int.reduceToNat, if_pos, if_neg, reduceIte, ↓reduceIte, Nat.reduceAdd, Nat.reduceEqDiff, Nat.reduceBEq, beq_self_eq_true, Bool.not_true, Bool.not_false, Bool.and_true, Bool.and_false, Bool.true_and, Bool.false_and, gI_sI, gI_sL, gI_sA, gI_sM, gL_sI, gL_sL, gL_sA, gL_sM, aI_sI, aI_sL, aI_sA, aI_sM, aL_sI, aL_sL, aL_sA, aL_sM, oi_0]; try dsimp only
          unfold Qv_expressionJ4
          try dsimp only
          exact ⟨⟨_, rfl⟩, hz⟩
        · intro x1 x2 Y hz
          refine hB _ _ _ _ _ (fun m1 hm1 => ?_)
          dsimp only [ugo, uwp, ust, uct, rfd, Bexpression, Bexpression_52, Nat.beq, lv_args, rlk, rs1, rs2, rdl, rky, rcd, rno, rsw, Value.category, List.filter, List.take, List.drop, List.reverse, List.reverseAux, List.cons_append, List.nil_append, Option.toList, Int.toNat, Int.reduceToNat, if_pos, if_neg, reduceIte, ↓reduceIte, Nat.reduceAdd, Nat.reduceEqDiff, Nat.reduceBEq, beq_self_eq_true, Bool.not_true, Bool.not_false, Bool.and_true, Bool.and_false, Bool.true_and, Bool.false_and, gI_sI, gI_sL, gI_sA, gI_sM, gL_sI, gL_sL, gL_sA, gL_sM, aI_sI, aI_sL, aI_sA, aI_sM, aL_sI, aL_sL, aL_sA, aL_sM]; try dsimp only
          exact hW _ 14 [(0, .ref 1000), (1, .int (gI Y 35)), (2, .int (gI Y 34))] _ _ _ (by simp [rdl, rky, Value.category]) ((ih m1 hm1).2.1 (gI Y 35) (gI Y 34) _ hz)
        · intro x1 x2 Y hz
          refine hB _ _ _ _ _ (fun m1 hm1 => ?_)
          dsimp only [ugo, uwp, ust, uct, rfd, Bexpression, Bexpression_65, Nat.beq, lv_args, rlk, rs1, rs2, rdl, rky, rcd, rno, rsw, Value.category, List.filter, List.take, List.drop, List.reverse, List.reverseAux, List.cons_append, List.nil_append, Option.toList, Int.toNat, Int.reduceToNat, if_pos, if_neg, reduceIte, ↓reduceIte, Nat.reduceAdd, Nat.reduceEqDiff, Nat.reduceBEq, beq_self_eq_true, Bool.not_true, Bool.not_false, Bool.and_true, Bool.and_false, Bool.true_and, Bool.false_and, gI_sI, gI_sL, gI_sA, gI_sM, gL_sI, gL_sL, gL_sA, gL_sM, aI_sI, aI_sL, aI_sA, aI_sM, aL_sI, aL_sL, aL_sA, aL_sM, oi_1]; try dsimp only
          unfold Qv_expressionJ4
          try dsimp only
          exact ⟨⟨_, rfl⟩, hz⟩
    intro n0
    exact (all n0).1  σ hP
  next => exact hP.elim
theorem w_expressionJ4 : UMet 27 (fun _ _ => True) Qw_expressionJ4 := fun A1 σ _ w τ h c hP => v_expressionJ4 c A1 σ hP w τ h
def Pv_conditionJ4 (c : RS) : UP1 := fun A1 σ => match A1 with
  | [] => J4 c σ
  | _ => False
def Qv_conditionJ4 (c : RS) : UQ1 := fun A1 σ w τ => match A1 with
  | [] => (∃ r : Int32, w = some (.int r)) ∧ J4 c τ
  | _ => False
def Qw_conditionJ4 : UQ1 := fun A1 σ w τ => ∀ (c : RS), Pv_conditionJ4 c A1 σ → Qv_conditionJ4 c A1 σ w τ
set_option maxRecDepth 100000 in
set_option maxHeartbeats 4000000 in
theorem v_conditionJ4 (c : RS) : UMet 52 (Pv_conditionJ4 c) (Qv_conditionJ4 c) := by
  refine UMet.by Bcondition [(27, (fun _ _ => True), Qw_expressionJ4), (18, (fun _ _ => True), Qw_wantJ4)] rfl (ucc w_expressionJ4 (ucc w_wantJ4 uc0)) ?_
  intro A1 σ hP K hB hW
  unfold Pv_conditionJ4 at hP
  split at hP
  next =>
    have all : ∀ N : Nat, (∀ (Y : RS), J4 c Y → K N 0 [(0, .ref 1000)] [] Y) ∧ (∀ (Y : RS), J4 c Y → K N 9 [(0, .ref 1000)] [] Y) ∧ (∀ (Y : RS), J4 c Y → K N 16 [(0, .ref 1000)] [] Y) ∧ (∀ (Y : RS), J4 c Y → K N 25 [(0, .ref 1000)] [] Y) ∧ (∀ (Y : RS), J4 c Y → K N 29 [(0, .ref 1000)] [] Y) ∧ (∀ (s0 : Int32) (Y : RS), J4 c Y → K N 30 [(0, .ref 1000)] [.int s0] Y) := by
      intro N
      induction N using Nat.strongRecOn with
      | ind N ih =>
        refine ⟨?_, ?_, ?_, ?_, ?_, ?_⟩
        · intro Y hz
          refine hB _ _ _ _ _ (fun m1 hm1 => ?_)
          dsimp only [ugo, uwp, ust, uct, rfd, Bcondition, Bcondition_0, Nat.beq, lv_args, rlk, rs1, rs2, rdl, rky, rcd, rno, rsw, Value.category, List.filter, List.take, List.drop, List.reverse, List.reverseAux, List.cons_append, List.nil_append, Option.toList, Int.toNat, Int.reduceToNat, if_pos, if_neg, reduceIte, ↓reduceIte, Nat.reduceAdd, Nat.reduceEqDiff, Nat.reduceBEq, beq_self_eq_true, Bool.not_true, Bool.not_false, Bool.and_true, Bool.and_false, Bool.true_and, Bool.false_and, gI_sI, gI_sL, gI_sA, gI_sM, gL_sI, gL_sL, gL_sA, gL_sM, aI_sI, aI_sL, aI_sA, aI_sM, aL_sI, aL_sL, aL_sA, aL_sM, oi_40]; try dsimp only
          refine ⟨trivial, fun w2 τ2 hq2 => ?_⟩
          obtain ⟨⟨r2, rfl⟩, hz2⟩ := hq2 c hz
          dsimp only [Option.toList, List.cons_append, List.nil_append, Nat.beq, gI_sI, gI_sL, gI_sA, gI_sM, gL_sI, gL_sL, gL_sA, gL_sM, aI_sI, aI_sL, aI_sA, aI_sM, aL_sI, aL_sL, aL_sA, aL_sM]
          refine ⟨fun h3 => ?_, fun h3 => ?_⟩
          · exact hW _ 29 [(0, .ref 1000)] _ _ _ (by simp [rdl, rky, Value.category]) ((ih m1 hm1).2.2.2.2.1  _ hz2)
          · exact hW _ 9 [(0, .ref 1000)] _ _ _ (by simp [rdl, rky, Value.category]) ((ih m1 hm1).2.1  _ hz2)
        · intro Y hz
          refine hB _ _ _ _ _ (fun m1 hm1 => ?_)
          dsimp only [ugo, uwp, ust, uct, rfd, Bcondition, Bcondition_9, Nat.beq, lv_args, rlk, rs1, rs2, rdl, rky, rcd, rno, rsw, Value.category, List.filter, List.take, List.drop, List.reverse, List.reverseAux, List.cons_append, List.nil_append, Option.toList, Int.toNat, Int.reduceToNat, if_pos, if_neg, reduceIte, ↓reduceIte, Nat.reduceAdd, Nat.reduceEqDiff, Nat.reduceBEq, beq_self_eq_true, Bool.not_true, Bool.not_false, Bool.and_true, Bool.and_false, Bool.true_and, Bool.false_and, gI_sI, gI_sL, gI_sA, gI_sM, gL_sI, gL_sL, gL_sA, gL_sM, aI_sI, aI_sL, aI_sA, aI_sM, aL_sI, aL_sL, aL_sA, aL_sM]; try dsimp only
          refine ⟨trivial, fun w2 τ2 hq2 => ?_⟩
          obtain ⟨⟨r2, rfl⟩, hz2⟩ := hq2 c hz
          dsimp only [Option.toList, List.cons_append, List.nil_append, Nat.beq, gI_sI, gI_sL, gI_sA, gI_sM, gL_sI, gL_sL, gL_sA, gL_sM, aI_sI, aI_sL, aI_sA, aI_sM, aL_sI, aL_sL, aL_sA, aL_sM]
          refine ⟨fun h3 => ?_, fun h3 => ?_⟩
          · exact hW _ 29 [(0, .ref 1000)] _ _ _ (by simp [rdl, rky, Value.category]) ((ih m1 hm1).2.2.2.2.1  _ hz2)
          · exact hW _ 16 [(0, .ref 1000)] _ _ _ (by simp [rdl, rky, Value.category]) ((ih m1 hm1).2.2.1  _ hz2)
        · intro Y hz
          refine hB _ _ _ _ _ (fun m1 hm1 => ?_)
          dsimp only [ugo, uwp, ust, uct, rfd, Bcondition, Bcondition_16, Nat.beq, lv_args, rlk, rs1, rs2, rdl, rky, rcd, rno, rsw, Value.category, List.filter, List.take, List.drop, List.reverse, List.reverseAux, List.cons_append, List.nil_append, Option.toList, Int.toNat, Int.reduceToNat, if_pos, if_neg, reduceIte, ↓reduceIte, Nat.reduceAdd, Nat.reduceEqDiff, Nat.reduceBEq, beq_self_eq_true, Bool.not_true, Bool.not_false, Bool.and_true, Bool.and_false, Bool.true_and, Bool.false_and, gI_sI, gI_sL, gI_sA, gI_sM, gL_sI, gL_sL, gL_sA, gL_sM, aI_sI, aI_sL, aI_sA, aI_sM, aL_sI, aL_sL, aL_sA, aL_sM, oi_41]; try dsimp only
          refine ⟨trivial, fun w2 τ2 hq2 => ?_⟩
          obtain ⟨⟨r2, rfl⟩, hz2⟩ := hq2 c hz
          dsimp only [Option.toList, List.cons_append, List.nil_append, Nat.beq, gI_sI, gI_sL, gI_sA, gI_sM, gL_sI, gL_sL, gL_sA, gL_sM, aI_sI, aI_sL, aI_sA, aI_sM, aL_sI, aL_sL, aL_sA, aL_sM]
          refine ⟨fun h3 => ?_, fun h3 => ?_⟩
          · exact hW _ 29 [(0, .ref 1000)] _ _ _ (by simp [rdl, rky, Value.category]) ((ih m1 hm1).2.2.2.2.1  _ hz2)
          · exact hW _ 25 [(0, .ref 1000)] _ _ _ (by simp [rdl, rky, Value.category]) ((ih m1 hm1).2.2.2.1  _ hz2)
        · intro Y hz
          refine hB _ _ _ _ _ (fun m1 hm1 => ?_)
          dsimp only [ugo, uwp, ust, uct, rfd, Bcondition, Bcondition_25, Nat.beq, lv_args, rlk, rs1, rs2, rdl, rky, rcd, rno, rsw, Value.category, List.filter, List.take, List.drop, List.reverse, List.reverseAux, List.cons_append, List.nil_append, Option.toList, Int.toNat, Int.reduceToNat, if_pos, if_neg, reduceIte, ↓reduceIte, Nat.reduceAdd, Nat.reduceEqDiff, Nat.reduceBEq, beq_self_eq_true, Bool.not_true, Bool.not_false, Bool.and_true, Bool.and_false, Bool.true_and, Bool.false_and, gI_sI, gI_sL, gI_sA, gI_sM, gL_sI, gL_sL, gL_sA, gL_sM, aI_sI, aI_sL, aI_sA, aI_sM, aL_sI, aL_sL, aL_sA, aL_sM, oi_1]; try dsimp only
          exact hW _ 30 [(0, .ref 1000)] _ _ _ (by simp [rdl, rky, Value.category]) ((ih m1 hm1).2.2.2.2.2 1 _ hz)
        · intro Y hz
          refine hB _ _ _ _ _ (fun m1 hm1 => ?_)
          dsimp only [ugo, uwp, ust, uct, rfd, Bcondition, Bcondition_29, Nat.beq, lv_args, rlk, rs1, rs2, rdl, rky, rcd, rno, rsw, Value.category, List.filter, List.take, List.drop, List.reverse, List.reverseAux, List.cons_append, List.nil_append, Option.toList, Int.toNat, Int.reduceToNat, if_pos, if_neg, reduceIte, ↓reduceIte, Nat.reduceAdd, Nat.reduceEqDiff, Nat.reduceBEq, beq_self_eq_true, Bool.not_true, Bool.not_false, Bool.and_true, Bool.and_false, Bool.true_and, Bool.false_and, gI_sI, gI_sL, gI_sA, gI_sM, gL_sI, gL_sL, gL_sA, gL_sM, aI_sI, aI_sL, aI_sA, aI_sM, aL_sI, aL_sL, aL_sA, aL_sM, oi_0]; try dsimp only
          exact hW _ 30 [(0, .ref 1000)] _ _ _ (by simp [rdl, rky, Value.category]) ((ih m1 hm1).2.2.2.2.2 0 _ hz)
        · intro s0 Y hz
          refine hB _ _ _ _ _ (fun m1 hm1 => ?_)
          dsimp only [ugo, uwp, ust, uct, rfd, Bcondition, Bcondition_30, Nat.beq, lv_args, rlk, rs1, rs2, rdl, rky, rcd, rno, rsw, Value.category, List.filter, List.take, List.drop, List.reverse, List.reverseAux, List.cons_append, List.nil_append, Option.toList, Int.toNat, Int.reduceToNat, if_pos, if_neg, reduceIte, ↓reduceIte, Nat.reduceAdd, Nat.reduceEqDiff, Nat.reduceBEq, beq_self_eq_true, Bool.not_true, Bool.not_false, Bool.and_true, Bool.and_false, Bool.true_and, Bool.false_and, gI_sI, gI_sL, gI_sA, gI_sM, gL_sI, gL_sL, gL_sA, gL_sM, aI_sI, aI_sL, aI_sA, aI_sM, aL_sI, aL_sL, aL_sA, aL_sM]; try dsimp only
          unfold Qv_conditionJ4
          try dsimp only
          exact ⟨⟨_, rfl⟩, hz⟩
    intro n0
    exact (all n0).1  σ hP
  next => exact hP.elim
theorem w_conditionJ4 : UMet 52 (fun _ _ => True) Qw_conditionJ4 := fun A1 σ _ w τ h c hP => v_conditionJ4 c A1 σ hP w τ h
def Pv_isRowJ4 (c : RS) : UP1 := fun A1 σ => match A1 with
  | [.int a1] => J4 c σ
  | _ => False
def Qv_isRowJ4 (c : RS) : UQ1 := fun A1 σ w τ => match A1 with
  | [.int a1] => (∃ r : Int32, w = some (.int r)) ∧ J4 c τ
  | _ => False
def Qw_isRowJ4 : UQ1 := fun A1 σ w τ => ∀ (c : RS), Pv_isRowJ4 c A1 σ → Qv_isRowJ4 c A1 σ w τ
set_option maxRecDepth 100000 in
set_option maxHeartbeats 4000000 in
theorem v_isRowJ4 (c : RS) : UMet 43 (Pv_isRowJ4 c) (Qv_isRowJ4 c) := by
  refine UMet.by BisRow [] rfl uc0 ?_
  intro A1 σ hP K hB hW
  unfold Pv_isRowJ4 at hP
  split at hP
  next a1 =>
    have all : ∀ N : Nat, (∀ (x1 : Int32) (Y : RS), J4 c Y → K N 0 [(0, .ref 1000), (1, .int x1)] [] Y) ∧ (∀ (x1 : Int32) (Y : RS), J4 c Y → K N 4 [(0, .ref 1000), (1, .int x1)] [] Y) ∧ (∀ (x1 : Int32) (Y : RS), J4 c Y → K N 9 [(0, .ref 1000), (1, .int x1)] [] Y) ∧ (∀ (x1 : Int32) (Y : RS), J4 c Y → K N 15 [(0, .ref 1000), (1, .int x1)] [] Y) ∧ (∀ (x1 : Int32) (Y : RS), J4 c Y → K N 19 [(0, .ref 1000), (1, .int x1)] [] Y) ∧ (∀ (x1 : Int32) (s0 : Int32) (Y : RS), J4 c Y → K N 20 [(0, .ref 1000), (1, .int x1)] [.int s0] Y) := by
      intro N
      induction N using Nat.strongRecOn with
      | ind N ih =>
        refine ⟨?_, ?_, ?_, ?_, ?_, ?_⟩
        · intro x1 Y hz
          refine hB _ _ _ _ _ (fun m1 hm1 => ?_)
          dsimp only [ugo, uwp, ust, uct, rfd, BisRow, BisRow_0, Nat.beq, lv_args, rlk, rs1, rs2, rdl, rky, rcd, rno, rsw, Value.category, List.filter, List.take, List.drop, List.reverse, List.reverseAux, List.cons_append, List.nil_append, Option.toList, Int.toNat, Int.reduceToNat, if_pos, if_neg, reduceIte, ↓reduceIte, Nat.reduceAdd, Nat.reduceEqDiff, Nat.reduceBEq, beq_self_eq_true, Bool.not_true, Bool.not_false, Bool.and_true, Bool.and_false, Bool.true_and, Bool.false_and, gI_sI, gI_sL, gI_sA, gI_sM, gL_sI, gL_sL, gL_sA, gL_sM, aI_sI, aI_sL, aI_sA, aI_sM, aL_sI, aL_sL, aL_sA, aL_sM]; try dsimp only
          refine ⟨fun h2 => ?_, fun h2 => ?_⟩
          · exact hW _ 15 [(0, .ref 1000), (1, .int x1)] _ _ _ (by simp [rdl, rky, Value.category]) ((ih m1 hm1).2.2.2.1 x1 _ hz)
          · exact hW _ 4 [(0, .ref 1000), (1, .int x1)] _ _ _ (by simp [rdl, rky, Value.category]) ((ih m1 hm1).2.1 x1 _ hz)
        · intro x1 Y hz
          refine hB _ _ _ _ _ (fun m1 hm1 => ?_)
          dsimp only [ugo, uwp, ust, uct, rfd, BisRow, BisRow_4, Nat.beq, lv_args, rlk, rs1, rs2, rdl, rky, rcd, rno, rsw, Value.category, List.filter, List.take, List.drop, List.reverse, List.reverseAux, List.cons_append, List.nil_append, Option.toList, Int.toNat, Int.reduceToNat, if_pos, if_neg, reduceIte, ↓reduceIte, Nat.reduceAdd, Nat.reduceEqDiff, Nat.reduceBEq, beq_self_eq_true, Bool.not_true, Bool.not_false, Bool.and_true, Bool.and_false, Bool.true_and, Bool.false_and, gI_sI, gI_sL, gI_sA, gI_sM, gL_sI, gL_sL, gL_sA, gL_sM, aI_sI, aI_sL, aI_sA, aI_sM, aL_sI, aL_sL, aL_sA, aL_sM, oi_1]; try dsimp only
          refine ⟨fun h2 => ?_, fun h2 => ?_⟩
          · exact hW _ 15 [(0, .ref 1000), (1, .int x1)] _ _ _ (by simp [rdl, rky, Value.category]) ((ih m1 hm1).2.2.2.1 x1 _ hz)
          · exact hW _ 9 [(0, .ref 1000), (1, .int x1)] _ _ _ (by simp [rdl, rky, Value.category]) ((ih m1 hm1).2.2.1 x1 _ hz)
        · intro x1 Y hz
          refine hB _ _ _ _ _ (fun m1 hm1 => ?_)
          dsimp only [ugo, uwp, ust, uct, rfd, BisRow, BisRow_9, Nat.beq, lv_args, rlk, rs1, rs2, rdl, rky, rcd, rno, rsw, Value.category, List.filter, List.take, List.drop, List.reverse, List.reverseAux, List.cons_append, List.nil_append, Option.toList, Int.toNat, Int.reduceToNat, if_pos, if_neg, reduceIte, ↓reduceIte, Nat.reduceAdd, Nat.reduceEqDiff, Nat.reduceBEq, beq_self_eq_true, Bool.not_true, Bool.not_false, Bool.and_true, Bool.and_false, Bool.true_and, Bool.false_and, gI_sI, gI_sL, gI_sA, gI_sM, gL_sI, gL_sL, gL_sA, gL_sM, aI_sI, aI_sL, aI_sA, aI_sM, aL_sI, aL_sL, aL_sA, aL_sM, oi_9]; try dsimp only
          refine ⟨fun h2 => ?_, fun h2 => ?_⟩
          · exact hW _ 19 [(0, .ref 1000), (1, .int x1)] _ _ _ (by simp [rdl, rky, Value.category]) ((ih m1 hm1).2.2.2.2.1 x1 _ hz)
          · exact hW _ 15 [(0, .ref 1000), (1, .int x1)] _ _ _ (by simp [rdl, rky, Value.category]) ((ih m1 hm1).2.2.2.1 x1 _ hz)
        · intro x1 Y hz
          refine hB _ _ _ _ _ (fun m1 hm1 => ?_)
          dsimp only [ugo, uwp, ust, uct, rfd, BisRow, BisRow_15, Nat.beq, lv_args, rlk, rs1, rs2, rdl, rky, rcd, rno, rsw, Value.category, List.filter, List.take, List.drop, List.reverse, List.reverseAux, List.cons_append, List.nil_append, Option.toList, Int.toNat, Int.reduceToNat, if_pos, if_neg, reduceIte, ↓reduceIte, Nat.reduceAdd, Nat.reduceEqDiff, Nat.reduceBEq, beq_self_eq_true, Bool.not_true, Bool.not_false, Bool.and_true, Bool.and_false, Bool.true_and, Bool.false_and, gI_sI, gI_sL, gI_sA, gI_sM, gL_sI, gL_sL, gL_sA, gL_sM, aI_sI, aI_sL, aI_sA, aI_sM, aL_sI, aL_sL, aL_sA, aL_sM, oi_1]; try dsimp only
          exact hW _ 20 [(0, .ref 1000), (1, .int x1)] _ _ _ (by simp [rdl, rky, Value.category]) ((ih m1 hm1).2.2.2.2.2 x1 1 _ hz)
        · intro x1 Y hz
          refine hB _ _ _ _ _ (fun m1 hm1 => ?_)
          dsimp only [ugo, uwp, ust, uct, rfd, BisRow, BisRow_19, Nat.beq, lv_args, rlk, rs1, rs2, rdl, rky, rcd, rno, rsw, Value.category, List.filter, List.take, List.drop, List.reverse, List.reverseAux, List.cons_append, List.nil_append, Option.toList, Int.toNat, Int.reduceToNat, if_pos, if_neg, reduceIte, ↓reduceIte, Nat.reduceAdd, Nat.reduceEqDiff, Nat.reduceBEq, beq_self_eq_true, Bool.not_true, Bool.not_false, Bool.and_true, Bool.and_false, Bool.true_and, Bool.false_and, gI_sI, gI_sL, gI_sA, gI_sM, gL_sI, gL_sL, gL_sA, gL_sM, aI_sI, aI_sL, aI_sA, aI_sM, aL_sI, aL_sL, aL_sA, aL_sM, oi_0]; try dsimp only
          exact hW _ 20 [(0, .ref 1000), (1, .int x1)] _ _ _ (by simp [rdl, rky, Value.category]) ((ih m1 hm1).2.2.2.2.2 x1 0 _ hz)
        · intro x1 s0 Y hz
          refine hB _ _ _ _ _ (fun m1 hm1 => ?_)
          dsimp only [ugo, uwp, ust, uct, rfd, BisRow, BisRow_20, Nat.beq, lv_args, rlk, rs1, rs2, rdl, rky, rcd, rno, rsw, Value.category, List.filter, List.take, List.drop, List.reverse, List.reverseAux, List.cons_append, List.nil_append, Option.toList, Int.toNat, Int.reduceToNat, if_pos, if_neg, reduceIte, ↓reduceIte, Nat.reduceAdd, Nat.reduceEqDiff, Nat.reduceBEq, beq_self_eq_true, Bool.not_true, Bool.not_false, Bool.and_true, Bool.and_false, Bool.true_and, Bool.false_and, gI_sI, gI_sL, gI_sA, gI_sM, gL_sI, gL_sL, gL_sA, gL_sM, aI_sI, aI_sL, aI_sA, aI_sM, aL_sI, aL_sL, aL_sA, aL_sM]; try dsimp only
          unfold Qv_isRowJ4
          try dsimp only
          exact ⟨⟨_, rfl⟩, hz⟩
    intro n0
    exact (all n0).1 a1 σ hP
  next => exact hP.elim
theorem w_isRowJ4 : UMet 43 (fun _ _ => True) Qw_isRowJ4 := fun A1 σ _ w τ h c hP => v_isRowJ4 c A1 σ hP w τ h
def Pv_leaveJ4 (c : RS) : UP1 := fun A1 σ => match A1 with
  | [.int a1, .int a2] => J4 c σ
  | _ => False
def Qv_leaveJ4 (c : RS) : UQ1 := fun A1 σ w τ => match A1 with
  | [.int a1, .int a2] => (w = none) ∧ J4 c τ
  | _ => False
def Qw_leaveJ4 : UQ1 := fun A1 σ w τ => ∀ (c : RS), Pv_leaveJ4 c A1 σ → Qv_leaveJ4 c A1 σ w τ
set_option maxRecDepth 100000 in
set_option maxHeartbeats 4000000 in
theorem v_leaveJ4 (c : RS) : UMet 42 (Pv_leaveJ4 c) (Qv_leaveJ4 c) := by
  refine UMet.by Bleave [] rfl uc0 ?_
  intro A1 σ hP K hB hW
  unfold Pv_leaveJ4 at hP
  split at hP
  next a1 a2 =>
    have all : ∀ N : Nat, (∀ (x1 : Int32) (x2 : Int32) (Y : RS), J4 c Y → K N 0 [(0, .ref 1000), (1, .int x1), (2, .int x2)] [] Y) ∧ (∀ (x1 : Int32) (x2 : Int32) (x3 : Int32) (Y : RS), J4 c Y → K N 2 [(0, .ref 1000), (1, .int x1), (2, .int x2), (3, .int x3)] [] Y) ∧ (∀ (x1 : Int32) (x2 : Int32) (x3 : Int32) (Y : RS), J4 c Y → K N 10 [(0, .ref 1000), (1, .int x1), (2, .int x2), (3, .int x3)] [] Y) ∧ (∀ (x1 : Int32) (x2 : Int32) (x3 : Int32) (Y : RS), J4 c Y → K N 20 [(0, .ref 1000), (1, .int x1), (2, .int x2), (3, .int x3)] [] Y) ∧ (∀ (x1 : Int32) (x2 : Int32) (x3 : Int32) (Y : RS), J4 c Y → K N 29 [(0, .ref 1000), (1, .int x1), (2, .int x2), (3, .int x3)] [] Y) ∧ (∀ (x1 : Int32) (x2 : Int32) (x3 : Int32) (Y : RS), J4 c Y → K N 36 [(0, .ref 1000), (1, .int x1), (2, .int x2), (3, .int x3)] [] Y) ∧ (∀ (x1 : Int32) (x2 : Int32) (x3 : Int32) (Y : RS), J4 c Y → K N 42 [(0, .ref 1000), (1, .int x1), (2, .int x2), (3, .int x3)] [] Y) := by
      intro N
      induction N using Nat.strongRecOn with
      | ind N ih =>
        refine ⟨?_, ?_, ?_, ?_, ?_, ?_, ?_⟩
        · intro x1 x2 Y hz
          refine hB _ _ _ _ _ (fun m1 hm1 => ?_)
          dsimp only [ugo, uwp, ust, uct, rfd, Bleave, Bleave_0, Nat.beq, lv_args, rlk, rs1, rs2, rdl, rky, rcd, rno, rsw, Value.category, List.filter, List.take, List.drop, List.reverse, List.reverseAux, List.cons_append, List.nil_append, Option.toList, Int.toNat, Int.reduceToNat, if_pos, if_neg, reduceIte, ↓reduceIte, Nat.reduceAdd, Nat.reduceEqDiff, Nat.reduceBEq, beq_self_eq_true, Bool.not_true, Bool.not_false, Bool.and_true, Bool.and_false, Bool.true_and, Bool.false_and, gI_sI, gI_sL, gI_sA, gI_sM, gL_sI, gL_sL, gL_sA, gL_sM, aI_sI, aI_sL, aI_sA, aI_sM, aL_sI, aL_sL, aL_sA, aL_sM, oi_0]; try dsimp only
          exact hW _ 2 [(0, .ref 1000), (1, .int x1), (2, .int x2), (3, .int 0)] _ _ _ (by simp [rdl, rky, Value.category]) ((ih m1 hm1).2.1 x1 x2 0 _ hz)
        · intro x1 x2 x3 Y hz
          refine hB _ _ _ _ _ (fun m1 hm1 => ?_)
          dsimp only [ugo, uwp, ust, uct, rfd, Bleave, Bleave_2, Nat.beq, lv_args, rlk, rs1, rs2, rdl, rky, rcd, rno, rsw, Value.category, List.filter, List.take, List.drop, List.reverse, List.reverseAux, List.cons_append, List.nil_append, Option.toList, Int.toNat, Int.reduceToNat, if_pos, if_neg, reduceIte, ↓reduceIte, Nat.reduceAdd, Nat.reduceEqDiff, Nat.reduceBEq, beq_self_eq_true, Bool.not_true, Bool.not_false, Bool.and_true, Bool.and_false, Bool.true_and, Bool.false_and, gI_sI, gI_sL, gI_sA, gI_sM, gL_sI, gL_sL, gL_sA, gL_sM, aI_sI, aI_sL, aI_sA, aI_sM, aL_sI, aL_sL, aL_sA, aL_sM]; try dsimp only
          refine ⟨fun h2 => ?_, fun h2 => ?_⟩
          · exact hW _ 42 [(0, .ref 1000), (1, .int x1), (2, .int x2), (3, .int x3)] _ _ _ (by simp [rdl, rky, Value.category]) ((ih m1 hm1).2.2.2.2.2.2 x1 x2 x3 _ hz)
          · exact hW _ 10 [(0, .ref 1000), (1, .int x1), (2, .int x2), (3, .int x3)] _ _ _ (by simp [rdl, rky, Value.category]) ((ih m1 hm1).2.2.1 x1 x2 x3 _ hz)
        · intro x1 x2 x3 Y hz
          refine hB _ _ _ _ _ (fun m1 hm1 => ?_)
          dsimp only [ugo, uwp, ust, uct, rfd, Bleave, Bleave_10, Nat.beq, lv_args, rlk, rs1, rs2, rdl, rky, rcd, rno, rsw, Value.category, List.filter, List.take, List.drop, List.reverse, List.reverseAux, List.cons_append, List.nil_append, Option.toList, Int.toNat, Int.reduceToNat, if_pos, if_neg, reduceIte, ↓reduceIte, Nat.reduceAdd, Nat.reduceEqDiff, Nat.reduceBEq, beq_self_eq_true, Bool.not_true, Bool.not_false, Bool.and_true, Bool.and_false, Bool.true_and, Bool.false_and, gI_sI, gI_sL, gI_sA, gI_sM, gL_sI, gL_sL, gL_sA, gL_sM, aI_sI, aI_sL, aI_sA, aI_sM, aL_sI, aL_sL, aL_sA, aL_sM]; try dsimp only
          intro p2
          refine ⟨fun h3 => ?_, fun h3 => ?_⟩
          · exact hW _ 36 [(0, .ref 1000), (1, .int x1), (2, .int x2), (3, .int x3)] _ _ _ (by simp [rdl, rky, Value.category]) ((ih m1 hm1).2.2.2.2.2.1 x1 x2 x3 _ hz)
          · exact hW _ 20 [(0, .ref 1000), (1, .int x1), (2, .int x2), (3, .int x3)] _ _ _ (by simp [rdl, rky, Value.category]) ((ih m1 hm1).2.2.2.1 x1 x2 x3 _ hz)
        · intro x1 x2 x3 Y hz
          refine hB _ _ _ _ _ (fun m1 hm1 => ?_)
          dsimp only [ugo, uwp, ust, uct, rfd, Bleave, Bleave_20, Nat.beq, lv_args, rlk, rs1, rs2, rdl, rky, rcd, rno, rsw, Value.category, List.filter, List.take, List.drop, List.reverse, List.reverseAux, List.cons_append, List.nil_append, Option.toList, Int.toNat, Int.reduceToNat, if_pos, if_neg, reduceIte, ↓reduceIte, Nat.reduceAdd, Nat.reduceEqDiff, Nat.reduceBEq, beq_self_eq_true, Bool.not_true, Bool.not_false, Bool.and_true, Bool.and_false, Bool.true_and, Bool.false_and, gI_sI, gI_sL, gI_sA, gI_sM, gL_sI, gL_sL, gL_sA, gL_sM, aI_sI, aI_sL, aI_sA, aI_sM, aL_sI, aL_sL, aL_sA, aL_sM]; try dsimp only
          intro p2
          refine ⟨fun h3 => ?_, fun h3 => ?_⟩
          · exact hW _ 36 [(0, .ref 1000), (1, .int x1), (2, .int x2), (3, .int x3)] _ _ _ (by simp [rdl, rky, Value.category]) ((ih m1 hm1).2.2.2.2.2.1 x1 x2 x3 _ hz)
          · exact hW _ 29 [(0, .ref 1000), (1, .int x1), (2, .int x2), (3, .int x3)] _ _ _ (by simp [rdl, rky, Value.category]) ((ih m1 hm1).2.2.2.2.1 x1 x2 x3 _ hz)
        · intro x1 x2 x3 Y hz
          refine hB _ _ _ _ _ (fun m1 hm1 => ?_)
          dsimp only [ugo, uwp, ust, uct, rfd, Bleave, Bleave_29, Nat.beq, lv_args, rlk, rs1, rs2, rdl, rky, rcd, rno, rsw, Value.category, List.filter, List.take, List.drop, List.reverse, List.reverseAux, List.cons_append, List.nil_append, Option.toList, Int.toNat, Int.reduceToNat, if_pos, if_neg, reduceIte, ↓reduceIte, Nat.reduceAdd, Nat.reduceEqDiff, Nat.reduceBEq, beq_self_eq_true, Bool.not_true, Bool.not_false, Bool.and_true, Bool.and_false, Bool.true_and, Bool.false_and, gI_sI, gI_sL, gI_sA, gI_sM, gL_sI, gL_sL, gL_sA, gL_sM, aI_sI, aI_sL, aI_sA, aI_sM, aL_sI, aL_sL, aL_sA, aL_sM]; try dsimp only
          intro p2
          exact hW _ 36 [(0, .ref 1000), (1, .int x1), (2, .int x2), (3, .int x3)] _ _ _ (by simp [rdl, rky, Value.category]) ((ih m1 hm1).2.2.2.2.2.1 x1 x2 x3 _ (hz.a (by decide)))
        · intro x1 x2 x3 Y hz
          refine hB _ _ _ _ _ (fun m1 hm1 => ?_)
          dsimp only [ugo, uwp, ust, uct, rfd, Bleave, Bleave_36, Nat.beq, lv_args, rlk, rs1, rs2, rdl, rky, rcd, rno, rsw, Value.category, List.filter, List.take, List.drop, List.reverse, List.reverseAux, List.cons_append, List.nil_append, Option.toList, Int.toNat, Int.reduceToNat, if_pos, if_neg, reduceIte, ↓reduceIte, Nat.reduceAdd, Nat.reduceEqDiff, Nat.reduceBEq, beq_self_eq_true, Bool.not_true, Bool.not_false, Bool.and_true, Bool.and_false, Bool.true_and, Bool.false_and, gI_sI, gI_sL, gI_sA, gI_sM, gL_sI, gL_sL, gL_sA, gL_sM, aI_sI, aI_sL, aI_sA, aI_sM, aL_sI, aL_sL, aL_sA, aL_sM, oi_1]; try dsimp only
          exact hW _ 2 [(0, .ref 1000), (1, .int x1), (2, .int x2), (3, .int (x3 + 1))] _ _ _ (by simp [rdl, rky, Value.category]) ((ih m1 hm1).2.1 x1 x2 (x3 + 1) _ hz)
        · intro x1 x2 x3 Y hz
          refine hB _ _ _ _ _ (fun m1 hm1 => ?_)
          dsimp only [ugo, uwp, ust, uct, rfd, Bleave, Bleave_42, Nat.beq, lv_args, rlk, rs1, rs2, rdl, rky, rcd, rno, rsw, Value.category, List.filter, List.take, List.drop, List.reverse, List.reverseAux, List.cons_append, List.nil_append, Option.toList, Int.toNat, Int.reduceToNat, if_pos, if_neg, reduceIte, ↓reduceIte, Nat.reduceAdd, Nat.reduceEqDiff, Nat.reduceBEq, beq_self_eq_true, Bool.not_true, Bool.not_false, Bool.and_true, Bool.and_false, Bool.true_and, Bool.false_and, gI_sI, gI_sL, gI_sA, gI_sM, gL_sI, gL_sL, gL_sA, gL_sM, aI_sI, aI_sL, aI_sA, aI_sM, aL_sI, aL_sL, aL_sA, aL_sM]; try dsimp only
          unfold Qv_leaveJ4
          try dsimp only
          exact ⟨rfl, hz⟩
    intro n0
    exact (all n0).1 a1 a2 σ hP
  next => exact hP.elim
theorem w_leaveJ4 : UMet 42 (fun _ _ => True) Qw_leaveJ4 := fun A1 σ _ w τ h c hP => v_leaveJ4 c A1 σ hP w τ h
def Pv_finishedJ4 (c : RS) : UP1 := fun A1 σ => match A1 with
  | [] => J4 c σ
  | _ => False
def Qv_finishedJ4 (c : RS) : UQ1 := fun A1 σ w τ => match A1 with
  | [] => (∃ r : Int32, w = some (.int r)) ∧ J4 c τ
  | _ => False
def Qw_finishedJ4 : UQ1 := fun A1 σ w τ => ∀ (c : RS), Pv_finishedJ4 c A1 σ → Qv_finishedJ4 c A1 σ w τ
set_option maxRecDepth 100000 in
set_option maxHeartbeats 4000000 in
theorem v_finishedJ4 (c : RS) : UMet 69 (Pv_finishedJ4 c) (Qv_finishedJ4 c) := by
  refine UMet.by Bfinished [(13, (fun _ _ => True), Qw_cantJ4), (52, (fun _ _ => True), Qw_conditionJ4), (20, (fun _ _ => True), Qw_emitJ4), (19, (fun _ _ => True), Qw_enterJ4), (43, (fun _ _ => True), Qw_isRowJ4), (15, (fun _ _ => True), Qw_isWordJ4), (42, (fun _ _ => True), Qw_leaveJ4), (17, (fun _ _ => True), Qw_takeJ4), (18, (fun _ _ => True), Qw_wantJ4)] rfl (ucc w_cantJ4 (ucc w_conditionJ4 (ucc w_emitJ4 (ucc w_enterJ4 (ucc w_isRowJ4 (ucc w_isWordJ4 (ucc w_leaveJ4 (ucc w_takeJ4 (ucc w_wantJ4 uc0))))))))) ?_
  intro A1 σ hP K hB hW
  unfold Pv_finishedJ4 at hP
  split at hP
  next =>
    have all : ∀ N : Nat, (∀ (Y : RS), J4 c Y → K N 0 [(0, .ref 1000)] [] Y) ∧ (∀ (Y : RS), J4 c Y → K N 7 [(0, .ref 1000)] [] Y) ∧ (∀ (Y : RS), J4 c Y → K N 11 [(0, .ref 1000)] [] Y) ∧ (∀ (s0 : Int32) (Y : RS), J4 c Y → K N 12 [(0, .ref 1000)] [.int s0] Y) ∧ (∀ (x1 : Int32) (Y : RS), J4 c Y → K N 13 [(0, .ref 1000), (1, .int x1)] [] Y) ∧ (∀ (x1 : Int32) (Y : RS), J4 c Y → K N 17 [(0, .ref 1000), (1, .int x1)] [] Y) ∧ (∀ (x1 : Int32) (x2 : Int32) (Y : RS), J4 c Y → K N 37 [(0, .ref 1000), (1, .int x1), (2, .int x2)] [] Y) ∧ (∀ (x1 : Int32) (x2 : Int32) (Y : RS), J4 c Y → K N 43 [(0, .ref 1000), (1, .int x1), (2, .int x2)] [] Y) ∧ (∀ (x1 : Int32) (x2 : Int32) (Y : RS), J4 c Y → K N 45 [(0, .ref 1000), (1, .int x1), (2, .int x2)] [] Y) ∧ (∀ (x1 : Int32) (x2 : Int32) (x3 : Int32) (x4 : Int32) (Y : RS), J4 c Y → K N 85 [(0, .ref 1000), (1, .int x1), (2, .int x2), (3, .int x3), (4, .int x4)] [] Y) ∧ (∀ (x1 : Int32) (x2 : Int32) (x3 : Int32) (x4 : Int32) (Y : RS), J4 c Y → K N 94 [(0, .ref 1000), (1, .int x1), (2, .int x2), (3, .int x3), (4, .int x4)] [] Y) ∧ (∀ (x1 : Int32) (x2 : Int32) (x3 : Int32) (x4 : Int32) (Y : RS), J4 c Y → K N 118 [(0, .ref 1000), (1, .int x1), (2, .int x2), (3, .int x3), (4, .int x4)] [] Y) ∧ (∀ (x1 : Int32) (x2 : Int32) (x3 : Int32) (x4 : Int32) (Y : RS), J4 c Y → K N 120 [(0, .ref 1000), (1, .int x1), (2, .int x2), (3, .int x3), (4, .int x4)] [] Y) ∧ (∀ (x1 : Int32) (x2 : Int32) (x3 : Int32) (x4 : Int32) (Y : RS), J4 c Y → K N 137 [(0, .ref 1000), (1, .int x1), (2, .int x2), (3, .int x3), (4, .int x4)] [] Y) ∧ (∀ (x1 : Int32) (x2 : Int32) (x3 : Int32) (x4 : Int32) (Y : RS), J4 c Y → K N 152 [(0, .ref 1000), (1, .int x1), (2, .int x2), (3, .int x3), (4, .int x4)] [] Y) ∧ (∀ (x1 : Int32) (x2 : Int32) (x3 : Int32) (x4 : Int32) (Y : RS), J4 c Y → K N 157 [(0, .ref 1000), (1, .int x1), (2, .int x2), (3, .int x3), (4, .int x4)] [] Y) ∧ (∀ (x1 : Int32) (x2 : Int32) (x3 : Int32) (x4 : Int32) (Y : RS), J4 c Y → K N 179 [(0, .ref 1000), (1, .int x1), (2, .int x2), (3, .int x3), (4, .int x4)] [] Y) ∧ (∀ (x1 : Int32) (x2 : Int32) (x3 : Int32) (x4 : Int32) (Y : RS), J4 c Y → K N 184 [(0, .ref 1000), (1, .int x1), (2, .int x2), (3, .int x3), (4, .int x4)] [] Y) ∧ (∀ (x1 : Int32) (x2 : Int32) (x3 : Int32) (x4 : Int32) (Y : RS), J4 c Y → K N 206 [(0, .ref 1000), (1, .int x1), (2, .int x2), (3, .int x3), (4, .int x4)] [] Y) ∧ (∀ (x1 : Int32) (x2 : Int32) (x3 : Int32) (x4 : Int32) (Y : RS), J4 c Y → K N 211 [(0, .ref 1000), (1, .int x1), (2, .int x2), (3, .int x3), (4, .int x4)] [] Y) ∧ (∀ (x1 : Int32) (x2 : Int32) (x3 : Int32) (x4 : Int32) (Y : RS), J4 c Y → K N 220 [(0, .ref 1000), (1, .int x1), (2, .int x2), (3, .int x3), (4, .int x4)] [] Y) ∧ (∀ (x1 : Int32) (x2 : Int32) (x3 : Int32) (x4 : Int32) (Y : RS), J4 c Y → K N 225 [(0, .ref 1000), (1, .int x1), (2, .int x2), (3, .int x3), (4, .int x4)] [] Y) ∧ (∀ (x1 : Int32) (x2 : Int32) (x3 : Int32) (x4 : Int32) (Y : RS), J4 c Y → K N 232 [(0, .ref 1000), (1, .int x1), (2, .int x2), (3, .int x3), (4, .int x4)] [] Y) ∧ (∀ (x1 : Int32) (x2 : Int32) (x3 : Int32) (x4 : Int32) (Y : RS), J4 c Y → K N 234 [(0, .ref 1000), (1, .int x1), (2, .int x2), (3, .int x3), (4, .int x4)] [] Y) ∧ (∀ (x1 : Int32) (x2 : Int32) (x3 : Int32) (x4 : Int32) (Y : RS), J4 c Y → K N 260 [(0, .ref 1000), (1, .int x1), (2, .int x2), (3, .int x3), (4, .int x4)] [] Y) ∧ (∀ (x1 : Int32) (x2 : Int32) (x3 : Int32) (x4 : Int32) (Y : RS), J4 c Y → K N 269 [(0, .ref 1000), (1, .int x1), (2, .int x2), (3, .int x3), (4, .int x4)] [] Y) ∧ (∀ (x1 : Int32) (x2 : Int32) (x3 : Int32) (x4 : Int32) (Y : RS), J4 c Y → K N 271 [(0, .ref 1000), (1, .int x1), (2, .int x2), (3, .int x3), (4, .int x4)] [] Y) ∧ (∀ (x1 : Int32) (x2 : Int32) (x3 : Int32) (x4 : Int32) (Y : RS), J4 c Y → K N 293 [(0, .ref 1000), (1, .int x1), (2, .int x2), (3, .int x3), (4, .int x4)] [] Y) ∧ (∀ (x1 : Int32) (x2 : Int32) (x3 : Int32) (x4 : Int32) (Y : RS), J4 c Y → K N 299 [(0, .ref 1000), (1, .int x1), (2, .int x2), (3, .int x3), (4, .int x4)] [] Y) ∧ (∀ (x1 : Int32) (x2 : Int32) (x3 : Int32) (x4 : Int32) (Y : RS), J4 c Y → K N 332 [(0, .ref 1000), (1, .int x1), (2, .int x2), (3, .int x3), (4, .int x4)] [] Y) ∧ (∀ (x1 : Int32) (x2 : Int32) (x3 : Int32) (x4 : Int32) (Y : RS), J4 c Y → K N 351 [(0, .ref 1000), (1, .int x1), (2, .int x2), (3, .int x3), (4, .int x4)] [] Y) ∧ (∀ (x1 : Int32) (x2 : Int32) (x3 : Int32) (x4 : Int32) (Y : RS), J4 c Y → K N 374 [(0, .ref 1000), (1, .int x1), (2, .int x2), (3, .int x3), (4, .int x4)] [] Y) ∧ (∀ (x1 : Int32) (x2 : Int32) (x3 : Int32) (x4 : Int32) (Y : RS), J4 c Y → K N 378 [(0, .ref 1000), (1, .int x1), (2, .int x2), (3, .int x3), (4, .int x4)] [] Y) ∧ (∀ (x1 : Int32) (x2 : Int32) (x3 : Int32) (x4 : Int32) (s0 : Int32) (Y : RS), J4 c Y → K N 379 [(0, .ref 1000), (1, .int x1), (2, .int x2), (3, .int x3), (4, .int x4)] [.int s0] Y) ∧ (∀ (x1 : Int32) (Y : RS), J4 c Y → K N 383 [(0, .ref 1000), (1, .int x1)] [] Y) := by
      intro N
      induction N using Nat.strongRecOn with
      | ind N ih =>
        refine ⟨?_, ?_, ?_, ?_, ?_, ?_, ?_, ?_, ?_, ?_, ?_, ?_, ?_, ?_, ?_, ?_, ?_, ?_, ?_, ?_, ?_, ?_, ?_, ?_, ?_, ?_, ?_, ?_, ?_, ?_, ?_, ?_, ?_, ?_, ?_⟩
        · intro Y hz
          refine hB _ _ _ _ _ (fun m1 hm1 => ?_)
          dsimp only [ugo, uwp, ust, uct, rfd, Bfinished, Bfinished_0, Nat.beq, lv_args, rlk, rs1, rs2, rdl, rky, rcd, rno, rsw, Value.category, List.filter, List.take, List.drop, List.reverse, List.reverseAux, List.cons_append, List.nil_append, Option.toList, Int.toNat, Int.reduceToNat, if_pos, if_neg, reduceIte, ↓reduceIte, Nat.reduceAdd, Nat.reduceEqDiff, Nat.reduceBEq, beq_self_eq_true, Bool.not_true, Bool.not_false, Bool.and_true, Bool.and_false, Bool.true_and, Bool.false_and, gI_sI, gI_sL, gI_sA, gI_sM, gL_sI, gL_sL, gL_sA, gL_sM, aI_sI, aI_sL, aI_sA, aI_sM, aL_sI, aL_sL, aL_sA, aL_sM]; try dsimp only
          refine ⟨fun h2 => ?_, fun h2 => ?_⟩
          · exact hW _ 11 [(0, .ref 1000)] _ _ _ (by simp [rdl, rky, Value.category]) ((ih m1 hm1).2.2.1  _ hz)
          · exact hW _ 7 [(0, .ref 1000)] _ _ _ (by simp [rdl, rky, Value.category]) ((ih m1 hm1).2.1  _ hz)
        · intro Y hz
          refine hB _ _ _ _ _ (fun m1 hm1 => ?_)
          dsimp only [ugo, uwp, ust, uct, rfd, Bfinished, Bfinished_7, Nat.beq, lv_args, rlk, rs1, rs2, rdl, rky, rcd, rno, rsw, Value.category, List.filter, List.take, List.drop, List.reverse, List.reverseAux, List.cons_append, List.nil_append, Option.toList, Int.toNat, Int.reduceToNat, if_pos, if_neg, reduceIte, ↓reduceIte, Nat.reduceAdd, Nat.reduceEqDiff, Nat.reduceBEq, beq_self_eq_true, Bool.not_true, Bool.not_false, Bool.and_true, Bool.and_false, Bool.true_and, Bool.false_and, gI_sI, gI_sL, gI_sA, gI_sM, gL_sI, gL_sL, gL_sA, gL_sM, aI_sI, aI_sL, aI_sA, aI_sM, aL_sI, aL_sL, aL_sA, aL_sM, oi_1]; try dsimp only
          exact hW _ 12 [(0, .ref 1000)] _ _ _ (by simp [rdl, rky, Value.category]) ((ih m1 hm1).2.2.2.1 1 _ hz)
        · intro Y hz
          refine hB _ _ _ _ _ (fun m1 hm1 => ?_)
          dsimp only [ugo, uwp, ust, uct, rfd, Bfinished, Bfinished_11, Nat.beq, lv_args, rlk, rs1, rs2, rdl, rky, rcd, rno, rsw, Value.category, List.filter, List.take, List.drop, List.reverse, List.reverseAux, List.cons_append, List.nil_append, Option.toList, Int.toNat, Int.reduceToNat, if_pos, if_neg, reduceIte, ↓reduceIte, Nat.reduceAdd, Nat.reduceEqDiff, Nat.reduceBEq, beq_self_eq_true, Bool.not_true, Bool.not_false, Bool.and_true, Bool.and_false, Bool.true_and, Bool.false_and, gI_sI, gI_sL, gI_sA, gI_sM, gL_sI, gL_sL, gL_sA, gL_sM, aI_sI, aI_sL, aI_sA, aI_sM, aL_sI, aL_sL, aL_sA, aL_sM, oi_0]; try dsimp only
          exact hW _ 12 [(0, .ref 1000)] _ _ _ (by simp [rdl, rky, Value.category]) ((ih m1 hm1).2.2.2.1 0 _ hz)
        · intro s0 Y hz
          refine hB _ _ _ _ _ (fun m1 hm1 => ?_)
          dsimp only [ugo, uwp, ust, uct, rfd, Bfinished, Bfinished_12, Nat.beq, lv_args, rlk, rs1, rs2, rdl, rky, rcd, rno, rsw, Value.category, List.filter, List.take, List.drop, List.reverse, List.reverseAux, List.cons_append, List.nil_append, Option.toList, Int.toNat, Int.reduceToNat, if_pos, if_neg, reduceIte, ↓reduceIte, Nat.reduceAdd, Nat.reduceEqDiff, Nat.reduceBEq, beq_self_eq_true, Bool.not_true, Bool.not_false, Bool.and_true, Bool.and_false, Bool.true_and, Bool.false_and, gI_sI, gI_sL, gI_sA, gI_sM, gL_sI, gL_sL, gL_sA, gL_sM, aI_sI, aI_sL, aI_sA, aI_sM, aL_sI, aL_sL, aL_sA, aL_sM]; try dsimp only
          exact hW _ 13 [(0, .ref 1000), (1, .int s0)] _ _ _ (by simp [rdl, rky, Value.category]) ((ih m1 hm1).2.2.2.2.1 s0 _ hz)
        · intro x1 Y hz
          refine hB _ _ _ _ _ (fun m1 hm1 => ?_)
          dsimp only [ugo, uwp, ust, uct, rfd, Bfinished, Bfinished_13, Nat.beq, lv_args, rlk, rs1, rs2, rdl, rky, rcd, rno, rsw, Value.category, List.filter, List.take, List.drop, List.reverse, List.reverseAux, List.cons_append, List.nil_append, Option.toList, Int.toNat, Int.reduceToNat, if_pos, if_neg, reduceIte, ↓reduceIte, Nat.reduceAdd, Nat.reduceEqDiff, Nat.reduceBEq, beq_self_eq_true, Bool.not_true, Bool.not_false, Bool.and_true, Bool.and_false, Bool.true_and, Bool.false_and, gI_sI, gI_sL, gI_sA, gI_sM, gL_sI, gL_sL, gL_sA, gL_sM, aI_sI, aI_sL, aI_sA, aI_sM, aL_sI, aL_sL, aL_sA, aL_sM]; try dsimp only
          refine ⟨fun h2 => ?_, fun h2 => ?_⟩
          · exact hW _ 383 [(0, .ref 1000), (1, .int x1)] _ _ _ (by simp [rdl, rky, Value.category]) ((ih m1 hm1).2.2.2.2.2.2.2.2.2.2.2.2.2.2.2.2.2.2.2.2.2.2.2.2.2.2.2.2.2.2.2.2.2.2 x1 _ hz)
          · exact hW _ 17 [(0, .ref 1000), (1, .int x1)] _ _ _ (by simp [rdl, rky, Value.category]) ((ih m1 hm1).2.2.2.2.2.1 x1 _ hz)
        · intro x1 Y hz
          refine hB _ _ _ _ _ (fun m1 hm1 => ?_)
          dsimp only [ugo, uwp, ust, uct, rfd, Bfinished, Bfinished_17, Nat.beq, lv_args, rlk, rs1, rs2, rdl, rky, rcd, rno, rsw, Value.category, List.filter, List.take, List.drop, List.reverse, List.reverseAux, List.cons_append, List.nil_append, Option.toList, Int.toNat, Int.reduceToNat, if_pos, if_neg, reduceIte, ↓reduceIte, Nat.reduceAdd, Nat.reduceEqDiff, Nat.reduceBEq, beq_self_eq_true, Bool.not_true, Bool.not_false, Bool.and_true, Bool.and_false, Bool.true_and, Bool.false_and, gI_sI, gI_sL, gI_sA, gI_sM, gL_sI, gL_sL, gL_sA, gL_sM, aI_sI, aI_sL, aI_sA, aI_sM, aL_sI, aL_sL, aL_sA, aL_sM, oi_1]; try dsimp only
          intro p2
          refine ⟨trivial, fun w3 τ3 hq3 => ?_⟩
          obtain ⟨⟨r3, rfl⟩, hz3⟩ := hq3 c hz
          dsimp only [Option.toList, List.cons_append, List.nil_append, Nat.beq, gI_sI, gI_sL, gI_sA, gI_sM, gL_sI, gL_sL, gL_sA, gL_sM, aI_sI, aI_sL, aI_sA, aI_sM, aL_sI, aL_sL, aL_sA, aL_sM]
          refine ⟨fun h4 => ?_, fun h4 => ?_⟩
          · exact hW _ 43 [(0, .ref 1000), (1, .int x1), (2, .int ((aI Y 63) (((gI Y 62) - 1)).toNatClampNeg))] _ _ _ (by simp [rdl, rky, Value.category]) ((ih m1 hm1).2.2.2.2.2.2.2.1 x1 ((aI Y 63) (((gI Y 62) - 1)).toNatClampNeg) _ hz3)
          · exact hW _ 37 [(0, .ref 1000), (1, .int x1), (2, .int ((aI Y 63) (((gI Y 62) - 1)).toNatClampNeg))] _ _ _ (by simp [rdl, rky, Value.category]) ((ih m1 hm1).2.2.2.2.2.2.1 x1 ((aI Y 63) (((gI Y 62) - 1)).toNatClampNeg) _ hz3)
        · intro x1 x2 Y hz
          refine hB _ _ _ _ _ (fun m1 hm1 => ?_)
          dsimp only [ugo, uwp, ust, uct, rfd, Bfinished, Bfinished_37, Nat.beq, lv_args, rlk, rs1, rs2, rdl, rky, rcd, rno, rsw, Value.category, List.filter, List.take, List.drop, List.reverse, List.reverseAux, List.cons_append, List.nil_append, Option.toList, Int.toNat, Int.reduceToNat, if_pos, if_neg, reduceIte, ↓reduceIte, Nat.reduceAdd, Nat.reduceEqDiff, Nat.reduceBEq, beq_self_eq_true, Bool.not_true, Bool.not_false, Bool.and_true, Bool.and_false, Bool.true_and, Bool.false_and, gI_sI, gI_sL, gI_sA, gI_sM, gL_sI, gL_sL, gL_sA, gL_sM, aI_sI, aI_sL, aI_sA, aI_sM, aL_sI, aL_sL, aL_sA, aL_sM, oi_8]; try dsimp only
          refine ⟨fun h2 => ?_, fun h2 => ?_⟩
          · exact hW _ 45 [(0, .ref 1000), (1, .int x1), (2, .int x2)] _ _ _ (by simp [rdl, rky, Value.category]) ((ih m1 hm1).2.2.2.2.2.2.2.2.1 x1 x2 _ hz)
          · exact hW _ 43 [(0, .ref 1000), (1, .int x1), (2, .int x2)] _ _ _ (by simp [rdl, rky, Value.category]) ((ih m1 hm1).2.2.2.2.2.2.2.1 x1 x2 _ hz)
        · intro x1 x2 Y hz
          refine hB _ _ _ _ _ (fun m1 hm1 => ?_)
          dsimp only [ugo, uwp, ust, uct, rfd, Bfinished, Bfinished_43, Nat.beq, lv_args, rlk, rs1, rs2, rdl, rky, rcd, rno, rsw, Value.category, List.filter, List.take, List.drop, List.reverse, List.reverseAux, List.cons_append, List.nil_append, Option.toList, Int.toNat, Int.reduceToNat, if_pos, if_neg, reduceIte, ↓reduceIte, Nat.reduceAdd, Nat.reduceEqDiff, Nat.reduceBEq, beq_self_eq_true, Bool.not_true, Bool.not_false, Bool.and_true, Bool.and_false, Bool.true_and, Bool.false_and, gI_sI, gI_sL, gI_sA, gI_sM, gL_sI, gL_sL, gL_sA, gL_sM, aI_sI, aI_sL, aI_sA, aI_sM, aL_sI, aL_sL, aL_sA, aL_sM, oi_1]; try dsimp only
          unfold Qv_finishedJ4
          try dsimp only
          exact ⟨⟨_, rfl⟩, hz⟩
        · intro x1 x2 Y hz
          refine hB _ _ _ _ _ (fun m1 hm1 => ?_)
          dsimp only [ugo, uwp, ust, uct, rfd, Bfinished, Bfinished_45, Nat.beq, lv_args, rlk, rs1, rs2, rdl, rky, rcd, rno, rsw, Value.category, List.filter, List.take, List.drop, List.reverse, List.reverseAux, List.cons_append, List.nil_append, Option.toList, Int.toNat, Int.reduceToNat, if_pos, if_neg, reduceIte, ↓reduceIte, Nat.reduceAdd, Nat.reduceEqDiff, Nat.reduceBEq, beq_self_eq_true, Bool.not_true, Bool.not_false, Bool.and_true, Bool.and_false, Bool.true_and, Bool.false_and, gI_sI, gI_sL, gI_sA, gI_sM, gL_sI, gL_sL, gL_sA, gL_sM, aI_sI, aI_sL, aI_sA, aI_sM, aL_sI, aL_sL, aL_sA, aL_sM, oi_1, oi_2]; try dsimp only
          intro p2
          intro p3
          refine ⟨fun h4 => ?_, fun h4 => ?_⟩
          · exact hW _ 137 [(0, .ref 1000), (1, .int x1), (2, .int x2), (3, .int ((aI Y 64) (((gI Y 62) - 1)).toNatClampNeg)), (4, .int ((aI Y 65) (((gI Y 62) - 1)).toNatClampNeg))] _ _ _ (by simp [rdl, rky, Value.category]) ((ih m1 hm1).2.2.2.2.2.2.2.2.2.2.2.2.2.1 x1 x2 ((aI Y 64) (((gI Y 62) - 1)).toNatClampNeg) ((aI Y 65) (((gI Y 62) - 1)).toNatClampNeg) _ (hz.i (by decide)))
          · exact hW _ 85 [(0, .ref 1000), (1, .int x1), (2, .int x2), (3, .int ((aI Y 64) (((gI Y 62) - 1)).toNatClampNeg)), (4, .int ((aI Y 65) (((gI Y 62) - 1)).toNatClampNeg))] _ _ _ (by simp [rdl, rky, Value.category]) ((ih m1 hm1).2.2.2.2.2.2.2.2.2.1 x1 x2 ((aI Y 64) (((gI Y 62) - 1)).toNatClampNeg) ((aI Y 65) (((gI Y 62) - 1)).toNatClampNeg) _ (hz.i (by decide)))
        · intro x1 x2 x3 x4 Y hz
          refine hB _ _ _ _ _ (fun m1 hm1 => ?_)
          dsimp only [ugo, uwp, ust, uct, rfd, Bfinished, Bfinished_85, Nat.beq, lv_args, rlk, rs1, rs2, rdl, rky, rcd, rno, rsw, Value.category, List.filter, List.take, List.drop, List.reverse, List.reverseAux, List.cons_append, List.nil_append, Option.toList, Int.toNat, Int.reduceToNat, if_pos, if_neg, reduceIte, ↓reduceIte, Nat.reduceAdd, Nat.reduceEqDiff, Nat.reduceBEq, beq_self_eq_true, Bool.not_true, Bool.not_false, Bool.and_true, Bool.and_false, Bool.true_and, Bool.false_and, gI_sI, gI_sL, gI_sA, gI_sM, gL_sI, gL_sL, gL_sA, gL_sM, aI_sI, aI_sL, aI_sA, aI_sM, aL_sI, aL_sL, aL_sA, aL_sM, oi_7]; try dsimp only
          refine ⟨trivial, fun w2 τ2 hq2 => ?_⟩
          obtain ⟨⟨r2, rfl⟩, hz2⟩ := hq2 c hz
          dsimp only [Option.toList, List.cons_append, List.nil_append, Nat.beq, gI_sI, gI_sL, gI_sA, gI_sM, gL_sI, gL_sL, gL_sA, gL_sM, aI_sI, aI_sL, aI_sA, aI_sM, aL_sI, aL_sL, aL_sA, aL_sM]
          refine ⟨fun h3 => ?_, fun h3 => ?_⟩
          · exact hW _ 137 [(0, .ref 1000), (1, .int x1), (2, .int x2), (3, .int x3), (4, .int x4)] _ _ _ (by simp [rdl, rky, Value.category]) ((ih m1 hm1).2.2.2.2.2.2.2.2.2.2.2.2.2.1 x1 x2 x3 x4 _ hz2)
          · exact hW _ 94 [(0, .ref 1000), (1, .int x1), (2, .int x2), (3, .int x3), (4, .int x4)] _ _ _ (by simp [rdl, rky, Value.category]) ((ih m1 hm1).2.2.2.2.2.2.2.2.2.2.1 x1 x2 x3 x4 _ hz2)
        · intro x1 x2 x3 x4 Y hz
          refine hB _ _ _ _ _ (fun m1 hm1 => ?_)
          dsimp only [ugo, uwp, ust, uct, rfd, Bfinished, Bfinished_94, Nat.beq, lv_args, rlk, rs1, rs2, rdl, rky, rcd, rno, rsw, Value.category, List.filter, List.take, List.drop, List.reverse, List.reverseAux, List.cons_append, List.nil_append, Option.toList, Int.toNat, Int.reduceToNat, if_pos, if_neg, reduceIte, ↓reduceIte, Nat.reduceAdd, Nat.reduceEqDiff, Nat.reduceBEq, beq_self_eq_true, Bool.not_true, Bool.not_false, Bool.and_true, Bool.and_false, Bool.true_and, Bool.false_and, gI_sI, gI_sL, gI_sA, gI_sM, gL_sI, gL_sL, gL_sA, gL_sM, aI_sI, aI_sL, aI_sA, aI_sM, aL_sI, aL_sL, aL_sA, aL_sM, oi_24]; try dsimp only
          refine ⟨trivial, fun w2 τ2 hq2 => ?_⟩
          obtain ⟨⟨r2, rfl⟩, hz2⟩ := hq2 c hz
          dsimp only [Option.toList, List.cons_append, List.nil_append, Nat.beq, gI_sI, gI_sL, gI_sA, gI_sM, gL_sI, gL_sL, gL_sA, gL_sM, aI_sI, aI_sL, aI_sA, aI_sM, aL_sI, aL_sL, aL_sA, aL_sM]
          intro p3
          refine ⟨trivial, fun w4 τ4 hq4 => ?_⟩
          obtain ⟨⟨r4, rfl⟩, hz4⟩ := hq4 c (hz2.a (by decide))
          dsimp only [Option.toList, List.cons_append, List.nil_append, Nat.beq, gI_sI, gI_sL, gI_sA, gI_sM, gL_sI, gL_sL, gL_sA, gL_sM, aI_sI, aI_sL, aI_sA, aI_sM, aL_sI, aL_sL, aL_sA, aL_sM]
          refine ⟨fun h5 => ?_, fun h5 => ?_⟩
          · exact hW _ 120 [(0, .ref 1000), (1, .int x1), (2, .int x2), (3, .int x3), (4, .int x4)] _ _ _ (by simp [rdl, rky, Value.category]) ((ih m1 hm1).2.2.2.2.2.2.2.2.2.2.2.2.1 x1 x2 x3 x4 _ hz4)
          · exact hW _ 118 [(0, .ref 1000), (1, .int x1), (2, .int x2), (3, .int x3), (4, .int x4)] _ _ _ (by simp [rdl, rky, Value.category]) ((ih m1 hm1).2.2.2.2.2.2.2.2.2.2.2.1 x1 x2 x3 x4 _ hz4)
        · intro x1 x2 x3 x4 Y hz
          refine hB _ _ _ _ _ (fun m1 hm1 => ?_)
          dsimp only [ugo, uwp, ust, uct, rfd, Bfinished, Bfinished_118, Nat.beq, lv_args, rlk, rs1, rs2, rdl, rky, rcd, rno, rsw, Value.category, List.filter, List.take, List.drop, List.reverse, List.reverseAux, List.cons_append, List.nil_append, Option.toList, Int.toNat, Int.reduceToNat, if_pos, if_neg, reduceIte, ↓reduceIte, Nat.reduceAdd, Nat.reduceEqDiff, Nat.reduceBEq, beq_self_eq_true, Bool.not_true, Bool.not_false, Bool.and_true, Bool.and_false, Bool.true_and, Bool.false_and, gI_sI, gI_sL, gI_sA, gI_sM, gL_sI, gL_sL, gL_sA, gL_sM, aI_sI, aI_sL, aI_sA, aI_sM, aL_sI, aL_sL, aL_sA, aL_sM, oi_0]; try dsimp only
          unfold Qv_finishedJ4
          try dsimp only
          exact ⟨⟨_, rfl⟩, hz⟩
        · intro x1 x2 x3 x4 Y hz
          refine hB _ _ _ _ _ (fun m1 hm1 => ?_)
          dsimp only [ugo, uwp, ust, uct, rfd, Bfinished, Bfinished_120, Nat.beq, lv_args, rlk, rs1, rs2, rdl, rky, rcd, rno, rsw, Value.category, List.filter, List.take, List.drop, List.reverse, List.reverseAux, List.cons_append, List.nil_append, Option.toList, Int.toNat, Int.reduceToNat, if_pos, if_neg, reduceIte, ↓reduceIte, Nat.reduceAdd, Nat.reduceEqDiff, Nat.reduceBEq, beq_self_eq_true, Bool.not_true, Bool.not_false, Bool.and_true, Bool.and_false, Bool.true_and, Bool.false_and, gI_sI, gI_sL, gI_sA, gI_sM, gL_sI, gL_sL, gL_sA, gL_sM, aI_sI, aI_sL, aI_sA, aI_sM, aL_sI, aL_sL, aL_sA, aL_sM, oi_1, oi_3]; try dsimp only
          intro p2
          refine ⟨trivial, fun w3 τ3 hq3 => ?_⟩
          obtain ⟨⟨r3, rfl⟩, hz3⟩ := hq3 c (hz.a (by decide))
          dsimp only [Option.toList, List.cons_append, List.nil_append, Nat.beq, gI_sI, gI_sL, gI_sA, gI_sM, gL_sI, gL_sL, gL_sA, gL_sM, aI_sI, aI_sL, aI_sA, aI_sM, aL_sI, aL_sL, aL_sA, aL_sM]
          unfold Qv_finishedJ4
          try dsimp only
          exact ⟨⟨_, rfl⟩, hz3⟩
        · intro x1 x2 x3 x4 Y hz
          refine hB _ _ _ _ _ (fun m1 hm1 => ?_)
          dsimp only [ugo, uwp, ust, uct, rfd, Bfinished, Bfinished_137, Nat.beq, lv_args, rlk, rs1, rs2, rdl, rky, rcd, rno, rsw, Value.category, List.filter, List.take, List.drop, List.reverse, List.reverseAux, List.cons_append, List.nil_append, Option.toList, Int.toNat, Int.reduceToNat, if_pos, if_neg, reduceIte, ↓reduceIte, Nat.reduceAdd, Nat.reduceEqDiff, Nat.reduceBEq, beq_self_eq_true, Bool.not_true, Bool.not_false, Bool.and_true, Bool.and_false, Bool.true_and, Bool.false_and, gI_sI, gI_sL, gI_sA, gI_sM, gL_sI, gL_sL, gL_sA, gL_sM, aI_sI, aI_sL, aI_sA, aI_sM, aL_sI, aL_sL, aL_sA, aL_sM, oi_1, oi_2]; try dsimp only
          refine ⟨fun h2 => ?_, fun h2 => ?_⟩
          · exact hW _ 157 [(0, .ref 1000), (1, .int x1), (2, .int x2), (3, .int x3), (4, .int x4)] _ _ _ (by simp [rdl, rky, Value.category]) ((ih m1 hm1).2.2.2.2.2.2.2.2.2.2.2.2.2.2.2.1 x1 x2 x3 x4 _ (hz.i (by decide)))
          · exact hW _ 152 [(0, .ref 1000), (1, .int x1), (2, .int x2), (3, .int x3), (4, .int x4)] _ _ _ (by simp [rdl, rky, Value.category]) ((ih m1 hm1).2.2.2.2.2.2.2.2.2.2.2.2.2.2.1 x1 x2 x3 x4 _ (hz.i (by decide)))
        · intro x1 x2 x3 x4 Y hz
          refine hB _ _ _ _ _ (fun m1 hm1 => ?_)
          dsimp only [ugo, uwp, ust, uct, rfd, Bfinished, Bfinished_152, Nat.beq, lv_args, rlk, rs1, rs2, rdl, rky, rcd, rno, rsw, Value.category, List.filter, List.take, List.drop, List.reverse, List.reverseAux, List.cons_append, List.nil_append, Option.toList, Int.toNat, Int.reduceToNat, if_pos, if_neg, reduceIte, ↓reduceIte, Nat.reduceAdd, Nat.reduceEqDiff, Nat.reduceBEq, beq_self_eq_true, Bool.not_true, Bool.not_false, Bool.and_true, Bool.and_false, Bool.true_and, Bool.false_and, gI_sI, gI_sL, gI_sA, gI_sM, gL_sI, gL_sL, gL_sA, gL_sM, aI_sI, aI_sL, aI_sA, aI_sM, aL_sI, aL_sL, aL_sA, aL_sM, oi_3]; try dsimp only
          refine ⟨fun h2 => ?_, fun h2 => ?_⟩
          · exact hW _ 179 [(0, .ref 1000), (1, .int x1), (2, .int x2), (3, .int x3), (4, .int x4)] _ _ _ (by simp [rdl, rky, Value.category]) ((ih m1 hm1).2.2.2.2.2.2.2.2.2.2.2.2.2.2.2.2.1 x1 x2 x3 x4 _ hz)
          · exact hW _ 157 [(0, .ref 1000), (1, .int x1), (2, .int x2), (3, .int x3), (4, .int x4)] _ _ _ (by simp [rdl, rky, Value.category]) ((ih m1 hm1).2.2.2.2.2.2.2.2.2.2.2.2.2.2.2.1 x1 x2 x3 x4 _ hz)
        · intro x1 x2 x3 x4 Y hz
          refine hB _ _ _ _ _ (fun m1 hm1 => ?_)
          dsimp only [ugo, uwp, ust, uct, rfd, Bfinished, Bfinished_157, Nat.beq, lv_args, rlk, rs1, rs2, rdl, rky, rcd, rno, rsw, Value.category, List.filter, List.take, List.drop, List.reverse, List.reverseAux, List.cons_append, List.nil_append, Option.toList, Int.toNat, Int.reduceToNat, if_pos, if_neg, reduceIte, ↓reduceIte, Nat.reduceAdd, Nat.reduceEqDiff, Nat.reduceBEq, beq_self_eq_true, Bool.not_true, Bool.not_false, Bool.and_true, Bool.and_false, Bool.true_and, Bool.false_and, gI_sI, gI_sL, gI_sA, gI_sM, gL_sI, gL_sL, gL_sA, gL_sM, aI_sI, aI_sL, aI_sA, aI_sM, aL_sI, aL_sL, aL_sA, aL_sM, oi_25]; try dsimp only
          intro p2
          refine ⟨trivial, fun w3 τ3 hq3 => ?_⟩
          obtain ⟨⟨r3, rfl⟩, hz3⟩ := hq3 c hz
          dsimp only [Option.toList, List.cons_append, List.nil_append, Nat.beq, gI_sI, gI_sL, gI_sA, gI_sM, gL_sI, gL_sL, gL_sA, gL_sM, aI_sI, aI_sL, aI_sA, aI_sM, aL_sI, aL_sL, aL_sA, aL_sM]
          intro p4
          exact hW _ 351 [(0, .ref 1000), (1, .int x1), (2, .int x2), (3, .int x3), (4, .int x4)] _ _ _ (by simp [rdl, rky, Value.category]) ((ih m1 hm1).2.2.2.2.2.2.2.2.2.2.2.2.2.2.2.2.2.2.2.2.2.2.2.2.2.2.2.2.2.2.1 x1 x2 x3 x4 _ (hz3.a (by decide)))
        · intro x1 x2 x3 x4 Y hz
          refine hB _ _ _ _ _ (fun m1 hm1 => ?_)
          dsimp only [ugo, uwp, ust, uct, rfd, Bfinished, Bfinished_179, Nat.beq, lv_args, rlk, rs1, rs2, rdl, rky, rcd, rno, rsw, Value.category, List.filter, List.take, List.drop, List.reverse, List.reverseAux, List.cons_append, List.nil_append, Option.toList, Int.toNat, Int.reduceToNat, if_pos, if_neg, reduceIte, ↓reduceIte, Nat.reduceAdd, Nat.reduceEqDiff, Nat.reduceBEq, beq_self_eq_true, Bool.not_true, Bool.not_false, Bool.and_true, Bool.and_false, Bool.true_and, Bool.false_and, gI_sI, gI_sL, gI_sA, gI_sM, gL_sI, gL_sL, gL_sA, gL_sM, aI_sI, aI_sL, aI_sA, aI_sM, aL_sI, aL_sL, aL_sA, aL_sM, oi_4]; try dsimp only
          refine ⟨fun h2 => ?_, fun h2 => ?_⟩
          · exact hW _ 206 [(0, .ref 1000), (1, .int x1), (2, .int x2), (3, .int x3), (4, .int x4)] _ _ _ (by simp [rdl, rky, Value.category]) ((ih m1 hm1).2.2.2.2.2.2.2.2.2.2.2.2.2.2.2.2.2.2.1 x1 x2 x3 x4 _ hz)
          · exact hW _ 184 [(0, .ref 1000), (1, .int x1), (2, .int x2), (3, .int x3), (4, .int x4)] _ _ _ (by simp [rdl, rky, Value.category]) ((ih m1 hm1).2.2.2.2.2.2.2.2.2.2.2.2.2.2.2.2.2.1 x1 x2 x3 x4 _ hz)
        · intro x1 x2 x3 x4 Y hz
          refine hB _ _ _ _ _ (fun m1 hm1 => ?_)
          dsimp only [ugo, uwp, ust, uct, rfd, Bfinished, Bfinished_184, Nat.beq, lv_args, rlk, rs1, rs2, rdl, rky, rcd, rno, rsw, Value.category, List.filter, List.take, List.drop, List.reverse, List.reverseAux, List.cons_append, List.nil_append, Option.toList, Int.toNat, Int.reduceToNat, if_pos, if_neg, reduceIte, ↓reduceIte, Nat.reduceAdd, Nat.reduceEqDiff, Nat.reduceBEq, beq_self_eq_true, Bool.not_true, Bool.not_false, Bool.and_true, Bool.and_false, Bool.true_and, Bool.false_and, gI_sI, gI_sL, gI_sA, gI_sM, gL_sI, gL_sL, gL_sA, gL_sM, aI_sI, aI_sL, aI_sA, aI_sM, aL_sI, aL_sL, aL_sA, aL_sM, oi_28]; try dsimp only
          intro p2
          refine ⟨trivial, fun w3 τ3 hq3 => ?_⟩
          obtain ⟨⟨r3, rfl⟩, hz3⟩ := hq3 c hz
          dsimp only [Option.toList, List.cons_append, List.nil_append, Nat.beq, gI_sI, gI_sL, gI_sA, gI_sM, gL_sI, gL_sL, gL_sA, gL_sM, aI_sI, aI_sL, aI_sA, aI_sM, aL_sI, aL_sL, aL_sA, aL_sM]
          intro p4
          exact hW _ 351 [(0, .ref 1000), (1, .int x1), (2, .int x2), (3, .int x3), (4, .int x4)] _ _ _ (by simp [rdl, rky, Value.category]) ((ih m1 hm1).2.2.2.2.2.2.2.2.2.2.2.2.2.2.2.2.2.2.2.2.2.2.2.2.2.2.2.2.2.2.1 x1 x2 x3 x4 _ (hz3.a (by decide)))
        · intro x1 x2 x3 x4 Y hz
          refine hB _ _ _ _ _ (fun m1 hm1 => ?_)
          dsimp only [ugo, uwp, ust, uct, rfd, Bfinished, Bfinished_206, Nat.beq, lv_args, rlk, rs1, rs2, rdl, rky, rcd, rno, rsw, Value.category, List.filter, List.take, List.drop, List.reverse, List.reverseAux, List.cons_append, List.nil_append, Option.toList, Int.toNat, Int.reduceToNat, if_pos, if_neg, reduceIte, ↓reduceIte, Nat.reduceAdd, Nat.reduceEqDiff, Nat.reduceBEq, beq_self_eq_true, Bool.not_true, Bool.not_false, Bool.and_true, Bool.and_false, Bool.true_and, Bool.false_and, gI_sI, gI_sL, gI_sA, gI_sM, gL_sI, gL_sL, gL_sA, gL_sM, aI_sI, aI_sL, aI_sA, aI_sM, aL_sI, aL_sL, aL_sA, aL_sM, oi_5]; try dsimp only
          refine ⟨fun h2 => ?_, fun h2 => ?_⟩
          · exact hW _ 293 [(0, .ref 1000), (1, .int x1), (2, .int x2), (3, .int x3), (4, .int x4)] _ _ _ (by simp [rdl, rky, Value.category]) ((ih m1 hm1).2.2.2.2.2.2.2.2.2.2.2.2.2.2.2.2.2.2.2.2.2.2.2.2.2.2.2.1 x1 x2 x3 x4 _ hz)
          · exact hW _ 211 [(0, .ref 1000), (1, .int x1), (2, .int x2), (3, .int x3), (4, .int x4)] _ _ _ (by simp [rdl, rky, Value.category]) ((ih m1 hm1).2.2.2.2.2.2.2.2.2.2.2.2.2.2.2.2.2.2.2.1 x1 x2 x3 x4 _ hz)
        · intro x1 x2 x3 x4 Y hz
          refine hB _ _ _ _ _ (fun m1 hm1 => ?_)
          dsimp only [ugo, uwp, ust, uct, rfd, Bfinished, Bfinished_211, Nat.beq, lv_args, rlk, rs1, rs2, rdl, rky, rcd, rno, rsw, Value.category, List.filter, List.take, List.drop, List.reverse, List.reverseAux, List.cons_append, List.nil_append, Option.toList, Int.toNat, Int.reduceToNat, if_pos, if_neg, reduceIte, ↓reduceIte, Nat.reduceAdd, Nat.reduceEqDiff, Nat.reduceBEq, beq_self_eq_true, Bool.not_true, Bool.not_false, Bool.and_true, Bool.and_false, Bool.true_and, Bool.false_and, gI_sI, gI_sL, gI_sA, gI_sM, gL_sI, gL_sL, gL_sA, gL_sM, aI_sI, aI_sL, aI_sA, aI_sM, aL_sI, aL_sL, aL_sA, aL_sM, oi_8]; try dsimp only
          refine ⟨trivial, fun w2 τ2 hq2 => ?_⟩
          obtain ⟨⟨r2, rfl⟩, hz2⟩ := hq2 c hz
          dsimp only [Option.toList, List.cons_append, List.nil_append, Nat.beq, gI_sI, gI_sL, gI_sA, gI_sM, gL_sI, gL_sL, gL_sA, gL_sM, aI_sI, aI_sL, aI_sA, aI_sM, aL_sI, aL_sL, aL_sA, aL_sM]
          refine ⟨fun h3 => ?_, fun h3 => ?_⟩
          · exact hW _ 225 [(0, .ref 1000), (1, .int x1), (2, .int x2), (3, .int x3), (4, .int x4)] _ _ _ (by simp [rdl, rky, Value.category]) ((ih m1 hm1).2.2.2.2.2.2.2.2.2.2.2.2.2.2.2.2.2.2.2.2.2.1 x1 x2 x3 x4 _ hz2)
          · exact hW _ 220 [(0, .ref 1000), (1, .int x1), (2, .int x2), (3, .int x3), (4, .int x4)] _ _ _ (by simp [rdl, rky, Value.category]) ((ih m1 hm1).2.2.2.2.2.2.2.2.2.2.2.2.2.2.2.2.2.2.2.2.1 x1 x2 x3 x4 _ hz2)
        · intro x1 x2 x3 x4 Y hz
          refine hB _ _ _ _ _ (fun m1 hm1 => ?_)
          dsimp only [ugo, uwp, ust, uct, rfd, Bfinished, Bfinished_220, Nat.beq, lv_args, rlk, rs1, rs2, rdl, rky, rcd, rno, rsw, Value.category, List.filter, List.take, List.drop, List.reverse, List.reverseAux, List.cons_append, List.nil_append, Option.toList, Int.toNat, Int.reduceToNat, if_pos, if_neg, reduceIte, ↓reduceIte, Nat.reduceAdd, Nat.reduceEqDiff, Nat.reduceBEq, beq_self_eq_true, Bool.not_true, Bool.not_false, Bool.and_true, Bool.and_false, Bool.true_and, Bool.false_and, gI_sI, gI_sL, gI_sA, gI_sM, gL_sI, gL_sL, gL_sA, gL_sM, aI_sI, aI_sL, aI_sA, aI_sM, aL_sI, aL_sL, aL_sA, aL_sM]; try dsimp only
          refine ⟨trivial, fun w2 τ2 hq2 => ?_⟩
          obtain ⟨rfl, hz2⟩ := hq2 c hz
          dsimp only [Option.toList, List.cons_append, List.nil_append, Nat.beq, gI_sI, gI_sL, gI_sA, gI_sM, gL_sI, gL_sL, gL_sA, gL_sM, aI_sI, aI_sL, aI_sA, aI_sM, aL_sI, aL_sL, aL_sA, aL_sM]
          unfold Qv_finishedJ4
          try dsimp only
          exact ⟨⟨_, rfl⟩, hz2⟩
        · intro x1 x2 x3 x4 Y hz
          refine hB _ _ _ _ _ (fun m1 hm1 => ?_)
          dsimp only [ugo, uwp, ust, uct, rfd, Bfinished, Bfinished_225, Nat.beq, lv_args, rlk, rs1, rs2, rdl, rky, rcd, rno, rsw, Value.category, List.filter, List.take, List.drop, List.reverse, List.reverseAux, List.cons_append, List.nil_append, Option.toList, Int.toNat, Int.reduceToNat, if_pos, if_neg, reduceIte, ↓reduceIte, Nat.reduceAdd, Nat.reduceEqDiff, Nat.reduceBEq, beq_self_eq_true, Bool.not_true, Bool.not_false, Bool.and_true, Bool.and_false, Bool.true_and, Bool.false_and, gI_sI, gI_sL, gI_sA, gI_sM, gL_sI, gL_sL, gL_sA, gL_sM, aI_sI, aI_sL, aI_sA, aI_sM, aL_sI, aL_sL, aL_sA, aL_sM]; try dsimp only
          refine ⟨trivial, fun w2 τ2 hq2 => ?_⟩
          obtain ⟨⟨r2, rfl⟩, hz2⟩ := hq2 c hz
          dsimp only [Option.toList, List.cons_append, List.nil_append, Nat.beq, gI_sI, gI_sL, gI_sA, gI_sM, gL_sI, gL_sL, gL_sA, gL_sM, aI_sI, aI_sL, aI_sA, aI_sM, aL_sI, aL_sL, aL_sA, aL_sM]
          refine ⟨fun h3 => ?_, fun h3 => ?_⟩
          · exact hW _ 234 [(0, .ref 1000), (1, .int x1), (2, .int x2), (3, .int x3), (4, .int x4)] _ _ _ (by simp [rdl, rky, Value.category]) ((ih m1 hm1).2.2.2.2.2.2.2.2.2.2.2.2.2.2.2.2.2.2.2.2.2.2.2.1 x1 x2 x3 x4 _ hz2)
          · exact hW _ 232 [(0, .ref 1000), (1, .int x1), (2, .int x2), (3, .int x3), (4, .int x4)] _ _ _ (by simp [rdl, rky, Value.category]) ((ih m1 hm1).2.2.2.2.2.2.2.2.2.2.2.2.2.2.2.2.2.2.2.2.2.2.1 x1 x2 x3 x4 _ hz2)
        · intro x1 x2 x3 x4 Y hz
          refine hB _ _ _ _ _ (fun m1 hm1 => ?_)
          dsimp only [ugo, uwp, ust, uct, rfd, Bfinished, Bfinished_232, Nat.beq, lv_args, rlk, rs1, rs2, rdl, rky, rcd, rno, rsw, Value.category, List.filter, List.take, List.drop, List.reverse, List.reverseAux, List.cons_append, List.nil_append, Option.toList, Int.toNat, Int.reduceToNat, if_pos, if_neg, reduceIte, ↓reduceIte, Nat.reduceAdd, Nat.reduceEqDiff, Nat.reduceBEq, beq_self_eq_true, Bool.not_true, Bool.not_false, Bool.and_true, Bool.and_false, Bool.true_and, Bool.false_and, gI_sI, gI_sL, gI_sA, gI_sM, gL_sI, gL_sL, gL_sA, gL_sM, aI_sI, aI_sL, aI_sA, aI_sM, aL_sI, aL_sL, aL_sA, aL_sM, oi_0]; try dsimp only
          unfold Qv_finishedJ4
          try dsimp only
          exact ⟨⟨_, rfl⟩, hz⟩
        · intro x1 x2 x3 x4 Y hz
          refine hB _ _ _ _ _ (fun m1 hm1 => ?_)
          dsimp only [ugo, uwp, ust, uct, rfd, Bfinished, Bfinished_234, Nat.beq, lv_args, rlk, rs1, rs2, rdl, rky, rcd, rno, rsw, Value.category, List.filter, List.take, List.drop, List.reverse, List.reverseAux, List.cons_append, List.nil_append, Option.toList, Int.toNat, Int.reduceToNat, if_pos, if_neg, reduceIte, ↓reduceIte, Nat.reduceAdd, Nat.reduceEqDiff, Nat.reduceBEq, beq_self_eq_true, Bool.not_true, Bool.not_false, Bool.and_true, Bool.and_false, Bool.true_and, Bool.false_and, gI_sI, gI_sL, gI_sA, gI_sM, gL_sI, gL_sL, gL_sA, gL_sM, aI_sI, aI_sL, aI_sA, aI_sM, aL_sI, aL_sL, aL_sA, aL_sM, oi_30]; try dsimp only
          intro p2
          refine ⟨trivial, fun w3 τ3 hq3 => ?_⟩
          obtain ⟨⟨r3, rfl⟩, hz3⟩ := hq3 c hz
          dsimp only [Option.toList, List.cons_append, List.nil_append, Nat.beq, gI_sI, gI_sL, gI_sA, gI_sM, gL_sI, gL_sL, gL_sA, gL_sM, aI_sI, aI_sL, aI_sA, aI_sM, aL_sI, aL_sL, aL_sA, aL_sM]
          intro p4
          refine ⟨trivial, fun w5 τ5 hq5 => ?_⟩
          obtain ⟨⟨r5, rfl⟩, hz5⟩ := hq5 c (hz3.a (by decide))
          dsimp only [Option.toList, List.cons_append, List.nil_append, Nat.beq, gI_sI, gI_sL, gI_sA, gI_sM, gL_sI, gL_sL, gL_sA, gL_sM, aI_sI, aI_sL, aI_sA, aI_sM, aL_sI, aL_sL, aL_sA, aL_sM]
          refine ⟨fun h6 => ?_, fun h6 => ?_⟩
          · exact hW _ 269 [(0, .ref 1000), (1, .int x1), (2, .int x2), (3, .int x3), (4, .int x4)] _ _ _ (by simp [rdl, rky, Value.category]) ((ih m1 hm1).2.2.2.2.2.2.2.2.2.2.2.2.2.2.2.2.2.2.2.2.2.2.2.2.2.1 x1 x2 x3 x4 _ hz5)
          · exact hW _ 260 [(0, .ref 1000), (1, .int x1), (2, .int x2), (3, .int x3), (4, .int x4)] _ _ _ (by simp [rdl, rky, Value.category]) ((ih m1 hm1).2.2.2.2.2.2.2.2.2.2.2.2.2.2.2.2.2.2.2.2.2.2.2.2.1 x1 x2 x3 x4 _ hz5)
        · intro x1 x2 x3 x4 Y hz
          refine hB _ _ _ _ _ (fun m1 hm1 => ?_)
          dsimp only [ugo, uwp, ust, uct, rfd, Bfinished, Bfinished_260, Nat.beq, lv_args, rlk, rs1, rs2, rdl, rky, rcd, rno, rsw, Value.category, List.filter, List.take, List.drop, List.reverse, List.reverseAux, List.cons_append, List.nil_append, Option.toList, Int.toNat, Int.reduceToNat, if_pos, if_neg, reduceIte, ↓reduceIte, Nat.reduceAdd, Nat.reduceEqDiff, Nat.reduceBEq, beq_self_eq_true, Bool.not_true, Bool.not_false, Bool.and_true, Bool.and_false, Bool.true_and, Bool.false_and, gI_sI, gI_sL, gI_sA, gI_sM, gL_sI, gL_sL, gL_sA, gL_sM, aI_sI, aI_sL, aI_sA, aI_sM, aL_sI, aL_sL, aL_sA, aL_sM, oi_59]; try dsimp only
          refine ⟨trivial, fun w2 τ2 hq2 => ?_⟩
          obtain ⟨⟨r2, rfl⟩, hz2⟩ := hq2 c hz
          dsimp only [Option.toList, List.cons_append, List.nil_append, Nat.beq, gI_sI, gI_sL, gI_sA, gI_sM, gL_sI, gL_sL, gL_sA, gL_sM, aI_sI, aI_sL, aI_sA, aI_sM, aL_sI, aL_sL, aL_sA, aL_sM]
          refine ⟨fun h3 => ?_, fun h3 => ?_⟩
          · exact hW _ 271 [(0, .ref 1000), (1, .int x1), (2, .int x2), (3, .int x3), (4, .int x4)] _ _ _ (by simp [rdl, rky, Value.category]) ((ih m1 hm1).2.2.2.2.2.2.2.2.2.2.2.2.2.2.2.2.2.2.2.2.2.2.2.2.2.2.1 x1 x2 x3 x4 _ hz2)
          · exact hW _ 269 [(0, .ref 1000), (1, .int x1), (2, .int x2), (3, .int x3), (4, .int x4)] _ _ _ (by simp [rdl, rky, Value.category]) ((ih m1 hm1).2.2.2.2.2.2.2.2.2.2.2.2.2.2.2.2.2.2.2.2.2.2.2.2.2.1 x1 x2 x3 x4 _ hz2)
        · intro x1 x2 x3 x4 Y hz
          refine hB _ _ _ _ _ (fun m1 hm1 => ?_)
          dsimp only [ugo, uwp, ust, uct, rfd, Bfinished, Bfinished_269, Nat.beq, lv_args, rlk, rs1, rs2, rdl, rky, rcd, rno, rsw, Value.category, List.filter, List.take, List.drop, List.reverse, List.reverseAux, List.cons_append, List.nil_append, Option.toList, Int.toNat, Int.reduceToNat, if_pos, if_neg, reduceIte, ↓reduceIte, Nat.reduceAdd, Nat.reduceEqDiff, Nat.reduceBEq, beq_self_eq_true, Bool.not_true, Bool.not_false, Bool.and_true, Bool.and_false, Bool.true_and, Bool.false_and, gI_sI, gI_sL, gI_sA, gI_sM, gL_sI, gL_sL, gL_sA, gL_sM, aI_sI, aI_sL, aI_sA, aI_sM, aL_sI, aL_sL, aL_sA, aL_sM, oi_0]; try dsimp only
          unfold Qv_finishedJ4
          try dsimp only
          exact ⟨⟨_, rfl⟩, hz⟩
        · intro x1 x2 x3 x4 Y hz
          refine hB _ _ _ _ _ (fun m1 hm1 => ?_)
          dsimp only [ugo, uwp, ust, uct, rfd, Bfinished, Bfinished_271, Nat.beq, lv_args, rlk, rs1, rs2, rdl, rky, rcd, rno, rsw, Value.category, List.filter, List.take, List.drop, List.reverse, List.reverseAux, List.cons_append, List.nil_append, Option.toList, Int.toNat, Int.reduceToNat, if_pos, if_neg, reduceIte, ↓reduceIte, Nat.reduceAdd, Nat.reduceEqDiff, Nat.reduceBEq, beq_self_eq_true, Bool.not_true, Bool.not_false, Bool.and_true, Bool.and_false, Bool.true_and, Bool.false_and, gI_sI, gI_sL, gI_sA, gI_sM, gL_sI, gL_sL, gL_sA, gL_sM, aI_sI, aI_sL, aI_sA, aI_sM, aL_sI, aL_sL, aL_sA, aL_sM, oi_31]; try dsimp only
          intro p2
          refine ⟨trivial, fun w3 τ3 hq3 => ?_⟩
          obtain ⟨⟨r3, rfl⟩, hz3⟩ := hq3 c hz
          dsimp only [Option.toList, List.cons_append, List.nil_append, Nat.beq, gI_sI, gI_sL, gI_sA, gI_sM, gL_sI, gL_sL, gL_sA, gL_sM, aI_sI, aI_sL, aI_sA, aI_sM, aL_sI, aL_sL, aL_sA, aL_sM]
          intro p4
          exact hW _ 351 [(0, .ref 1000), (1, .int x1), (2, .int x2), (3, .int x3), (4, .int x4)] _ _ _ (by simp [rdl, rky, Value.category]) ((ih m1 hm1).2.2.2.2.2.2.2.2.2.2.2.2.2.2.2.2.2.2.2.2.2.2.2.2.2.2.2.2.2.2.1 x1 x2 x3 x4 _ (hz3.a (by decide)))
        · intro x1 x2 x3 x4 Y hz
          refine hB _ _ _ _ _ (fun m1 hm1 => ?_)
          dsimp only [ugo, uwp, ust, uct, rfd, Bfinished, Bfinished_293, Nat.beq, lv_args, rlk, rs1, rs2, rdl, rky, rcd, rno, rsw, Value.category, List.filter, List.take, List.drop, List.reverse, List.reverseAux, List.cons_append, List.nil_append, Option.toList, Int.toNat, Int.reduceToNat, if_pos, if_neg, reduceIte, ↓reduceIte, Nat.reduceAdd, Nat.reduceEqDiff, Nat.reduceBEq, beq_self_eq_true, Bool.not_true, Bool.not_false, Bool.and_true, Bool.and_false, Bool.true_and, Bool.false_and, gI_sI, gI_sL, gI_sA, gI_sM, gL_sI, gL_sL, gL_sA, gL_sM, aI_sI, aI_sL, aI_sA, aI_sM, aL_sI, aL_sL, aL_sA, aL_sM, oi_6]; try dsimp only
          refine ⟨fun h2 => ?_, fun h2 => ?_⟩
          · exact hW _ 332 [(0, .ref 1000), (1, .int x1), (2, .int x2), (3, .int x3), (4, .int x4)] _ _ _ (by simp [rdl, rky, Value.category]) ((ih m1 hm1).2.2.2.2.2.2.2.2.2.2.2.2.2.2.2.2.2.2.2.2.2.2.2.2.2.2.2.2.2.1 x1 x2 x3 x4 _ hz)
          · exact hW _ 299 [(0, .ref 1000), (1, .int x1), (2, .int x2), (3, .int x3), (4, .int x4)] _ _ _ (by simp [rdl, rky, Value.category]) ((ih m1 hm1).2.2.2.2.2.2.2.2.2.2.2.2.2.2.2.2.2.2.2.2.2.2.2.2.2.2.2.2.1 x1 x2 x3 x4 _ hz)
        · intro x1 x2 x3 x4 Y hz
          refine hB _ _ _ _ _ (fun m1 hm1 => ?_)
          dsimp only [ugo, uwp, ust, uct, rfd, Bfinished, Bfinished_299, Nat.beq, lv_args, rlk, rs1, rs2, rdl, rky, rcd, rno, rsw, Value.category, List.filter, List.take, List.drop, List.reverse, List.reverseAux, List.cons_append, List.nil_append, Option.toList, Int.toNat, Int.reduceToNat, if_pos, if_neg, reduceIte, ↓reduceIte, Nat.reduceAdd, Nat.reduceEqDiff, Nat.reduceBEq, beq_self_eq_true, Bool.not_true, Bool.not_false, Bool.and_true, Bool.and_false, Bool.true_and, Bool.false_and, gI_sI, gI_sL, gI_sA, gI_sM, gL_sI, gL_sL, gL_sA, gL_sM, aI_sI, aI_sL, aI_sA, aI_sM, aL_sI, aL_sL, aL_sA, aL_sM, oi_1, oi_36]; try dsimp only
          refine ⟨trivial, fun w2 τ2 hq2 => ?_⟩
          obtain ⟨rfl, hz2⟩ := hq2 c hz
          dsimp only [Option.toList, List.cons_append, List.nil_append, Nat.beq, gI_sI, gI_sL, gI_sA, gI_sM, gL_sI, gL_sL, gL_sA, gL_sM, aI_sI, aI_sL, aI_sA, aI_sM, aL_sI, aL_sL, aL_sA, aL_sM]
          intro p3
          refine ⟨trivial, fun w4 τ4 hq4 => ?_⟩
          obtain ⟨⟨r4, rfl⟩, hz4⟩ := hq4 c hz2
          dsimp only [Option.toList, List.cons_append, List.nil_append, Nat.beq, gI_sI, gI_sL, gI_sA, gI_sM, gL_sI, gL_sL, gL_sA, gL_sM, aI_sI, aI_sL, aI_sA, aI_sM, aL_sI, aL_sL, aL_sA, aL_sM]
          intro p5
          exact hW _ 351 [(0, .ref 1000), (1, .int x1), (2, .int x2), (3, .int x3), (4, .int x4)] _ _ _ (by simp [rdl, rky, Value.category]) ((ih m1 hm1).2.2.2.2.2.2.2.2.2.2.2.2.2.2.2.2.2.2.2.2.2.2.2.2.2.2.2.2.2.2.1 x1 x2 x3 x4 _ (hz4.a (by decide)))
        · intro x1 x2 x3 x4 Y hz
          refine hB _ _ _ _ _ (fun m1 hm1 => ?_)
          dsimp only [ugo, uwp, ust, uct, rfd, Bfinished, Bfinished_332, Nat.beq, lv_args, rlk, rs1, rs2, rdl, rky, rcd, rno, rsw, Value.category, List.filter, List.take, List.drop, List.reverse, List.reverseAux, List.cons_append, List.nil_append, Option.toList, Int.toNat, Int.reduceToNat, if_pos, if_neg, reduceIte, ↓reduceIte, Nat.reduceAdd, Nat.reduceEqDiff, Nat.reduceBEq, beq_self_eq_true, Bool.not_true, Bool.not_false, Bool.and_true, Bool.and_false, Bool.true_and, Bool.false_and, gI_sI, gI_sL, gI_sA, gI_sM, gL_sI, gL_sL, gL_sA, gL_sM, aI_sI, aI_sL, aI_sA, aI_sM, aL_sI, aL_sL, aL_sA, aL_sM, oi_42]; try dsimp only
          intro p2
          refine ⟨trivial, fun w3 τ3 hq3 => ?_⟩
          obtain ⟨⟨r3, rfl⟩, hz3⟩ := hq3 c hz
          dsimp only [Option.toList, List.cons_append, List.nil_append, Nat.beq, gI_sI, gI_sL, gI_sA, gI_sM, gL_sI, gL_sL, gL_sA, gL_sM, aI_sI, aI_sL, aI_sA, aI_sM, aL_sI, aL_sL, aL_sA, aL_sM]
          intro p4
          exact hW _ 351 [(0, .ref 1000), (1, .int x1), (2, .int x2), (3, .int x3), (4, .int x4)] _ _ _ (by simp [rdl, rky, Value.category]) ((ih m1 hm1).2.2.2.2.2.2.2.2.2.2.2.2.2.2.2.2.2.2.2.2.2.2.2.2.2.2.2.2.2.2.1 x1 x2 x3 x4 _ (hz3.a (by decide)))
        · intro x1 x2 x3 x4 Y hz
          refine hB _ _ _ _ _ (fun m1 hm1 => ?_)
          dsimp only [ugo, uwp, ust, uct, rfd, Bfinished, Bfinished_351, Nat.beq, lv_args, rlk, rs1, rs2, rdl, rky, rcd, rno, rsw, Value.category, List.filter, List.take, List.drop, List.reverse, List.reverseAux, List.cons_append, List.nil_append, Option.toList, Int.toNat, Int.reduceToNat, if_pos, if_neg, reduceIte, ↓reduceIte, Nat.reduceAdd, Nat.reduceEqDiff, Nat.reduceBEq, beq_self_eq_true, Bool.not_true, Bool.not_false, Bool.and_true, Bool.and_false, Bool.true_and, Bool.false_and, gI_sI, gI_sL, gI_sA, gI_sM, gL_sI, gL_sL, gL_sA, gL_sM, aI_sI, aI_sL, aI_sA, aI_sM, aL_sI, aL_sL, aL_sA, aL_sM, oi_45]; try dsimp only
          intro p2
          refine ⟨trivial, fun w3 τ3 hq3 => ?_⟩
          obtain ⟨⟨r3, rfl⟩, hz3⟩ := hq3 c hz
          dsimp only [Option.toList, List.cons_append, List.nil_append, Nat.beq, gI_sI, gI_sL, gI_sA, gI_sM, gL_sI, gL_sL, gL_sA, gL_sM, aI_sI, aI_sL, aI_sA, aI_sM, aL_sI, aL_sL, aL_sA, aL_sM]
          refine ⟨fun h4 => ?_, fun h4 => ?_⟩
          · exact hW _ 378 [(0, .ref 1000), (1, .int x1), (2, .int x2), (3, .int x3), (4, .int x4)] _ _ _ (by simp [rdl, rky, Value.category]) ((ih m1 hm1).2.2.2.2.2.2.2.2.2.2.2.2.2.2.2.2.2.2.2.2.2.2.2.2.2.2.2.2.2.2.2.2.1 x1 x2 x3 x4 _ hz3)
          · exact hW _ 374 [(0, .ref 1000), (1, .int x1), (2, .int x2), (3, .int x3), (4, .int x4)] _ _ _ (by simp [rdl, rky, Value.category]) ((ih m1 hm1).2.2.2.2.2.2.2.2.2.2.2.2.2.2.2.2.2.2.2.2.2.2.2.2.2.2.2.2.2.2.2.1 x1 x2 x3 x4 _ hz3)
        · intro x1 x2 x3 x4 Y hz
          refine hB _ _ _ _ _ (fun m1 hm1 => ?_)
          dsimp only [ugo, uwp, ust, uct, rfd, Bfinished, Bfinished_374, Nat.beq, lv_args, rlk, rs1, rs2, rdl, rky, rcd, rno, rsw, Value.category, List.filter, List.take, List.drop, List.reverse, List.reverseAux, List.cons_append, List.nil_append, Option.toList, Int.toNat, Int.reduceToNat, if_pos, if_neg, reduceIte, ↓reduceIte, Nat.reduceAdd, Nat.reduceEqDiff, Nat.reduceBEq, beq_self_eq_true, Bool.not_true, Bool.not_false, Bool.and_true, Bool.and_false, Bool.true_and, Bool.false_and, gI_sI, gI_sL, gI_sA, gI_sM, gL_sI, gL_sL, gL_sA, gL_sM, aI_sI, aI_sL, aI_sA, aI_sM, aL_sI, aL_sL, aL_sA, aL_sM, oi_1]; try dsimp only
          exact hW _ 379 [(0, .ref 1000), (1, .int x1), (2, .int x2), (3, .int x3), (4, .int x4)] _ _ _ (by simp [rdl, rky, Value.category]) ((ih m1 hm1).2.2.2.2.2.2.2.2.2.2.2.2.2.2.2.2.2.2.2.2.2.2.2.2.2.2.2.2.2.2.2.2.2.1 x1 x2 x3 x4 1 _ hz)
        · intro x1 x2 x3 x4 Y hz
          refine hB _ _ _ _ _ (fun m1 hm1 => ?_)
          dsimp only [ugo, uwp, ust, uct, rfd, Bfinished, Bfinished_378, Nat.beq, lv_args, rlk, rs1, rs2, rdl, rky, rcd, rno, rsw, Value.category, List.filter, List.take, List.drop, List.reverse, List.reverseAux, List.cons_append, List.nil_append, Option.toList, Int.toNat, Int.reduceToNat, if_pos, if_neg, reduceIte, ↓reduceIte, Nat.reduceAdd, Nat.reduceEqDiff, Nat.reduceBEq, beq_self_eq_true, Bool.not_true, Bool.not_false, Bool.and_true, Bool.and_false, Bool.true_and, Bool.false_and, gI_sI, gI_sL, gI_sA, gI_sM, gL_sI, gL_sL, gL_sA, gL_sM, aI_sI, aI_sL, aI_sA, aI_sM, aL_sI, aL_sL, aL_sA, aL_sM, oi_0]; try dsimp only
          exact hW _ 379 [(0, .ref 1000), (1, .int x1), (2, .int x2), (3, .int x3), (4, .int x4)] _ _ _ (by simp [rdl, rky, Value.category]) ((ih m1 hm1).2.2.2.2.2.2.2.2.2.2.2.2.2.2.2.2.2.2.2.2.2.2.2.2.2.2.2.2.2.2.2.2.2.1 x1 x2 x3 x4 0 _ hz)
        · intro x1 x2 x3 x4 s0 Y hz
          refine hB _ _ _ _ _ (fun m1 hm1 => ?_)
          dsimp only [ugo, uwp, ust, uct, rfd, Bfinished, Bfinished_379, Nat.beq, lv_args, rlk, rs1, rs2, rdl, rky, rcd, rno, rsw, Value.category, List.filter, List.take, List.drop, List.reverse, List.reverseAux, List.cons_append, List.nil_append, Option.toList, Int.toNat, Int.reduceToNat, if_pos, if_neg, reduceIte, ↓reduceIte, Nat.reduceAdd, Nat.reduceEqDiff, Nat.reduceBEq, beq_self_eq_true, Bool.not_true, Bool.not_false, Bool.and_true, Bool.and_false, Bool.true_and, Bool.false_and, gI_sI, gI_sL, gI_sA, gI_sM, gL_sI, gL_sL, gL_sA, gL_sM, aI_sI, aI_sL, aI_sA, aI_sM, aL_sI, aL_sL, aL_sA, aL_sM]; try dsimp only
          exact hW _ 13 [(0, .ref 1000), (1, .int s0)] _ _ _ (by simp [rdl, rky, Value.category]) ((ih m1 hm1).2.2.2.2.1 s0 _ hz)
        · intro x1 Y hz
          refine hB _ _ _ _ _ (fun m1 hm1 => ?_)
          dsimp only [ugo, uwp, ust, uct, rfd, Bfinished, Bfinished_383, Nat.beq, lv_args, rlk, rs1, rs2, rdl, rky, rcd, rno, rsw, Value.category, List.filter, List.take, List.drop, List.reverse, List.reverseAux, List.cons_append, List.nil_append, Option.toList, Int.toNat, Int.reduceToNat, if_pos, if_neg, reduceIte, ↓reduceIte, Nat.reduceAdd, Nat.reduceEqDiff, Nat.reduceBEq, beq_self_eq_true, Bool.not_true, Bool.not_false, Bool.and_true, Bool.and_false, Bool.true_and, Bool.false_and, gI_sI, gI_sL, gI_sA, gI_sM, gL_sI, gL_sL, gL_sA, gL_sM, aI_sI, aI_sL, aI_sA, aI_sM, aL_sI, aL_sL, aL_sA, aL_sM, oi_1]; try dsimp only
          unfold Qv_finishedJ4
          try dsimp only
          exact ⟨⟨_, rfl⟩, hz⟩
    intro n0
    exact (all n0).1  σ hP
  next => exact hP.elim
theorem w_finishedJ4 : UMet 69 (fun _ _ => True) Qw_finishedJ4 := fun A1 σ _ w τ h c hP => v_finishedJ4 c A1 σ hP w τ h
def Pv_openJ4 (c : RS) : UP1 := fun A1 σ => match A1 with
  | [.int a1, .int a2, .int a3] => J4 c σ
  | _ => False
def Qv_openJ4 (c : RS) : UQ1 := fun A1 σ w τ => match A1 with
  | [.int a1, .int a2, .int a3] => (∃ r : Int32, w = some (.int r)) ∧ J4 c τ
  | _ => False
def Qw_openJ4 : UQ1 := fun A1 σ w τ => ∀ (c : RS), Pv_openJ4 c A1 σ → Qv_openJ4 c A1 σ w τ
set_option maxRecDepth 100000 in
set_option maxHeartbeats 4000000 in
theorem v_openJ4 (c : RS) : UMet 36 (Pv_openJ4 c) (Qv_openJ4 c) := by
  refine UMet.by Bopen [(19, (fun _ _ => True), Qw_enterJ4)] rfl (ucc w_enterJ4 uc0) ?_
  intro A1 σ hP K hB hW
  unfold Pv_openJ4 at hP
  split at hP
  next a1 a2 a3 =>
    have all : ∀ N : Nat, (∀ (x1 : Int32) (x2 : Int32) (x3 : Int32) (Y : RS), J4 c Y → K N 0 [(0, .ref 1000), (1, .int x1), (2, .int x2), (3, .int x3)] [] Y) := by
      intro N
      induction N using Nat.strongRecOn with
      | ind N ih =>
        skip
        · intro x1 x2 x3 Y hz
          refine hB _ _ _ _ _ (fun m1 hm1 => ?_)
          dsimp only [ugo, uwp, ust, uct, rfd, Bopen, Bopen_0, Nat.beq, lv_args, rlk, rs1, rs2, rdl, rky, rcd, rno, rsw, Value.category, List.filter, List.take, List.drop, List.reverse, List.reverseAux, List.cons_append, List.nil_append, Option.toList, Int.toNat, Int.reduceToNat, if_pos, if_neg, reduceIte, ↓reduceIte, Nat.reduceAdd, Nat.reduceEqDiff, Nat.reduceBEq, beq_self_eq_true, Bool.not_true, Bool.not_false, Bool.and_true, Bool.and_false, Bool.true_and, Bool.false_and, gI_sI, gI_sL, gI_sA, gI_sM, gL_sI, gL_sL, gL_sA, gL_sM, aI_sI, aI_sL, aI_sA, aI_sM, aL_sI, aL_sL, aL_sA, aL_sM, oi_1]; try dsimp only
          intro p2
          intro p3
          intro p4
          refine ⟨trivial, fun w5 τ5 hq5 => ?_⟩
          obtain ⟨⟨r5, rfl⟩, hz5⟩ := hq5 c ((((hz.a (by decide)).a (by decide)).a (by decide)).i (by decide))
          dsimp only [Option.toList, List.cons_append, List.nil_append, Nat.beq, gI_sI, gI_sL, gI_sA, gI_sM, gL_sI, gL_sL, gL_sA, gL_sM, aI_sI, aI_sL, aI_sA, aI_sM, aL_sI, aL_sL, aL_sA, aL_sM]
          unfold Qv_openJ4
          try dsimp only
          exact ⟨⟨_, rfl⟩, hz5⟩
    intro n0
    exact all n0 a1 a2 a3 σ hP
  next => exact hP.elim
theorem w_openJ4 : UMet 36 (fun _ _ => True) Qw_openJ4 := fun A1 σ _ w τ h c hP => v_openJ4 c A1 σ hP w τ h
def Pv_variableJ4 (c : RS) : UP1 := fun A1 σ => match A1 with
  | [.int a1, .int a2, .int a3] => J4 c σ
  | _ => False
def Qv_variableJ4 (c : RS) : UQ1 := fun A1 σ w τ => match A1 with
  | [.int a1, .int a2, .int a3] => (∃ r : Int32, w = some (.int r)) ∧ J4 c τ
  | _ => False
def Qw_variableJ4 : UQ1 := fun A1 σ w τ => ∀ (c : RS), Pv_variableJ4 c A1 σ → Qv_variableJ4 c A1 σ w τ
set_option maxRecDepth 100000 in
set_option maxHeartbeats 4000000 in
theorem v_variableJ4 (c : RS) : UMet 40 (Pv_variableJ4 c) (Qv_variableJ4 c) := by
  refine UMet.by Bvariable [(17, (fun _ _ => True), Qw_takeK6), (12, (fun _ _ => True), Qw_wrongK6)] rfl (ucc w_takeK6 (ucc w_wrongK6 uc0)) ?_
  intro A1 σ hP K hB hW
  unfold Pv_variableJ4 at hP
  split at hP
  next a1 a2 a3 =>
    intro n0
    refine hB _ _ _ _ _ (fun m1 hm1 => ?_)
    dsimp only [ugo, uwp, ust, uct, rfd, Bvariable, Bvariable_0, Nat.beq, lv_args, rlk, rs1, rs2, rdl, rky, rcd, rno, rsw, Value.category, List.filter, List.take, List.drop, List.reverse, List.reverseAux, List.cons_append, List.nil_append, Option.toList, Int.toNat, Int.reduceToNat, if_pos, if_neg, reduceIte, ↓reduceIte, Nat.reduceAdd, Nat.reduceEqDiff, Nat.reduceBEq, beq_self_eq_true, Bool.not_true, Bool.not_false, Bool.and_true, Bool.and_false, Bool.true_and, Bool.false_and, gI_sI, gI_sL, gI_sA, gI_sM, gL_sI, gL_sL, gL_sA, gL_sM, aI_sI, aI_sL, aI_sA, aI_sM, aL_sI, aL_sL, aL_sA, aL_sM, oi_60]; try dsimp only
    refine ⟨fun h2 => ?_, fun h2 => ?_⟩
    · refine hB _ _ _ _ _ (fun m3 hm3 => ?_)
      dsimp only [ugo, uwp, ust, uct, rfd, Bvariable, Bvariable_19, Nat.beq, lv_args, rlk, rs1, rs2, rdl, rky, rcd, rno, rsw, Value.category, List.filter, List.take, List.drop, List.reverse, List.reverseAux, List.cons_append, List.nil_append, Option.toList, Int.toNat, Int.reduceToNat, if_pos, if_neg, reduceIte, ↓reduceIte, Nat.reduceAdd, Nat.reduceEqDiff, Nat.reduceBEq, beq_self_eq_true, Bool.not_true, Bool.not_false, Bool.and_true, Bool.and_false, Bool.true_and, Bool.false_and, gI_sI, gI_sL, gI_sA, gI_sM, gL_sI, gL_sL, gL_sA, gL_sM, aI_sI, aI_sL, aI_sA, aI_sM, aL_sI, aL_sL, aL_sA, aL_sM, oi_1]; try dsimp only
      intro p4
      intro p5
      intro p6
      refine ⟨fun h7 => ?_, fun h7 => ?_⟩
      · refine hB _ _ _ _ _ (fun m8 hm8 => ?_)
        dsimp only [ugo, uwp, ust, uct, rfd, Bvariable, Bvariable_82, Nat.beq, lv_args, rlk, rs1, rs2, rdl, rky, rcd, rno, rsw, Value.category, List.filter, List.take, List.drop, List.reverse, List.reverseAux, List.cons_append, List.nil_append, Option.toList, Int.toNat, Int.reduceToNat, if_pos, if_neg, reduceIte, ↓reduceIte, Nat.reduceAdd, Nat.reduceEqDiff, Nat.reduceBEq, beq_self_eq_true, Bool.not_true, Bool.not_false, Bool.and_true, Bool.and_false, Bool.true_and, Bool.false_and, gI_sI, gI_sL, gI_sA, gI_sM, gL_sI, gL_sL, gL_sA, gL_sM, aI_sI, aI_sL, aI_sA, aI_sM, aL_sI, aL_sL, aL_sA, aL_sM]; try dsimp only
        refine hB _ _ _ _ _ (fun m9 hm9 => ?_)
        dsimp only [ugo, uwp, ust, uct, rfd, Bvariable, Bvariable_95, Nat.beq, lv_args, rlk, rs1, rs2, rdl, rky, rcd, rno, rsw, Value.category, List.filter, List.take, List.drop, List.reverse, List.reverseAux, List.cons_append, List.nil_append, Option.toList, Int.toNat, Int.reduceToNat, if_pos, if_neg, reduceIte, ↓reduceIte, Nat.reduceAdd, Nat.reduceEqDiff, Nat.reduceBEq, beq_self_eq_true, Bool.not_true, Bool.not_false, Bool.and_true, Bool.and_false, Bool.true_and, Bool.false_and, gI_sI, gI_sL, gI_sA, gI_sM, gL_sI, gL_sL, gL_sA, gL_sM, aI_sI, aI_sL, aI_sA, aI_sM, aL_sI, aL_sL, aL_sA, aL_sM, oi_m2]; try dsimp only
        intro p10
        intro p11
        intro p12
        refine ⟨trivial, fun w13 τ13 hq13 => ?_⟩
        obtain ⟨⟨r13, rfl⟩, hz13⟩ := hq13 (sA (sA (sA (sA (sA (sA (sI σ 42 ((gI σ 42) + 1)) 43 (upd (aI σ 43) ((gI σ 42)).toNatClampNeg (gI σ 14))) 44 (upd (aI σ 44) ((gI σ 42)).toNatClampNeg a1)) 45 (upd (aI σ 45) ((gI σ 42)).toNatClampNeg a2)) 46 (upd (aI σ 46) ((gI σ 42)).toNatClampNeg (gI σ 36))) 47 (upd (aI σ 47) ((gI σ 42)).toNatClampNeg a3)) 48 (upd (aI σ 48) ((gI σ 42)).toNatClampNeg (-2))) K6.rf
        have hv13 := (hP.va (by assumption)).ks hz13
        dsimp only [Option.toList, List.cons_append, List.nil_append, Nat.beq, gI_sI, gI_sL, gI_sA, gI_sM, gL_sI, gL_sL, gL_sA, gL_sM, aI_sI, aI_sL, aI_sA, aI_sM, aL_sI, aL_sL, aL_sA, aL_sM]
        unfold Qv_variableJ4
        try dsimp only
        exact ⟨⟨_, rfl⟩, hv13⟩
      · refine hB _ _ _ _ _ (fun m14 hm14 => ?_)
        dsimp only [ugo, uwp, ust, uct, rfd, Bvariable, Bvariable_75, Nat.beq, lv_args, rlk, rs1, rs2, rdl, rky, rcd, rno, rsw, Value.category, List.filter, List.take, List.drop, List.reverse, List.reverseAux, List.cons_append, List.nil_append, Option.toList, Int.toNat, Int.reduceToNat, if_pos, if_neg, reduceIte, ↓reduceIte, Nat.reduceAdd, Nat.reduceEqDiff, Nat.reduceBEq, beq_self_eq_true, Bool.not_true, Bool.not_false, Bool.and_true, Bool.and_false, Bool.true_and, Bool.false_and, gI_sI, gI_sL, gI_sA, gI_sM, gL_sI, gL_sL, gL_sA, gL_sM, aI_sI, aI_sL, aI_sA, aI_sM, aL_sI, aL_sL, aL_sA, aL_sM]; try dsimp only
        refine ⟨fun h15 => ?_, fun h15 => ?_⟩
        · refine hB _ _ _ _ _ (fun m16 hm16 => ?_)
          dsimp only [ugo, uwp, ust, uct, rfd, Bvariable, Bvariable_89, Nat.beq, lv_args, rlk, rs1, rs2, rdl, rky, rcd, rno, rsw, Value.category, List.filter, List.take, List.drop, List.reverse, List.reverseAux, List.cons_append, List.nil_append, Option.toList, Int.toNat, Int.reduceToNat, if_pos, if_neg, reduceIte, ↓reduceIte, Nat.reduceAdd, Nat.reduceEqDiff, Nat.reduceBEq, beq_self_eq_true, Bool.not_true, Bool.not_false, Bool.and_true, Bool.and_false, Bool.true_and, Bool.false_and, gI_sI, gI_sL, gI_sA, gI_sM, gL_sI, gL_sL, gL_sA, gL_sM, aI_sI, aI_sL, aI_sA, aI_sM, aL_sI, aL_sL, aL_sA, aL_sM, oi_1]; try dsimp only
          refine hB _ _ _ _ _ (fun m17 hm17 => ?_)
          dsimp only [ugo, uwp, ust, uct, rfd, Bvariable, Bvariable_95, Nat.beq, lv_args, rlk, rs1, rs2, rdl, rky, rcd, rno, rsw, Value.category, List.filter, List.take, List.drop, List.reverse, List.reverseAux, List.cons_append, List.nil_append, Option.toList, Int.toNat, Int.reduceToNat, if_pos, if_neg, reduceIte, ↓reduceIte, Nat.reduceAdd, Nat.reduceEqDiff, Nat.reduceBEq, beq_self_eq_true, Bool.not_true, Bool.not_false, Bool.and_true, Bool.and_false, Bool.true_and, Bool.false_and, gI_sI, gI_sL, gI_sA, gI_sM, gL_sI, gL_sL, gL_sA, gL_sM, aI_sI, aI_sL, aI_sA, aI_sM, aL_sI, aL_sL, aL_sA, aL_sM, oi_m2]; try dsimp only
          intro p18
          intro p19
          intro p20
          refine ⟨trivial, fun w21 τ21 hq21 => ?_⟩
          obtain ⟨⟨r21, rfl⟩, hz21⟩ := hq21 (sA (sA (sA (sA (sA (sA (sI σ 42 ((gI σ 42) + 1)) 43 (upd (aI σ 43) ((gI σ 42)).toNatClampNeg (gI σ 14))) 44 (upd (aI σ 44) ((gI σ 42)).toNatClampNeg a1)) 45 (upd (aI σ 45) ((gI σ 42)).toNatClampNeg a2)) 46 (upd (aI σ 46) ((gI σ 42)).toNatClampNeg ((gI σ 36) - 1))) 47 (upd (aI σ 47) ((gI σ 42)).toNatClampNeg a3)) 48 (upd (aI σ 48) ((gI σ 42)).toNatClampNeg (-2))) K6.rf
          have hv21 := (hP.va (by assumption)).ks hz21
          dsimp only [Option.toList, List.cons_append, List.nil_append, Nat.beq, gI_sI, gI_sL, gI_sA, gI_sM, gL_sI, gL_sL, gL_sA, gL_sM, aI_sI, aI_sL, aI_sA, aI_sM, aL_sI, aL_sL, aL_sA, aL_sM]
          unfold Qv_variableJ4
          try dsimp only
          exact ⟨⟨_, rfl⟩, hv21⟩
        · refine hB _ _ _ _ _ (fun m22 hm22 => ?_)
          dsimp only [ugo, uwp, ust, uct, rfd, Bvariable, Bvariable_82, Nat.beq, lv_args, rlk, rs1, rs2, rdl, rky, rcd, rno, rsw, Value.category, List.filter, List.take, List.drop, List.reverse, List.reverseAux, List.cons_append, List.nil_append, Option.toList, Int.toNat, Int.reduceToNat, if_pos, if_neg, reduceIte, ↓reduceIte, Nat.reduceAdd, Nat.reduceEqDiff, Nat.reduceBEq, beq_self_eq_true, Bool.not_true, Bool.not_false, Bool.and_true, Bool.and_false, Bool.true_and, Bool.false_and, gI_sI, gI_sL, gI_sA, gI_sM, gL_sI, gL_sL, gL_sA, gL_sM, aI_sI, aI_sL, aI_sA, aI_sM, aL_sI, aL_sL, aL_sA, aL_sM]; try dsimp only
          refine hB _ _ _ _ _ (fun m23 hm23 => ?_)
          dsimp only [ugo, uwp, ust, uct, rfd, Bvariable, Bvariable_95, Nat.beq, lv_args, rlk, rs1, rs2, rdl, rky, rcd, rno, rsw, Value.category, List.filter, List.take, List.drop, List.reverse, List.reverseAux, List.cons_append, List.nil_append, Option.toList, Int.toNat, Int.reduceToNat, if_pos, if_neg, reduceIte, ↓reduceIte, Nat.reduceAdd, Nat.reduceEqDiff, Nat.reduceBEq, beq_self_eq_true, Bool.not_true, Bool.not_false, Bool.and_true, Bool.and_false, Bool.true_and, Bool.false_and, gI_sI, gI_sL, gI_sA, gI_sM, gL_sI, gL_sL, gL_sA, gL_sM, aI_sI, aI_sL, aI_sA, aI_sM, aL_sI, aL_sL, aL_sA, aL_sM, oi_m2]; try dsimp only
          intro p24
          intro p25
          intro p26
          refine ⟨trivial, fun w27 τ27 hq27 => ?_⟩
          obtain ⟨⟨r27, rfl⟩, hz27⟩ := hq27 (sA (sA (sA (sA (sA (sA (sI σ 42 ((gI σ 42) + 1)) 43 (upd (aI σ 43) ((gI σ 42)).toNatClampNeg (gI σ 14))) 44 (upd (aI σ 44) ((gI σ 42)).toNatClampNeg a1)) 45 (upd (aI σ 45) ((gI σ 42)).toNatClampNeg a2)) 46 (upd (aI σ 46) ((gI σ 42)).toNatClampNeg (gI σ 36))) 47 (upd (aI σ 47) ((gI σ 42)).toNatClampNeg a3)) 48 (upd (aI σ 48) ((gI σ 42)).toNatClampNeg (-2))) K6.rf
          have hv27 := (hP.va (by assumption)).ks hz27
          dsimp only [Option.toList, List.cons_append, List.nil_append, Nat.beq, gI_sI, gI_sL, gI_sA, gI_sM, gL_sI, gL_sL, gL_sA, gL_sM, aI_sI, aI_sL, aI_sA, aI_sM, aL_sI, aL_sL, aL_sA, aL_sM]
          unfold Qv_variableJ4
          try dsimp only
          exact ⟨⟨_, rfl⟩, hv27⟩
    · refine hB _ _ _ _ _ (fun m28 hm28 => ?_)
      dsimp only [ugo, uwp, ust, uct, rfd, Bvariable, Bvariable_9, Nat.beq, lv_args, rlk, rs1, rs2, rdl, rky, rcd, rno, rsw, Value.category, List.filter, List.take, List.drop, List.reverse, List.reverseAux, List.cons_append, List.nil_append, Option.toList, Int.toNat, Int.reduceToNat, if_pos, if_neg, reduceIte, ↓reduceIte, Nat.reduceAdd, Nat.reduceEqDiff, Nat.reduceBEq, beq_self_eq_true, Bool.not_true, Bool.not_false, Bool.and_true, Bool.and_false, Bool.true_and, Bool.false_and, gI_sI, gI_sL, gI_sA, gI_sM, gL_sI, gL_sL, gL_sA, gL_sM, aI_sI, aI_sL, aI_sA, aI_sM, aL_sI, aL_sL, aL_sA, aL_sM, oi_3]; try dsimp only
      refine ⟨trivial, fun w29 τ29 hq29 => ?_⟩
      obtain ⟨rfl, hz29⟩ := hq29 σ K6.rf
      have hv29 := hP.ks hz29
      dsimp only [Option.toList, List.cons_append, List.nil_append, Nat.beq, gI_sI, gI_sL, gI_sA, gI_sM, gL_sI, gL_sL, gL_sA, gL_sM, aI_sI, aI_sL, aI_sA, aI_sM, aL_sI, aL_sL, aL_sA, aL_sM]
      unfold Qv_variableJ4
      try dsimp only
      exact ⟨⟨_, rfl⟩, hv29⟩
  next => exact hP.elim
theorem w_variableJ4 : UMet 40 (fun _ _ => True) Qw_variableJ4 := fun A1 σ _ w τ h c hP => v_variableJ4 c A1 σ hP w τ h
def Pv_closeTryJ4 (c : RS) : UP1 := fun A1 σ => match A1 with
  | [.int a1, .int a2, .int a3] => J4 c σ
  | _ => False
def Qv_closeTryJ4 (c : RS) : UQ1 := fun A1 σ w τ => match A1 with
  | [.int a1, .int a2, .int a3] => (∃ r : Int32, w = some (.int r)) ∧ J4 c τ
  | _ => False
def Qw_closeTryJ4 : UQ1 := fun A1 σ w τ => ∀ (c : RS), Pv_closeTryJ4 c A1 σ → Qv_closeTryJ4 c A1 σ w τ
set_option maxRecDepth 100000 in
set_option maxHeartbeats 4000000 in
theorem v_closeTryJ4 (c : RS) : UMet 68 (Pv_closeTryJ4 c) (Qv_closeTryJ4 c) := by
  refine UMet.by BcloseTry [(13, (fun _ _ => True), Qw_cantJ4), (20, (fun _ _ => True), Qw_emitJ4), (69, (fun _ _ => True), Qw_finishedJ4), (15, (fun _ _ => True), Qw_isWordJ4), (36, (fun _ _ => True), Qw_openJ4), (17, (fun _ _ => True), Qw_takeJ4), (40, (fun _ _ => True), Qw_variableJ4), (18, (fun _ _ => True), Qw_wantJ4)] rfl (ucc w_cantJ4 (ucc w_emitJ4 (ucc w_finishedJ4 (ucc w_isWordJ4 (ucc w_openJ4 (ucc w_takeJ4 (ucc w_variableJ4 (ucc w_wantJ4 uc0)))))))) ?_
  intro A1 σ hP K hB hW
  unfold Pv_closeTryJ4 at hP
  split at hP
  next a1 a2 a3 =>
    have all : ∀ N : Nat, (∀ (x1 : Int32) (x2 : Int32) (x3 : Int32) (Y : RS), J4 c Y → K N 0 [(0, .ref 1000), (1, .int x1), (2, .int x2), (3, .int x3)] [] Y) ∧ (∀ (x1 : Int32) (x2 : Int32) (x3 : Int32) (Y : RS), J4 c Y → K N 26 [(0, .ref 1000), (1, .int x1), (2, .int x2), (3, .int x3)] [] Y) ∧ (∀ (x1 : Int32) (x2 : Int32) (x3 : Int32) (Y : RS), J4 c Y → K N 35 [(0, .ref 1000), (1, .int x1), (2, .int x2), (3, .int x3)] [] Y) ∧ (∀ (x1 : Int32) (x2 : Int32) (x3 : Int32) (Y : RS), J4 c Y → K N 59 [(0, .ref 1000), (1, .int x1), (2, .int x2), (3, .int x3)] [] Y) ∧ (∀ (x1 : Int32) (x2 : Int32) (x3 : Int32) (Y : RS), J4 c Y → K N 68 [(0, .ref 1000), (1, .int x1), (2, .int x2), (3, .int x3)] [] Y) ∧ (∀ (x1 : Int32) (x2 : Int32) (x3 : Int32) (Y : RS), J4 c Y → K N 70 [(0, .ref 1000), (1, .int x1), (2, .int x2), (3, .int x3)] [] Y) ∧ (∀ (x1 : Int32) (x2 : Int32) (x3 : Int32) (Y : RS), J4 c Y → K N 83 [(0, .ref 1000), (1, .int x1), (2, .int x2), (3, .int x3)] [] Y) ∧ (∀ (x1 : Int32) (x2 : Int32) (x3 : Int32) (Y : RS), J4 c Y → K N 88 [(0, .ref 1000), (1, .int x1), (2, .int x2), (3, .int x3)] [] Y) ∧ (∀ (x1 : Int32) (x2 : Int32) (x3 : Int32) (Y : RS), J4 c Y → K N 116 [(0, .ref 1000), (1, .int x1), (2, .int x2), (3, .int x3)] [] Y) ∧ (∀ (x1 : Int32) (x2 : Int32) (x3 : Int32) (Y : RS), J4 c Y → K N 125 [(0, .ref 1000), (1, .int x1), (2, .int x2), (3, .int x3)] [] Y) ∧ (∀ (x1 : Int32) (x2 : Int32) (x3 : Int32) (Y : RS), J4 c Y → K N 127 [(0, .ref 1000), (1, .int x1), (2, .int x2), (3, .int x3)] [] Y) ∧ (∀ (x1 : Int32) (x2 : Int32) (x3 : Int32) (Y : RS), J4 c Y → K N 136 [(0, .ref 1000), (1, .int x1), (2, .int x2), (3, .int x3)] [] Y) ∧ (∀ (x1 : Int32) (x2 : Int32) (x3 : Int32) (Y : RS), J4 c Y → K N 147 [(0, .ref 1000), (1, .int x1), (2, .int x2), (3, .int x3)] [] Y) ∧ (∀ (x1 : Int32) (x2 : Int32) (x3 : Int32) (Y : RS), J4 c Y → K N 151 [(0, .ref 1000), (1, .int x1), (2, .int x2), (3, .int x3)] [] Y) ∧ (∀ (x1 : Int32) (x2 : Int32) (x3 : Int32) (s0 : Int32) (Y : RS), J4 c Y → K N 152 [(0, .ref 1000), (1, .int x1), (2, .int x2), (3, .int x3)] [.int s0] Y) ∧ (∀ (x1 : Int32) (x2 : Int32) (x3 : Int32) (Y : RS), J4 c Y → K N 153 [(0, .ref 1000), (1, .int x1), (2, .int x2), (3, .int x3)] [] Y) ∧ (∀ (x1 : Int32) (x2 : Int32) (x3 : Int32) (Y : RS), J4 c Y → K N 159 [(0, .ref 1000), (1, .int x1), (2, .int x2), (3, .int x3)] [] Y) ∧ (∀ (x1 : Int32) (x2 : Int32) (x3 : Int32) (Y : RS), J4 c Y → K N 168 [(0, .ref 1000), (1, .int x1), (2, .int x2), (3, .int x3)] [] Y) ∧ (∀ (x1 : Int32) (x2 : Int32) (x3 : Int32) (Y : RS), J4 c Y → K N 192 [(0, .ref 1000), (1, .int x1), (2, .int x2), (3, .int x3)] [] Y) ∧ (∀ (x1 : Int32) (x2 : Int32) (x3 : Int32) (Y : RS), J4 c Y → K N 194 [(0, .ref 1000), (1, .int x1), (2, .int x2), (3, .int x3)] [] Y) ∧ (∀ (x1 : Int32) (x2 : Int32) (x3 : Int32) (Y : RS), J4 c Y → K N 203 [(0, .ref 1000), (1, .int x1), (2, .int x2), (3, .int x3)] [] Y) ∧ (∀ (x1 : Int32) (x2 : Int32) (x3 : Int32) (Y : RS), J4 c Y → K N 214 [(0, .ref 1000), (1, .int x1), (2, .int x2), (3, .int x3)] [] Y) ∧ (∀ (x1 : Int32) (x2 : Int32) (x3 : Int32) (Y : RS), J4 c Y → K N 218 [(0, .ref 1000), (1, .int x1), (2, .int x2), (3, .int x3)] [] Y) ∧ (∀ (x1 : Int32) (x2 : Int32) (x3 : Int32) (s0 : Int32) (Y : RS), J4 c Y → K N 219 [(0, .ref 1000), (1, .int x1), (2, .int x2), (3, .int x3)] [.int s0] Y) ∧ (∀ (x1 : Int32) (x2 : Int32) (x3 : Int32) (Y : RS), J4 c Y → K N 220 [(0, .ref 1000), (1, .int x1), (2, .int x2), (3, .int x3)] [] Y) ∧ (∀ (x1 : Int32) (x2 : Int32) (x3 : Int32) (Y : RS), J4 c Y → K N 226 [(0, .ref 1000), (1, .int x1), (2, .int x2), (3, .int x3)] [] Y) ∧ (∀ (x1 : Int32) (x2 : Int32) (x3 : Int32) (Y : RS), J4 c Y → K N 231 [(0, .ref 1000), (1, .int x1), (2, .int x2), (3, .int x3)] [] Y) := by
      intro N
      induction N using Nat.strongRecOn with
      | ind N ih =>
        refine ⟨?_, ?_, ?_, ?_, ?_, ?_, ?_, ?_, ?_, ?_, ?_, ?_, ?_, ?_, ?_, ?_, ?_, ?_, ?_, ?_, ?_, ?_, ?_, ?_, ?_, ?_, ?_⟩
        · intro x1 x2 x3 Y hz
          refine hB _ _ _ _ _ (fun m1 hm1 => ?_)
          dsimp only [ugo, uwp, ust, uct, rfd, BcloseTry, BcloseTry_0, Nat.beq, lv_args, rlk, rs1, rs2, rdl, rky, rcd, rno, rsw, Value.category, List.filter, List.take, List.drop, List.reverse, List.reverseAux, List.cons_append, List.nil_append, Option.toList, Int.toNat, Int.reduceToNat, if_pos, if_neg, reduceIte, ↓reduceIte, Nat.reduceAdd, Nat.reduceEqDiff, Nat.reduceBEq, beq_self_eq_true, Bool.not_true, Bool.not_false, Bool.and_true, Bool.and_false, Bool.true_and, Bool.false_and, gI_sI, gI_sL, gI_sA, gI_sM, gL_sI, gL_sL, gL_sA, gL_sM, aI_sI, aI_sL, aI_sA, aI_sM, aL_sI, aL_sL, aL_sA, aL_sM, oi_1, oi_9]; try dsimp only
          refine ⟨fun h2 => ?_, fun h2 => ?_⟩
          · exact hW _ 153 [(0, .ref 1000), (1, .int x1), (2, .int x2), (3, .int x3)] _ _ _ (by simp [rdl, rky, Value.category]) ((ih m1 hm1).2.2.2.2.2.2.2.2.2.2.2.2.2.2.2.1 x1 x2 x3 _ ((hz.i (by decide)).i (by decide)))
          · exact hW _ 26 [(0, .ref 1000), (1, .int x1), (2, .int x2), (3, .int x3)] _ _ _ (by simp [rdl, rky, Value.category]) ((ih m1 hm1).2.1 x1 x2 x3 _ ((hz.i (by decide)).i (by decide)))
        · intro x1 x2 x3 Y hz
          refine hB _ _ _ _ _ (fun m1 hm1 => ?_)
          dsimp only [ugo, uwp, ust, uct, rfd, BcloseTry, BcloseTry_26, Nat.beq, lv_args, rlk, rs1, rs2, rdl, rky, rcd, rno, rsw, Value.category, List.filter, List.take, List.drop, List.reverse, List.reverseAux, List.cons_append, List.nil_append, Option.toList, Int.toNat, Int.reduceToNat, if_pos, if_neg, reduceIte, ↓reduceIte, Nat.reduceAdd, Nat.reduceEqDiff, Nat.reduceBEq, beq_self_eq_true, Bool.not_true, Bool.not_false, Bool.and_true, Bool.and_false, Bool.true_and, Bool.false_and, gI_sI, gI_sL, gI_sA, gI_sM, gL_sI, gL_sL, gL_sA, gL_sM, aI_sI, aI_sL, aI_sA, aI_sM, aL_sI, aL_sL, aL_sA, aL_sM, oi_19]; try dsimp only
          refine ⟨trivial, fun w2 τ2 hq2 => ?_⟩
          obtain ⟨⟨r2, rfl⟩, hz2⟩ := hq2 c hz
          dsimp only [Option.toList, List.cons_append, List.nil_append, Nat.beq, gI_sI, gI_sL, gI_sA, gI_sM, gL_sI, gL_sL, gL_sA, gL_sM, aI_sI, aI_sL, aI_sA, aI_sM, aL_sI, aL_sL, aL_sA, aL_sM]
          refine ⟨fun h3 => ?_, fun h3 => ?_⟩
          · exact hW _ 153 [(0, .ref 1000), (1, .int x1), (2, .int x2), (3, .int x3)] _ _ _ (by simp [rdl, rky, Value.category]) ((ih m1 hm1).2.2.2.2.2.2.2.2.2.2.2.2.2.2.2.1 x1 x2 x3 _ hz2)
          · exact hW _ 35 [(0, .ref 1000), (1, .int x1), (2, .int x2), (3, .int x3)] _ _ _ (by simp [rdl, rky, Value.category]) ((ih m1 hm1).2.2.1 x1 x2 x3 _ hz2)
        · intro x1 x2 x3 Y hz
          refine hB _ _ _ _ _ (fun m1 hm1 => ?_)
          dsimp only [ugo, uwp, ust, uct, rfd, BcloseTry, BcloseTry_35, Nat.beq, lv_args, rlk, rs1, rs2, rdl, rky, rcd, rno, rsw, Value.category, List.filter, List.take, List.drop, List.reverse, List.reverseAux, List.cons_append, List.nil_append, Option.toList, Int.toNat, Int.reduceToNat, if_pos, if_neg, reduceIte, ↓reduceIte, Nat.reduceAdd, Nat.reduceEqDiff, Nat.reduceBEq, beq_self_eq_true, Bool.not_true, Bool.not_false, Bool.and_true, Bool.and_false, Bool.true_and, Bool.false_and, gI_sI, gI_sL, gI_sA, gI_sM, gL_sI, gL_sL, gL_sA, gL_sM, aI_sI, aI_sL, aI_sA, aI_sM, aL_sI, aL_sL, aL_sA, aL_sM, oi_51]; try dsimp only
          refine ⟨trivial, fun w2 τ2 hq2 => ?_⟩
          obtain ⟨⟨r2, rfl⟩, hz2⟩ := hq2 c hz
          dsimp only [Option.toList, List.cons_append, List.nil_append, Nat.beq, gI_sI, gI_sL, gI_sA, gI_sM, gL_sI, gL_sL, gL_sA, gL_sM, aI_sI, aI_sL, aI_sA, aI_sM, aL_sI, aL_sL, aL_sA, aL_sM]
          intro p3
          refine ⟨trivial, fun w4 τ4 hq4 => ?_⟩
          obtain ⟨⟨r4, rfl⟩, hz4⟩ := hq4 c (hz2.a (by decide))
          dsimp only [Option.toList, List.cons_append, List.nil_append, Nat.beq, gI_sI, gI_sL, gI_sA, gI_sM, gL_sI, gL_sL, gL_sA, gL_sM, aI_sI, aI_sL, aI_sA, aI_sM, aL_sI, aL_sL, aL_sA, aL_sM]
          refine ⟨fun h5 => ?_, fun h5 => ?_⟩
          · exact hW _ 68 [(0, .ref 1000), (1, .int x1), (2, .int x2), (3, .int x3)] _ _ _ (by simp [rdl, rky, Value.category]) ((ih m1 hm1).2.2.2.2.1 x1 x2 x3 _ hz4)
          · exact hW _ 59 [(0, .ref 1000), (1, .int x1), (2, .int x2), (3, .int x3)] _ _ _ (by simp [rdl, rky, Value.category]) ((ih m1 hm1).2.2.2.1 x1 x2 x3 _ hz4)
        · intro x1 x2 x3 Y hz
          refine hB _ _ _ _ _ (fun m1 hm1 => ?_)
          dsimp only [ugo, uwp, ust, uct, rfd, BcloseTry, BcloseTry_59, Nat.beq, lv_args, rlk, rs1, rs2, rdl, rky, rcd, rno, rsw, Value.category, List.filter, List.take, List.drop, List.reverse, List.reverseAux, List.cons_append, List.nil_append, Option.toList, Int.toNat, Int.reduceToNat, if_pos, if_neg, reduceIte, ↓reduceIte, Nat.reduceAdd, Nat.reduceEqDiff, Nat.reduceBEq, beq_self_eq_true, Bool.not_true, Bool.not_false, Bool.and_true, Bool.and_false, Bool.true_and, Bool.false_and, gI_sI, gI_sL, gI_sA, gI_sM, gL_sI, gL_sL, gL_sA, gL_sM, aI_sI, aI_sL, aI_sA, aI_sM, aL_sI, aL_sL, aL_sA, aL_sM, oi_40]; try dsimp only
          refine ⟨trivial, fun w2 τ2 hq2 => ?_⟩
          obtain ⟨⟨r2, rfl⟩, hz2⟩ := hq2 c hz
          dsimp only [Option.toList, List.cons_append, List.nil_append, Nat.beq, gI_sI, gI_sL, gI_sA, gI_sM, gL_sI, gL_sL, gL_sA, gL_sM, aI_sI, aI_sL, aI_sA, aI_sM, aL_sI, aL_sL, aL_sA, aL_sM]
          refine ⟨fun h3 => ?_, fun h3 => ?_⟩
          · exact hW _ 70 [(0, .ref 1000), (1, .int x1), (2, .int x2), (3, .int x3)] _ _ _ (by simp [rdl, rky, Value.category]) ((ih m1 hm1).2.2.2.2.2.1 x1 x2 x3 _ hz2)
          · exact hW _ 68 [(0, .ref 1000), (1, .int x1), (2, .int x2), (3, .int x3)] _ _ _ (by simp [rdl, rky, Value.category]) ((ih m1 hm1).2.2.2.2.1 x1 x2 x3 _ hz2)
        · intro x1 x2 x3 Y hz
          refine hB _ _ _ _ _ (fun m1 hm1 => ?_)
          dsimp only [ugo, uwp, ust, uct, rfd, BcloseTry, BcloseTry_68, Nat.beq, lv_args, rlk, rs1, rs2, rdl, rky, rcd, rno, rsw, Value.category, List.filter, List.take, List.drop, List.reverse, List.reverseAux, List.cons_append, List.nil_append, Option.toList, Int.toNat, Int.reduceToNat, if_pos, if_neg, reduceIte, ↓reduceIte, Nat.reduceAdd, Nat.reduceEqDiff, Nat.reduceBEq, beq_self_eq_true, Bool.not_true, Bool.not_false, Bool.and_true, Bool.and_false, Bool.true_and, Bool.false_and, gI_sI, gI_sL, gI_sA, gI_sM, gL_sI, gL_sL, gL_sA, gL_sM, aI_sI, aI_sL, aI_sA, aI_sM, aL_sI, aL_sL, aL_sA, aL_sM, oi_0]; try dsimp only
          unfold Qv_closeTryJ4
          try dsimp only
          exact ⟨⟨_, rfl⟩, hz⟩
        · intro x1 x2 x3 Y hz
          refine hB _ _ _ _ _ (fun m1 hm1 => ?_)
          dsimp only [ugo, uwp, ust, uct, rfd, BcloseTry, BcloseTry_70, Nat.beq, lv_args, rlk, rs1, rs2, rdl, rky, rcd, rno, rsw, Value.category, List.filter, List.take, List.drop, List.reverse, List.reverseAux, List.cons_append, List.nil_append, Option.toList, Int.toNat, Int.reduceToNat, if_pos, if_neg, reduceIte, ↓reduceIte, Nat.reduceAdd, Nat.reduceEqDiff, Nat.reduceBEq, beq_self_eq_true, Bool.not_true, Bool.not_false, Bool.and_true, Bool.and_false, Bool.true_and, Bool.false_and, gI_sI, gI_sL, gI_sA, gI_sM, gL_sI, gL_sL, gL_sA, gL_sM, aI_sI, aI_sL, aI_sA, aI_sM, aL_sI, aL_sL, aL_sA, aL_sM, oi_1]; try dsimp only
          intro p2
          refine ⟨fun h3 => ?_, fun h3 => ?_⟩
          · exact hW _ 88 [(0, .ref 1000), (1, .int x1), (2, .int x2), (3, .int x3)] _ _ _ (by simp [rdl, rky, Value.category]) ((ih m1 hm1).2.2.2.2.2.2.2.1 x1 x2 x3 _ hz)
          · exact hW _ 83 [(0, .ref 1000), (1, .int x1), (2, .int x2), (3, .int x3)] _ _ _ (by simp [rdl, rky, Value.category]) ((ih m1 hm1).2.2.2.2.2.2.1 x1 x2 x3 _ hz)
        · intro x1 x2 x3 Y hz
          refine hB _ _ _ _ _ (fun m1 hm1 => ?_)
          dsimp only [ugo, uwp, ust, uct, rfd, BcloseTry, BcloseTry_83, Nat.beq, lv_args, rlk, rs1, rs2, rdl, rky, rcd, rno, rsw, Value.category, List.filter, List.take, List.drop, List.reverse, List.reverseAux, List.cons_append, List.nil_append, Option.toList, Int.toNat, Int.reduceToNat, if_pos, if_neg, reduceIte, ↓reduceIte, Nat.reduceAdd, Nat.reduceEqDiff, Nat.reduceBEq, beq_self_eq_true, Bool.not_true, Bool.not_false, Bool.and_true, Bool.and_false, Bool.true_and, Bool.false_and, gI_sI, gI_sL, gI_sA, gI_sM, gL_sI, gL_sL, gL_sA, gL_sM, aI_sI, aI_sL, aI_sA, aI_sM, aL_sI, aL_sL, aL_sA, aL_sM]; try dsimp only
          refine ⟨trivial, fun w2 τ2 hq2 => ?_⟩
          obtain ⟨rfl, hz2⟩ := hq2 c hz
          dsimp only [Option.toList, List.cons_append, List.nil_append, Nat.beq, gI_sI, gI_sL, gI_sA, gI_sM, gL_sI, gL_sL, gL_sA, gL_sM, aI_sI, aI_sL, aI_sA, aI_sM, aL_sI, aL_sL, aL_sA, aL_sM]
          unfold Qv_closeTryJ4
          try dsimp only
          exact ⟨⟨_, rfl⟩, hz2⟩
        · intro x1 x2 x3 Y hz
          refine hB _ _ _ _ _ (fun m1 hm1 => ?_)
          dsimp only [ugo, uwp, ust, uct, rfd, BcloseTry, BcloseTry_88, Nat.beq, lv_args, rlk, rs1, rs2, rdl, rky, rcd, rno, rsw, Value.category, List.filter, List.take, List.drop, List.reverse, List.reverseAux, List.cons_append, List.nil_append, Option.toList, Int.toNat, Int.reduceToNat, if_pos, if_neg, reduceIte, ↓reduceIte, Nat.reduceAdd, Nat.reduceEqDiff, Nat.reduceBEq, beq_self_eq_true, Bool.not_true, Bool.not_false, Bool.and_true, Bool.and_false, Bool.true_and, Bool.false_and, gI_sI, gI_sL, gI_sA, gI_sM, gL_sI, gL_sL, gL_sA, gL_sM, aI_sI, aI_sL, aI_sA, aI_sM, aL_sI, aL_sL, aL_sA, aL_sM, oi_0, oi_1, oi_1000, oi_3]; try dsimp only
          intro p2
          refine ⟨trivial, fun w3 τ3 hq3 => ?_⟩
          obtain ⟨⟨r3, rfl⟩, hz3⟩ := hq3 c (hz.a (by decide))
          dsimp only [Option.toList, List.cons_append, List.nil_append, Nat.beq, gI_sI, gI_sL, gI_sA, gI_sM, gL_sI, gL_sL, gL_sA, gL_sM, aI_sI, aI_sL, aI_sA, aI_sM, aL_sI, aL_sL, aL_sA, aL_sM]
          refine ⟨fun h4 => ?_, fun h4 => ?_⟩
          · exact hW _ 125 [(0, .ref 1000), (1, .int x1), (2, .int x2), (3, .int x3)] _ _ _ (by simp [rdl, rky, Value.category]) ((ih m1 hm1).2.2.2.2.2.2.2.2.2.1 x1 x2 x3 _ hz3)
          · exact hW _ 116 [(0, .ref 1000), (1, .int x1), (2, .int x2), (3, .int x3)] _ _ _ (by simp [rdl, rky, Value.category]) ((ih m1 hm1).2.2.2.2.2.2.2.2.1 x1 x2 x3 _ hz3)
        · intro x1 x2 x3 Y hz
          refine hB _ _ _ _ _ (fun m1 hm1 => ?_)
          dsimp only [ugo, uwp, ust, uct, rfd, BcloseTry, BcloseTry_116, Nat.beq, lv_args, rlk, rs1, rs2, rdl, rky, rcd, rno, rsw, Value.category, List.filter, List.take, List.drop, List.reverse, List.reverseAux, List.cons_append, List.nil_append, Option.toList, Int.toNat, Int.reduceToNat, if_pos, if_neg, reduceIte, ↓reduceIte, Nat.reduceAdd, Nat.reduceEqDiff, Nat.reduceBEq, beq_self_eq_true, Bool.not_true, Bool.not_false, Bool.and_true, Bool.and_false, Bool.true_and, Bool.false_and, gI_sI, gI_sL, gI_sA, gI_sM, gL_sI, gL_sL, gL_sA, gL_sM, aI_sI, aI_sL, aI_sA, aI_sM, aL_sI, aL_sL, aL_sA, aL_sM, oi_41]; try dsimp only
          refine ⟨trivial, fun w2 τ2 hq2 => ?_⟩
          obtain ⟨⟨r2, rfl⟩, hz2⟩ := hq2 c hz
          dsimp only [Option.toList, List.cons_append, List.nil_append, Nat.beq, gI_sI, gI_sL, gI_sA, gI_sM, gL_sI, gL_sL, gL_sA, gL_sM, aI_sI, aI_sL, aI_sA, aI_sM, aL_sI, aL_sL, aL_sA, aL_sM]
          refine ⟨fun h3 => ?_, fun h3 => ?_⟩
          · exact hW _ 127 [(0, .ref 1000), (1, .int x1), (2, .int x2), (3, .int x3)] _ _ _ (by simp [rdl, rky, Value.category]) ((ih m1 hm1).2.2.2.2.2.2.2.2.2.2.1 x1 x2 x3 _ hz2)
          · exact hW _ 125 [(0, .ref 1000), (1, .int x1), (2, .int x2), (3, .int x3)] _ _ _ (by simp [rdl, rky, Value.category]) ((ih m1 hm1).2.2.2.2.2.2.2.2.2.1 x1 x2 x3 _ hz2)
        · intro x1 x2 x3 Y hz
          refine hB _ _ _ _ _ (fun m1 hm1 => ?_)
          dsimp only [ugo, uwp, ust, uct, rfd, BcloseTry, BcloseTry_125, Nat.beq, lv_args, rlk, rs1, rs2, rdl, rky, rcd, rno, rsw, Value.category, List.filter, List.take, List.drop, List.reverse, List.reverseAux, List.cons_append, List.nil_append, Option.toList, Int.toNat, Int.reduceToNat, if_pos, if_neg, reduceIte, ↓reduceIte, Nat.reduceAdd, Nat.reduceEqDiff, Nat.reduceBEq, beq_self_eq_true, Bool.not_true, Bool.not_false, Bool.and_true, Bool.and_false, Bool.true_and, Bool.false_and, gI_sI, gI_sL, gI_sA, gI_sM, gL_sI, gL_sL, gL_sA, gL_sM, aI_sI, aI_sL, aI_sA, aI_sM, aL_sI, aL_sL, aL_sA, aL_sM, oi_0]; try dsimp only
          unfold Qv_closeTryJ4
          try dsimp only
          exact ⟨⟨_, rfl⟩, hz⟩
        · intro x1 x2 x3 Y hz
          refine hB _ _ _ _ _ (fun m1 hm1 => ?_)
          dsimp only [ugo, uwp, ust, uct, rfd, BcloseTry, BcloseTry_127, Nat.beq, lv_args, rlk, rs1, rs2, rdl, rky, rcd, rno, rsw, Value.category, List.filter, List.take, List.drop, List.reverse, List.reverseAux, List.cons_append, List.nil_append, Option.toList, Int.toNat, Int.reduceToNat, if_pos, if_neg, reduceIte, ↓reduceIte, Nat.reduceAdd, Nat.reduceEqDiff, Nat.reduceBEq, beq_self_eq_true, Bool.not_true, Bool.not_false, Bool.and_true, Bool.and_false, Bool.true_and, Bool.false_and, gI_sI, gI_sL, gI_sA, gI_sM, gL_sI, gL_sL, gL_sA, gL_sM, aI_sI, aI_sL, aI_sA, aI_sM, aL_sI, aL_sL, aL_sA, aL_sM, oi_123]; try dsimp only
          refine ⟨trivial, fun w2 τ2 hq2 => ?_⟩
          obtain ⟨⟨r2, rfl⟩, hz2⟩ := hq2 c hz
          dsimp only [Option.toList, List.cons_append, List.nil_append, Nat.beq, gI_sI, gI_sL, gI_sA, gI_sM, gL_sI, gL_sL, gL_sA, gL_sM, aI_sI, aI_sL, aI_sA, aI_sM, aL_sI, aL_sL, aL_sA, aL_sM]
          refine ⟨fun h3 => ?_, fun h3 => ?_⟩
          · exact hW _ 151 [(0, .ref 1000), (1, .int x1), (2, .int x2), (3, .int x3)] _ _ _ (by simp [rdl, rky, Value.category]) ((ih m1 hm1).2.2.2.2.2.2.2.2.2.2.2.2.2.1 x1 x2 x3 _ hz2)
          · exact hW _ 136 [(0, .ref 1000), (1, .int x1), (2, .int x2), (3, .int x3)] _ _ _ (by simp [rdl, rky, Value.category]) ((ih m1 hm1).2.2.2.2.2.2.2.2.2.2.2.1 x1 x2 x3 _ hz2)
        · intro x1 x2 x3 Y hz
          refine hB _ _ _ _ _ (fun m1 hm1 => ?_)
          dsimp only [ugo, uwp, ust, uct, rfd, BcloseTry, BcloseTry_136, Nat.beq, lv_args, rlk, rs1, rs2, rdl, rky, rcd, rno, rsw, Value.category, List.filter, List.take, List.drop, List.reverse, List.reverseAux, List.cons_append, List.nil_append, Option.toList, Int.toNat, Int.reduceToNat, if_pos, if_neg, reduceIte, ↓reduceIte, Nat.reduceAdd, Nat.reduceEqDiff, Nat.reduceBEq, beq_self_eq_true, Bool.not_true, Bool.not_false, Bool.and_true, Bool.and_false, Bool.true_and, Bool.false_and, gI_sI, gI_sL, gI_sA, gI_sM, gL_sI, gL_sL, gL_sA, gL_sM, aI_sI, aI_sL, aI_sA, aI_sM, aL_sI, aL_sL, aL_sA, aL_sM, oi_10]; try dsimp only
          refine ⟨trivial, fun w2 τ2 hq2 => ?_⟩
          obtain ⟨⟨r2, rfl⟩, hz2⟩ := hq2 c hz
          dsimp only [Option.toList, List.cons_append, List.nil_append, Nat.beq, gI_sI, gI_sL, gI_sA, gI_sM, gL_sI, gL_sL, gL_sA, gL_sM, aI_sI, aI_sL, aI_sA, aI_sM, aL_sI, aL_sL, aL_sA, aL_sM]
          refine ⟨fun h3 => ?_, fun h3 => ?_⟩
          · exact hW _ 151 [(0, .ref 1000), (1, .int x1), (2, .int x2), (3, .int x3)] _ _ _ (by simp [rdl, rky, Value.category]) ((ih m1 hm1).2.2.2.2.2.2.2.2.2.2.2.2.2.1 x1 x2 x3 _ hz2)
          · exact hW _ 147 [(0, .ref 1000), (1, .int x1), (2, .int x2), (3, .int x3)] _ _ _ (by simp [rdl, rky, Value.category]) ((ih m1 hm1).2.2.2.2.2.2.2.2.2.2.2.2.1 x1 x2 x3 _ hz2)
        · intro x1 x2 x3 Y hz
          refine hB _ _ _ _ _ (fun m1 hm1 => ?_)
          dsimp only [ugo, uwp, ust, uct, rfd, BcloseTry, BcloseTry_147, Nat.beq, lv_args, rlk, rs1, rs2, rdl, rky, rcd, rno, rsw, Value.category, List.filter, List.take, List.drop, List.reverse, List.reverseAux, List.cons_append, List.nil_append, Option.toList, Int.toNat, Int.reduceToNat, if_pos, if_neg, reduceIte, ↓reduceIte, Nat.reduceAdd, Nat.reduceEqDiff, Nat.reduceBEq, beq_self_eq_true, Bool.not_true, Bool.not_false, Bool.and_true, Bool.and_false, Bool.true_and, Bool.false_and, gI_sI, gI_sL, gI_sA, gI_sM, gL_sI, gL_sL, gL_sA, gL_sM, aI_sI, aI_sL, aI_sA, aI_sM, aL_sI, aL_sL, aL_sA, aL_sM, oi_1]; try dsimp only
          exact hW _ 152 [(0, .ref 1000), (1, .int x1), (2, .int x2), (3, .int x3)] _ _ _ (by simp [rdl, rky, Value.category]) ((ih m1 hm1).2.2.2.2.2.2.2.2.2.2.2.2.2.2.1 x1 x2 x3 1 _ hz)
        · intro x1 x2 x3 Y hz
          refine hB _ _ _ _ _ (fun m1 hm1 => ?_)
          dsimp only [ugo, uwp, ust, uct, rfd, BcloseTry, BcloseTry_151, Nat.beq, lv_args, rlk, rs1, rs2, rdl, rky, rcd, rno, rsw, Value.category, List.filter, List.take, List.drop, List.reverse, List.reverseAux, List.cons_append, List.nil_append, Option.toList, Int.toNat, Int.reduceToNat, if_pos, if_neg, reduceIte, ↓reduceIte, Nat.reduceAdd, Nat.reduceEqDiff, Nat.reduceBEq, beq_self_eq_true, Bool.not_true, Bool.not_false, Bool.and_true, Bool.and_false, Bool.true_and, Bool.false_and, gI_sI, gI_sL, gI_sA, gI_sM, gL_sI, gL_sL, gL_sA, gL_sM, aI_sI, aI_sL, aI_sA, aI_sM, aL_sI, aL_sL, aL_sA, aL_sM, oi_0]; try dsimp only
          exact hW _ 152 [(0, .ref 1000), (1, .int x1), (2, .int x2), (3, .int x3)] _ _ _ (by simp [rdl, rky, Value.category]) ((ih m1 hm1).2.2.2.2.2.2.2.2.2.2.2.2.2.2.1 x1 x2 x3 0 _ hz)
        · intro x1 x2 x3 s0 Y hz
          refine hB _ _ _ _ _ (fun m1 hm1 => ?_)
          dsimp only [ugo, uwp, ust, uct, rfd, BcloseTry, BcloseTry_152, Nat.beq, lv_args, rlk, rs1, rs2, rdl, rky, rcd, rno, rsw, Value.category, List.filter, List.take, List.drop, List.reverse, List.reverseAux, List.cons_append, List.nil_append, Option.toList, Int.toNat, Int.reduceToNat, if_pos, if_neg, reduceIte, ↓reduceIte, Nat.reduceAdd, Nat.reduceEqDiff, Nat.reduceBEq, beq_self_eq_true, Bool.not_true, Bool.not_false, Bool.and_true, Bool.and_false, Bool.true_and, Bool.false_and, gI_sI, gI_sL, gI_sA, gI_sM, gL_sI, gL_sL, gL_sA, gL_sM, aI_sI, aI_sL, aI_sA, aI_sM, aL_sI, aL_sL, aL_sA, aL_sM]; try dsimp only
          unfold Qv_closeTryJ4
          try dsimp only
          exact ⟨⟨_, rfl⟩, hz⟩
        · intro x1 x2 x3 Y hz
          refine hB _ _ _ _ _ (fun m1 hm1 => ?_)
          dsimp only [ugo, uwp, ust, uct, rfd, BcloseTry, BcloseTry_153, Nat.beq, lv_args, rlk, rs1, rs2, rdl, rky, rcd, rno, rsw, Value.category, List.filter, List.take, List.drop, List.reverse, List.reverseAux, List.cons_append, List.nil_append, Option.toList, Int.toNat, Int.reduceToNat, if_pos, if_neg, reduceIte, ↓reduceIte, Nat.reduceAdd, Nat.reduceEqDiff, Nat.reduceBEq, beq_self_eq_true, Bool.not_true, Bool.not_false, Bool.and_true, Bool.and_false, Bool.true_and, Bool.false_and, gI_sI, gI_sL, gI_sA, gI_sM, gL_sI, gL_sL, gL_sA, gL_sM, aI_sI, aI_sL, aI_sA, aI_sM, aL_sI, aL_sL, aL_sA, aL_sM, oi_11]; try dsimp only
          refine ⟨fun h2 => ?_, fun h2 => ?_⟩
          · exact hW _ 220 [(0, .ref 1000), (1, .int x1), (2, .int x2), (3, .int x3)] _ _ _ (by simp [rdl, rky, Value.category]) ((ih m1 hm1).2.2.2.2.2.2.2.2.2.2.2.2.2.2.2.2.2.2.2.2.2.2.2.2.1 x1 x2 x3 _ hz)
          · exact hW _ 159 [(0, .ref 1000), (1, .int x1), (2, .int x2), (3, .int x3)] _ _ _ (by simp [rdl, rky, Value.category]) ((ih m1 hm1).2.2.2.2.2.2.2.2.2.2.2.2.2.2.2.2.1 x1 x2 x3 _ hz)
        · intro x1 x2 x3 Y hz
          refine hB _ _ _ _ _ (fun m1 hm1 => ?_)
          dsimp only [ugo, uwp, ust, uct, rfd, BcloseTry, BcloseTry_159, Nat.beq, lv_args, rlk, rs1, rs2, rdl, rky, rcd, rno, rsw, Value.category, List.filter, List.take, List.drop, List.reverse, List.reverseAux, List.cons_append, List.nil_append, Option.toList, Int.toNat, Int.reduceToNat, if_pos, if_neg, reduceIte, ↓reduceIte, Nat.reduceAdd, Nat.reduceEqDiff, Nat.reduceBEq, beq_self_eq_true, Bool.not_true, Bool.not_false, Bool.and_true, Bool.and_false, Bool.true_and, Bool.false_and, gI_sI, gI_sL, gI_sA, gI_sM, gL_sI, gL_sL, gL_sA, gL_sM, aI_sI, aI_sL, aI_sA, aI_sM, aL_sI, aL_sL, aL_sA, aL_sM, oi_20]; try dsimp only
          refine ⟨trivial, fun w2 τ2 hq2 => ?_⟩
          obtain ⟨⟨r2, rfl⟩, hz2⟩ := hq2 c hz
          dsimp only [Option.toList, List.cons_append, List.nil_append, Nat.beq, gI_sI, gI_sL, gI_sA, gI_sM, gL_sI, gL_sL, gL_sA, gL_sM, aI_sI, aI_sL, aI_sA, aI_sM, aL_sI, aL_sL, aL_sA, aL_sM]
          refine ⟨fun h3 => ?_, fun h3 => ?_⟩
          · exact hW _ 220 [(0, .ref 1000), (1, .int x1), (2, .int x2), (3, .int x3)] _ _ _ (by simp [rdl, rky, Value.category]) ((ih m1 hm1).2.2.2.2.2.2.2.2.2.2.2.2.2.2.2.2.2.2.2.2.2.2.2.2.1 x1 x2 x3 _ hz2)
          · exact hW _ 168 [(0, .ref 1000), (1, .int x1), (2, .int x2), (3, .int x3)] _ _ _ (by simp [rdl, rky, Value.category]) ((ih m1 hm1).2.2.2.2.2.2.2.2.2.2.2.2.2.2.2.2.2.1 x1 x2 x3 _ hz2)
        · intro x1 x2 x3 Y hz
          refine hB _ _ _ _ _ (fun m1 hm1 => ?_)
          dsimp only [ugo, uwp, ust, uct, rfd, BcloseTry, BcloseTry_168, Nat.beq, lv_args, rlk, rs1, rs2, rdl, rky, rcd, rno, rsw, Value.category, List.filter, List.take, List.drop, List.reverse, List.reverseAux, List.cons_append, List.nil_append, Option.toList, Int.toNat, Int.reduceToNat, if_pos, if_neg, reduceIte, ↓reduceIte, Nat.reduceAdd, Nat.reduceEqDiff, Nat.reduceBEq, beq_self_eq_true, Bool.not_true, Bool.not_false, Bool.and_true, Bool.and_false, Bool.true_and, Bool.false_and, gI_sI, gI_sL, gI_sA, gI_sM, gL_sI, gL_sL, gL_sA, gL_sM, aI_sI, aI_sL, aI_sA, aI_sM, aL_sI, aL_sL, aL_sA, aL_sM, oi_52]; try dsimp only
          refine ⟨trivial, fun w2 τ2 hq2 => ?_⟩
          obtain ⟨⟨r2, rfl⟩, hz2⟩ := hq2 c hz
          dsimp only [Option.toList, List.cons_append, List.nil_append, Nat.beq, gI_sI, gI_sL, gI_sA, gI_sM, gL_sI, gL_sL, gL_sA, gL_sM, aI_sI, aI_sL, aI_sA, aI_sM, aL_sI, aL_sL, aL_sA, aL_sM]
          intro p3
          refine ⟨trivial, fun w4 τ4 hq4 => ?_⟩
          obtain ⟨⟨r4, rfl⟩, hz4⟩ := hq4 c (hz2.a (by decide))
          dsimp only [Option.toList, List.cons_append, List.nil_append, Nat.beq, gI_sI, gI_sL, gI_sA, gI_sM, gL_sI, gL_sL, gL_sA, gL_sM, aI_sI, aI_sL, aI_sA, aI_sM, aL_sI, aL_sL, aL_sA, aL_sM]
          refine ⟨fun h5 => ?_, fun h5 => ?_⟩
          · exact hW _ 194 [(0, .ref 1000), (1, .int x1), (2, .int x2), (3, .int x3)] _ _ _ (by simp [rdl, rky, Value.category]) ((ih m1 hm1).2.2.2.2.2.2.2.2.2.2.2.2.2.2.2.2.2.2.2.1 x1 x2 x3 _ hz4)
          · exact hW _ 192 [(0, .ref 1000), (1, .int x1), (2, .int x2), (3, .int x3)] _ _ _ (by simp [rdl, rky, Value.category]) ((ih m1 hm1).2.2.2.2.2.2.2.2.2.2.2.2.2.2.2.2.2.2.1 x1 x2 x3 _ hz4)
        · intro x1 x2 x3 Y hz
          refine hB _ _ _ _ _ (fun m1 hm1 => ?_)
          dsimp only [ugo, uwp, ust, uct, rfd, BcloseTry, BcloseTry_192, Nat.beq, lv_args, rlk, rs1, rs2, rdl, rky, rcd, rno, rsw, Value.category, List.filter, List.take, List.drop, List.reverse, List.reverseAux, List.cons_append, List.nil_append, Option.toList, Int.toNat, Int.reduceToNat, if_pos, if_neg, reduceIte, ↓reduceIte, Nat.reduceAdd, Nat.reduceEqDiff, Nat.reduceBEq, beq_self_eq_true, Bool.not_true, Bool.not_false, Bool.and_true, Bool.and_false, Bool.true_and, Bool.false_and, gI_sI, gI_sL, gI_sA, gI_sM, gL_sI, gL_sL, gL_sA, gL_sM, aI_sI, aI_sL, aI_sA, aI_sM, aL_sI, aL_sL, aL_sA, aL_sM, oi_0]; try dsimp only
          unfold Qv_closeTryJ4
          try dsimp only
          exact ⟨⟨_, rfl⟩, hz⟩
        · intro x1 x2 x3 Y hz
          refine hB _ _ _ _ _ (fun m1 hm1 => ?_)
          dsimp only [ugo, uwp, ust, uct, rfd, BcloseTry, BcloseTry_194, Nat.beq, lv_args, rlk, rs1, rs2, rdl, rky, rcd, rno, rsw, Value.category, List.filter, List.take, List.drop, List.reverse, List.reverseAux, List.cons_append, List.nil_append, Option.toList, Int.toNat, Int.reduceToNat, if_pos, if_neg, reduceIte, ↓reduceIte, Nat.reduceAdd, Nat.reduceEqDiff, Nat.reduceBEq, beq_self_eq_true, Bool.not_true, Bool.not_false, Bool.and_true, Bool.and_false, Bool.true_and, Bool.false_and, gI_sI, gI_sL, gI_sA, gI_sM, gL_sI, gL_sL, gL_sA, gL_sM, aI_sI, aI_sL, aI_sA, aI_sM, aL_sI, aL_sL, aL_sA, aL_sM, oi_123]; try dsimp only
          refine ⟨trivial, fun w2 τ2 hq2 => ?_⟩
          obtain ⟨⟨r2, rfl⟩, hz2⟩ := hq2 c hz
          dsimp only [Option.toList, List.cons_append, List.nil_append, Nat.beq, gI_sI, gI_sL, gI_sA, gI_sM, gL_sI, gL_sL, gL_sA, gL_sM, aI_sI, aI_sL, aI_sA, aI_sM, aL_sI, aL_sL, aL_sA, aL_sM]
          refine ⟨fun h3 => ?_, fun h3 => ?_⟩
          · exact hW _ 218 [(0, .ref 1000), (1, .int x1), (2, .int x2), (3, .int x3)] _ _ _ (by simp [rdl, rky, Value.category]) ((ih m1 hm1).2.2.2.2.2.2.2.2.2.2.2.2.2.2.2.2.2.2.2.2.2.2.1 x1 x2 x3 _ hz2)
          · exact hW _ 203 [(0, .ref 1000), (1, .int x1), (2, .int x2), (3, .int x3)] _ _ _ (by simp [rdl, rky, Value.category]) ((ih m1 hm1).2.2.2.2.2.2.2.2.2.2.2.2.2.2.2.2.2.2.2.2.1 x1 x2 x3 _ hz2)
        · intro x1 x2 x3 Y hz
          refine hB _ _ _ _ _ (fun m1 hm1 => ?_)
          dsimp only [ugo, uwp, ust, uct, rfd, BcloseTry, BcloseTry_203, Nat.beq, lv_args, rlk, rs1, rs2, rdl, rky, rcd, rno, rsw, Value.category, List.filter, List.take, List.drop, List.reverse, List.reverseAux, List.cons_append, List.nil_append, Option.toList, Int.toNat, Int.reduceToNat, if_pos, if_neg, reduceIte, ↓reduceIte, Nat.reduceAdd, Nat.reduceEqDiff, Nat.reduceBEq, beq_self_eq_true, Bool.not_true, Bool.not_false, Bool.and_true, Bool.and_false, Bool.true_and, Bool.false_and, gI_sI, gI_sL, gI_sA, gI_sM, gL_sI, gL_sL, gL_sA, gL_sM, aI_sI, aI_sL, aI_sA, aI_sM, aL_sI, aL_sL, aL_sA, aL_sM, oi_11]; try dsimp only
          refine ⟨trivial, fun w2 τ2 hq2 => ?_⟩
          obtain ⟨⟨r2, rfl⟩, hz2⟩ := hq2 c hz
          dsimp only [Option.toList, List.cons_append, List.nil_append, Nat.beq, gI_sI, gI_sL, gI_sA, gI_sM, gL_sI, gL_sL, gL_sA, gL_sM, aI_sI, aI_sL, aI_sA, aI_sM, aL_sI, aL_sL, aL_sA, aL_sM]
          refine ⟨fun h3 => ?_, fun h3 => ?_⟩
          · exact hW _ 218 [(0, .ref 1000), (1, .int x1), (2, .int x2), (3, .int x3)] _ _ _ (by simp [rdl, rky, Value.category]) ((ih m1 hm1).2.2.2.2.2.2.2.2.2.2.2.2.2.2.2.2.2.2.2.2.2.2.1 x1 x2 x3 _ hz2)
          · exact hW _ 214 [(0, .ref 1000), (1, .int x1), (2, .int x2), (3, .int x3)] _ _ _ (by simp [rdl, rky, Value.category]) ((ih m1 hm1).2.2.2.2.2.2.2.2.2.2.2.2.2.2.2.2.2.2.2.2.2.1 x1 x2 x3 _ hz2)
        · intro x1 x2 x3 Y hz
          refine hB _ _ _ _ _ (fun m1 hm1 => ?_)
          dsimp only [ugo, uwp, ust, uct, rfd, BcloseTry, BcloseTry_214, Nat.beq, lv_args, rlk, rs1, rs2, rdl, rky, rcd, rno, rsw, Value.category, List.filter, List.take, List.drop, List.reverse, List.reverseAux, List.cons_append, List.nil_append, Option.toList, Int.toNat, Int.reduceToNat, if_pos, if_neg, reduceIte, ↓reduceIte, Nat.reduceAdd, Nat.reduceEqDiff, Nat.reduceBEq, beq_self_eq_true, Bool.not_true, Bool.not_false, Bool.and_true, Bool.and_false, Bool.true_and, Bool.false_and, gI_sI, gI_sL, gI_sA, gI_sM, gL_sI, gL_sL, gL_sA, gL_sM, aI_sI, aI_sL, aI_sA, aI_sM, aL_sI, aL_sL, aL_sA, aL_sM, oi_1]; try dsimp only
          exact hW _ 219 [(0, .ref 1000), (1, .int x1), (2, .int x2), (3, .int x3)] _ _ _ (by simp [rdl, rky, Value.category]) ((ih m1 hm1).2.2.2.2.2.2.2.2.2.2.2.2.2.2.2.2.2.2.2.2.2.2.2.1 x1 x2 x3 1 _ hz)
        · intro x1 x2 x3 Y hz
          refine hB _ _ _ _ _ (fun m1 hm1 => ?_)
          dsimp only [ugo, uwp, ust, uct, rfd, BcloseTry, BcloseTry_218, Nat.beq, lv_args, rlk, rs1, rs2, rdl, rky, rcd, rno, rsw, Value.category, List.filter, List.take, List.drop, List.reverse, List.reverseAux, List.cons_append, List.nil_append, Option.toList, Int.toNat, Int.reduceToNat, if_pos, if_neg, reduceIte, ↓reduceIte, Nat.reduceAdd, Nat.reduceEqDiff, Nat.reduceBEq, beq_self_eq_true, Bool.not_true, Bool.not_false, Bool.and_true, Bool.and_false, Bool.true_and, Bool.false_and, gI_sI, gI_sL, gI_sA, gI_sM, gL_sI, gL_sL, gL_sA, gL_sM, aI_sI, aI_sL, aI_sA, aI_sM, aL_sI, aL_sL, aL_sA, aL_sM, oi_0]; try dsimp only
          exact hW _ 219 [(0, .ref 1000), (1, .int x1), (2, .int x2), (3, .int x3)] _ _ _ (by simp [rdl, rky, Value.category]) ((ih m1 hm1).2.2.2.2.2.2.2.2.2.2.2.2.2.2.2.2.2.2.2.2.2.2.2.1 x1 x2 x3 0 _ hz)
        · intro x1 x2 x3 s0 Y hz
          refine hB _ _ _ _ _ (fun m1 hm1 => ?_)
          dsimp only [ugo, uwp, ust, uct, rfd, BcloseTry, BcloseTry_219, Nat.beq, lv_args, rlk, rs1, rs2, rdl, rky, rcd, rno, rsw, Value.category, List.filter, List.take, List.drop, List.reverse, List.reverseAux, List.cons_append, List.nil_append, Option.toList, Int.toNat, Int.reduceToNat, if_pos, if_neg, reduceIte, ↓reduceIte, Nat.reduceAdd, Nat.reduceEqDiff, Nat.reduceBEq, beq_self_eq_true, Bool.not_true, Bool.not_false, Bool.and_true, Bool.and_false, Bool.true_and, Bool.false_and, gI_sI, gI_sL, gI_sA, gI_sM, gL_sI, gL_sL, gL_sA, gL_sM, aI_sI, aI_sL, aI_sA, aI_sM, aL_sI, aL_sL, aL_sA, aL_sM]; try dsimp only
          unfold Qv_closeTryJ4
          try dsimp only
          exact ⟨⟨_, rfl⟩, hz⟩
        · intro x1 x2 x3 Y hz
          refine hB _ _ _ _ _ (fun m1 hm1 => ?_)
          dsimp only [ugo, uwp, ust, uct, rfd, BcloseTry, BcloseTry_220, Nat.beq, lv_args, rlk, rs1, rs2, rdl, rky, rcd, rno, rsw, Value.category, List.filter, List.take, List.drop, List.reverse, List.reverseAux, List.cons_append, List.nil_append, Option.toList, Int.toNat, Int.reduceToNat, if_pos, if_neg, reduceIte, ↓reduceIte, Nat.reduceAdd, Nat.reduceEqDiff, Nat.reduceBEq, beq_self_eq_true, Bool.not_true, Bool.not_false, Bool.and_true, Bool.and_false, Bool.true_and, Bool.false_and, gI_sI, gI_sL, gI_sA, gI_sM, gL_sI, gL_sL, gL_sA, gL_sM, aI_sI, aI_sL, aI_sA, aI_sM, aL_sI, aL_sL, aL_sA, aL_sM, oi_9]; try dsimp only
          refine ⟨fun h2 => ?_, fun h2 => ?_⟩
          · exact hW _ 231 [(0, .ref 1000), (1, .int x1), (2, .int x2), (3, .int x3)] _ _ _ (by simp [rdl, rky, Value.category]) ((ih m1 hm1).2.2.2.2.2.2.2.2.2.2.2.2.2.2.2.2.2.2.2.2.2.2.2.2.2.2 x1 x2 x3 _ hz)
          · exact hW _ 226 [(0, .ref 1000), (1, .int x1), (2, .int x2), (3, .int x3)] _ _ _ (by simp [rdl, rky, Value.category]) ((ih m1 hm1).2.2.2.2.2.2.2.2.2.2.2.2.2.2.2.2.2.2.2.2.2.2.2.2.2.1 x1 x2 x3 _ hz)
        · intro x1 x2 x3 Y hz
          refine hB _ _ _ _ _ (fun m1 hm1 => ?_)
          dsimp only [ugo, uwp, ust, uct, rfd, BcloseTry, BcloseTry_226, Nat.beq, lv_args, rlk, rs1, rs2, rdl, rky, rcd, rno, rsw, Value.category, List.filter, List.take, List.drop, List.reverse, List.reverseAux, List.cons_append, List.nil_append, Option.toList, Int.toNat, Int.reduceToNat, if_pos, if_neg, reduceIte, ↓reduceIte, Nat.reduceAdd, Nat.reduceEqDiff, Nat.reduceBEq, beq_self_eq_true, Bool.not_true, Bool.not_false, Bool.and_true, Bool.and_false, Bool.true_and, Bool.false_and, gI_sI, gI_sL, gI_sA, gI_sM, gL_sI, gL_sL, gL_sA, gL_sM, aI_sI, aI_sL, aI_sA, aI_sM, aL_sI, aL_sL, aL_sA, aL_sM]; try dsimp only
          refine ⟨trivial, fun w2 τ2 hq2 => ?_⟩
          obtain ⟨rfl, hz2⟩ := hq2 c hz
          dsimp only [Option.toList, List.cons_append, List.nil_append, Nat.beq, gI_sI, gI_sL, gI_sA, gI_sM, gL_sI, gL_sL, gL_sA, gL_sM, aI_sI, aI_sL, aI_sA, aI_sM, aL_sI, aL_sL, aL_sA, aL_sM]
          unfold Qv_closeTryJ4
          try dsimp only
          exact ⟨⟨_, rfl⟩, hz2⟩
        · intro x1 x2 x3 Y hz
          refine hB _ _ _ _ _ (fun m1 hm1 => ?_)
          dsimp only [ugo, uwp, ust, uct, rfd, BcloseTry, BcloseTry_231, Nat.beq, lv_args, rlk, rs1, rs2, rdl, rky, rcd, rno, rsw, Value.category, List.filter, List.take, List.drop, List.reverse, List.reverseAux, List.cons_append, List.nil_append, Option.toList, Int.toNat, Int.reduceToNat, if_pos, if_neg, reduceIte, ↓reduceIte, Nat.reduceAdd, Nat.reduceEqDiff, Nat.reduceBEq, beq_self_eq_true, Bool.not_true, Bool.not_false, Bool.and_true, Bool.and_false, Bool.true_and, Bool.false_and, gI_sI, gI_sL, gI_sA, gI_sM, gL_sI, gL_sL, gL_sA, gL_sM, aI_sI, aI_sL, aI_sA, aI_sM, aL_sI, aL_sL, aL_sA, aL_sM, oi_45, oi_53]; try dsimp only
          intro p2
          refine ⟨trivial, fun w3 τ3 hq3 => ?_⟩
          obtain ⟨⟨r3, rfl⟩, hz3⟩ := hq3 c hz
          dsimp only [Option.toList, List.cons_append, List.nil_append, Nat.beq, gI_sI, gI_sL, gI_sA, gI_sM, gL_sI, gL_sL, gL_sA, gL_sM, aI_sI, aI_sL, aI_sA, aI_sM, aL_sI, aL_sL, aL_sA, aL_sM]
          intro p4
          intro p5
          refine ⟨trivial, fun w6 τ6 hq6 => ?_⟩
          obtain ⟨⟨r6, rfl⟩, hz6⟩ := hq6 c (hz3.a (by decide))
          dsimp only [Option.toList, List.cons_append, List.nil_append, Nat.beq, gI_sI, gI_sL, gI_sA, gI_sM, gL_sI, gL_sL, gL_sA, gL_sM, aI_sI, aI_sL, aI_sA, aI_sM, aL_sI, aL_sL, aL_sA, aL_sM]
          refine ⟨trivial, fun w7 τ7 hq7 => ?_⟩
          obtain ⟨⟨r7, rfl⟩, hz7⟩ := hq7 c hz6
          dsimp only [Option.toList, List.cons_append, List.nil_append, Nat.beq, gI_sI, gI_sL, gI_sA, gI_sM, gL_sI, gL_sL, gL_sA, gL_sM, aI_sI, aI_sL, aI_sA, aI_sM, aL_sI, aL_sL, aL_sA, aL_sM]
          unfold Qv_closeTryJ4
          try dsimp only
          exact ⟨⟨_, rfl⟩, hz7⟩
    intro n0
    exact (all n0).1 a1 a2 a3 σ hP
  next => exact hP.elim
theorem w_closeTryJ4 : UMet 68 (fun _ _ => True) Qw_closeTryJ4 := fun A1 σ _ w τ h c hP => v_closeTryJ4 c A1 σ hP w τ h
def Pv_closedJ4 (c : RS) : UP1 := fun A1 σ => match A1 with
  | [.int a1] => J4 c σ
  | _ => False
def Qv_closedJ4 (c : RS) : UQ1 := fun A1 σ w τ => match A1 with
  | [.int a1] => (∃ r : Int32, w = some (.int r)) ∧ J4 c τ
  | _ => False
def Qw_closedJ4 : UQ1 := fun A1 σ w τ => ∀ (c : RS), Pv_closedJ4 c A1 σ → Qv_closedJ4 c A1 σ w τ
set_option maxRecDepth 100000 in
set_option maxHeartbeats 4000000 in
theorem v_closedJ4 (c : RS) : UMet 61 (Pv_closedJ4 c) (Qv_closedJ4 c) := by
  refine UMet.by Bclosed [(20, (fun _ _ => True), Qw_emitJ4), (69, (fun _ _ => True), Qw_finishedJ4)] rfl (ucc w_emitJ4 (ucc w_finishedJ4 uc0)) ?_
  intro A1 σ hP K hB hW
  unfold Pv_closedJ4 at hP
  split at hP
  next a1 =>
    have all : ∀ N : Nat, (∀ (x1 : Int32) (Y : RS), J4 c Y → K N 0 [(0, .ref 1000), (1, .int x1)] [] Y) := by
      intro N
      induction N using Nat.strongRecOn with
      | ind N ih =>
        skip
        · intro x1 Y hz
          refine hB _ _ _ _ _ (fun m1 hm1 => ?_)
          dsimp only [ugo, uwp, ust, uct, rfd, Bclosed, Bclosed_0, Nat.beq, lv_args, rlk, rs1, rs2, rdl, rky, rcd, rno, rsw, Value.category, List.filter, List.take, List.drop, List.reverse, List.reverseAux, List.cons_append, List.nil_append, Option.toList, Int.toNat, Int.reduceToNat, if_pos, if_neg, reduceIte, ↓reduceIte, Nat.reduceAdd, Nat.reduceEqDiff, Nat.reduceBEq, beq_self_eq_true, Bool.not_true, Bool.not_false, Bool.and_true, Bool.and_false, Bool.true_and, Bool.false_and, gI_sI, gI_sL, gI_sA, gI_sM, gL_sI, gL_sL, gL_sA, gL_sM, aI_sI, aI_sL, aI_sA, aI_sM, aL_sI, aL_sL, aL_sA, aL_sM, oi_1, oi_45]; try dsimp only
          intro p2
          refine ⟨trivial, fun w3 τ3 hq3 => ?_⟩
          obtain ⟨⟨r3, rfl⟩, hz3⟩ := hq3 c hz
          dsimp only [Option.toList, List.cons_append, List.nil_append, Nat.beq, gI_sI, gI_sL, gI_sA, gI_sM, gL_sI, gL_sL, gL_sA, gL_sM, aI_sI, aI_sL, aI_sA, aI_sM, aL_sI, aL_sL, aL_sA, aL_sM]
          refine ⟨trivial, fun w4 τ4 hq4 => ?_⟩
          obtain ⟨⟨r4, rfl⟩, hz4⟩ := hq4 c ((hz3.i (by decide)).i (by decide))
          dsimp only [Option.toList, List.cons_append, List.nil_append, Nat.beq, gI_sI, gI_sL, gI_sA, gI_sM, gL_sI, gL_sL, gL_sA, gL_sM, aI_sI, aI_sL, aI_sA, aI_sM, aL_sI, aL_sL, aL_sA, aL_sM]
          unfold Qv_closedJ4
          try dsimp only
          exact ⟨⟨_, rfl⟩, hz4⟩
    intro n0
    exact all n0 a1 σ hP
  next => exact hP.elim
theorem w_closedJ4 : UMet 61 (fun _ _ => True) Qw_closedJ4 := fun A1 σ _ w τ h c hP => v_closedJ4 c A1 σ hP w τ h
def Pv_closeRowJ4 (c : RS) : UP1 := fun A1 σ => match A1 with
  | [.int a1] => J4 c σ
  | _ => False
def Qv_closeRowJ4 (c : RS) : UQ1 := fun A1 σ w τ => match A1 with
  | [.int a1] => (∃ r : Int32, w = some (.int r)) ∧ J4 c τ
  | _ => False
def Qw_closeRowJ4 : UQ1 := fun A1 σ w τ => ∀ (c : RS), Pv_closeRowJ4 c A1 σ → Qv_closeRowJ4 c A1 σ w τ
set_option maxRecDepth 100000 in
set_option maxHeartbeats 4000000 in
theorem v_closeRowJ4 (c : RS) : UMet 67 (Pv_closeRowJ4 c) (Qv_closeRowJ4 c) := by
  refine UMet.by BcloseRow [(68, (fun _ _ => True), Qw_closeTryJ4), (61, (fun _ _ => True), Qw_closedJ4), (20, (fun _ _ => True), Qw_emitJ4), (42, (fun _ _ => True), Qw_leaveJ4), (17, (fun _ _ => True), Qw_takeJ4)] rfl (ucc w_closeTryJ4 (ucc w_closedJ4 (ucc w_emitJ4 (ucc w_leaveJ4 (ucc w_takeJ4 uc0))))) ?_
  intro A1 σ hP K hB hW
  unfold Pv_closeRowJ4 at hP
  split at hP
  next a1 =>
    have all : ∀ N : Nat, (∀ (x1 : Int32) (Y : RS), J4 c Y → K N 0 [(0, .ref 1000), (1, .int x1)] [] Y) ∧ (∀ (x1 : Int32) (x2 : Int32) (x3 : Int32) (x4 : Int32) (Y : RS), J4 c Y → K N 37 [(0, .ref 1000), (1, .int x1), (2, .int x2), (3, .int x3), (4, .int x4)] [.ref 1000] Y) ∧ (∀ (x1 : Int32) (x2 : Int32) (x3 : Int32) (x4 : Int32) (Y : RS), J4 c Y → K N 52 [(0, .ref 1000), (1, .int x1), (2, .int x2), (3, .int x3), (4, .int x4)] [.ref 1000] Y) ∧ (∀ (x1 : Int32) (x2 : Int32) (x3 : Int32) (x4 : Int32) (s0 : Int32) (Y : RS), J4 c Y → K N 53 [(0, .ref 1000), (1, .int x1), (2, .int x2), (3, .int x3), (4, .int x4)] [.int s0, .ref 1000] Y) ∧ (∀ (x1 : Int32) (x2 : Int32) (x3 : Int32) (x4 : Int32) (Y : RS), J4 c Y → K N 65 [(0, .ref 1000), (1, .int x1), (2, .int x2), (3, .int x3), (4, .int x4)] [] Y) ∧ (∀ (x1 : Int32) (x2 : Int32) (x3 : Int32) (x4 : Int32) (Y : RS), J4 c Y → K N 67 [(0, .ref 1000), (1, .int x1), (2, .int x2), (3, .int x3), (4, .int x4)] [] Y) ∧ (∀ (x1 : Int32) (x2 : Int32) (x3 : Int32) (x4 : Int32) (Y : RS), J4 c Y → K N 71 [(0, .ref 1000), (1, .int x1), (2, .int x2), (3, .int x3), (4, .int x4)] [] Y) ∧ (∀ (x1 : Int32) (x2 : Int32) (x3 : Int32) (x4 : Int32) (Y : RS), J4 c Y → K N 117 [(0, .ref 1000), (1, .int x1), (2, .int x2), (3, .int x3), (4, .int x4)] [] Y) ∧ (∀ (x1 : Int32) (x2 : Int32) (x3 : Int32) (x4 : Int32) (Y : RS), J4 c Y → K N 122 [(0, .ref 1000), (1, .int x1), (2, .int x2), (3, .int x3), (4, .int x4)] [] Y) ∧ (∀ (x1 : Int32) (x2 : Int32) (x3 : Int32) (x4 : Int32) (Y : RS), J4 c Y → K N 128 [(0, .ref 1000), (1, .int x1), (2, .int x2), (3, .int x3), (4, .int x4)] [] Y) := by
      intro N
      induction N using Nat.strongRecOn with
      | ind N ih =>
        refine ⟨?_, ?_, ?_, ?_, ?_, ?_, ?_, ?_, ?_, ?_⟩
        · intro x1 Y hz
          refine hB _ _ _ _ _ (fun m1 hm1 => ?_)
          dsimp only [ugo, uwp, ust, uct, rfd, BcloseRow, BcloseRow_0, Nat.beq, lv_args, rlk, rs1, rs2, rdl, rky, rcd, rno, rsw, Value.category, List.filter, List.take, List.drop, List.reverse, List.reverseAux, List.cons_append, List.nil_append, Option.toList, Int.toNat, Int.reduceToNat, if_pos, if_neg, reduceIte, ↓reduceIte, Nat.reduceAdd, Nat.reduceEqDiff, Nat.reduceBEq, beq_self_eq_true, Bool.not_true, Bool.not_false, Bool.and_true, Bool.and_false, Bool.true_and, Bool.false_and, gI_sI, gI_sL, gI_sA, gI_sM, gL_sI, gL_sL, gL_sA, gL_sM, aI_sI, aI_sL, aI_sA, aI_sM, aL_sI, aL_sL, aL_sA, aL_sM, oi_1, oi_9]; try dsimp only
          intro p2
          intro p3
          refine ⟨fun h4 => ?_, fun h4 => ?_⟩
          · exact hW _ 52 [(0, .ref 1000), (1, .int x1), (2, .int ((aI Y 64) (((gI Y 62) - 1)).toNatClampNeg)), (3, .int ((aI Y 65) (((gI Y 62) - 1)).toNatClampNeg)), (4, .int (gI Y 14))] _ _ _ (by simp [rdl, rky, Value.category]) ((ih m1 hm1).2.2.1 x1 ((aI Y 64) (((gI Y 62) - 1)).toNatClampNeg) ((aI Y 65) (((gI Y 62) - 1)).toNatClampNeg) (gI Y 14) _ hz)
          · exact hW _ 37 [(0, .ref 1000), (1, .int x1), (2, .int ((aI Y 64) (((gI Y 62) - 1)).toNatClampNeg)), (3, .int ((aI Y 65) (((gI Y 62) - 1)).toNatClampNeg)), (4, .int (gI Y 14))] _ _ _ (by simp [rdl, rky, Value.category]) ((ih m1 hm1).2.1 x1 ((aI Y 64) (((gI Y 62) - 1)).toNatClampNeg) ((aI Y 65) (((gI Y 62) - 1)).toNatClampNeg) (gI Y 14) _ hz)
        · intro x1 x2 x3 x4 Y hz
          refine hB _ _ _ _ _ (fun m1 hm1 => ?_)
          dsimp only [ugo, uwp, ust, uct, rfd, BcloseRow, BcloseRow_37, Nat.beq, lv_args, rlk, rs1, rs2, rdl, rky, rcd, rno, rsw, Value.category, List.filter, List.take, List.drop, List.reverse, List.reverseAux, List.cons_append, List.nil_append, Option.toList, Int.toNat, Int.reduceToNat, if_pos, if_neg, reduceIte, ↓reduceIte, Nat.reduceAdd, Nat.reduceEqDiff, Nat.reduceBEq, beq_self_eq_true, Bool.not_true, Bool.not_false, Bool.and_true, Bool.and_false, Bool.true_and, Bool.false_and, gI_sI, gI_sL, gI_sA, gI_sM, gL_sI, gL_sL, gL_sA, gL_sM, aI_sI, aI_sL, aI_sA, aI_sM, aL_sI, aL_sL, aL_sA, aL_sM, oi_1000, oi_3, oi_9]; try dsimp only
          exact hW _ 53 [(0, .ref 1000), (1, .int x1), (2, .int x2), (3, .int x3), (4, .int x4)] _ _ _ (by simp [rdl, rky, Value.category]) ((ih m1 hm1).2.2.2.1 x1 x2 x3 x4 (((1000 + (3 * x2)) + x1) - 9) _ hz)
        · intro x1 x2 x3 x4 Y hz
          refine hB _ _ _ _ _ (fun m1 hm1 => ?_)
          dsimp only [ugo, uwp, ust, uct, rfd, BcloseRow, BcloseRow_52, Nat.beq, lv_args, rlk, rs1, rs2, rdl, rky, rcd, rno, rsw, Value.category, List.filter, List.take, List.drop, List.reverse, List.reverseAux, List.cons_append, List.nil_append, Option.toList, Int.toNat, Int.reduceToNat, if_pos, if_neg, reduceIte, ↓reduceIte, Nat.reduceAdd, Nat.reduceEqDiff, Nat.reduceBEq, beq_self_eq_true, Bool.not_true, Bool.not_false, Bool.and_true, Bool.and_false, Bool.true_and, Bool.false_and, gI_sI, gI_sL, gI_sA, gI_sM, gL_sI, gL_sL, gL_sA, gL_sM, aI_sI, aI_sL, aI_sA, aI_sM, aL_sI, aL_sL, aL_sA, aL_sM]; try dsimp only
          exact hW _ 53 [(0, .ref 1000), (1, .int x1), (2, .int x2), (3, .int x3), (4, .int x4)] _ _ _ (by simp [rdl, rky, Value.category]) ((ih m1 hm1).2.2.2.1 x1 x2 x3 x4 x2 _ hz)
        · intro x1 x2 x3 x4 s0 Y hz
          refine hB _ _ _ _ _ (fun m1 hm1 => ?_)
          dsimp only [ugo, uwp, ust, uct, rfd, BcloseRow, BcloseRow_53, Nat.beq, lv_args, rlk, rs1, rs2, rdl, rky, rcd, rno, rsw, Value.category, List.filter, List.take, List.drop, List.reverse, List.reverseAux, List.cons_append, List.nil_append, Option.toList, Int.toNat, Int.reduceToNat, if_pos, if_neg, reduceIte, ↓reduceIte, Nat.reduceAdd, Nat.reduceEqDiff, Nat.reduceBEq, beq_self_eq_true, Bool.not_true, Bool.not_false, Bool.and_true, Bool.and_false, Bool.true_and, Bool.false_and, gI_sI, gI_sL, gI_sA, gI_sM, gL_sI, gL_sL, gL_sA, gL_sM, aI_sI, aI_sL, aI_sA, aI_sM, aL_sI, aL_sL, aL_sA, aL_sM]; try dsimp only
          refine ⟨trivial, fun w2 τ2 hq2 => ?_⟩
          obtain ⟨rfl, hz2⟩ := hq2 c hz
          dsimp only [Option.toList, List.cons_append, List.nil_append, Nat.beq, gI_sI, gI_sL, gI_sA, gI_sM, gL_sI, gL_sL, gL_sA, gL_sM, aI_sI, aI_sL, aI_sA, aI_sM, aL_sI, aL_sL, aL_sA, aL_sM]
          refine ⟨trivial, fun w3 τ3 hq3 => ?_⟩
          obtain ⟨⟨r3, rfl⟩, hz3⟩ := hq3 c hz2
          dsimp only [Option.toList, List.cons_append, List.nil_append, Nat.beq, gI_sI, gI_sL, gI_sA, gI_sM, gL_sI, gL_sL, gL_sA, gL_sM, aI_sI, aI_sL, aI_sA, aI_sM, aL_sI, aL_sL, aL_sA, aL_sM]
          refine ⟨fun h4 => ?_, fun h4 => ?_⟩
          · exact hW _ 67 [(0, .ref 1000), (1, .int x1), (2, .int x2), (3, .int x3), (4, .int x4)] _ _ _ (by simp [rdl, rky, Value.category]) ((ih m1 hm1).2.2.2.2.2.1 x1 x2 x3 x4 _ hz3)
          · exact hW _ 65 [(0, .ref 1000), (1, .int x1), (2, .int x2), (3, .int x3), (4, .int x4)] _ _ _ (by simp [rdl, rky, Value.category]) ((ih m1 hm1).2.2.2.2.1 x1 x2 x3 x4 _ hz3)
        · intro x1 x2 x3 x4 Y hz
          refine hB _ _ _ _ _ (fun m1 hm1 => ?_)
          dsimp only [ugo, uwp, ust, uct, rfd, BcloseRow, BcloseRow_65, Nat.beq, lv_args, rlk, rs1, rs2, rdl, rky, rcd, rno, rsw, Value.category, List.filter, List.take, List.drop, List.reverse, List.reverseAux, List.cons_append, List.nil_append, Option.toList, Int.toNat, Int.reduceToNat, if_pos, if_neg, reduceIte, ↓reduceIte, Nat.reduceAdd, Nat.reduceEqDiff, Nat.reduceBEq, beq_self_eq_true, Bool.not_true, Bool.not_false, Bool.and_true, Bool.and_false, Bool.true_and, Bool.false_and, gI_sI, gI_sL, gI_sA, gI_sM, gL_sI, gL_sL, gL_sA, gL_sM, aI_sI, aI_sL, aI_sA, aI_sM, aL_sI, aL_sL, aL_sA, aL_sM, oi_0]; try dsimp only
          unfold Qv_closeRowJ4
          try dsimp only
          exact ⟨⟨_, rfl⟩, hz⟩
        · intro x1 x2 x3 x4 Y hz
          refine hB _ _ _ _ _ (fun m1 hm1 => ?_)
          dsimp only [ugo, uwp, ust, uct, rfd, BcloseRow, BcloseRow_67, Nat.beq, lv_args, rlk, rs1, rs2, rdl, rky, rcd, rno, rsw, Value.category, List.filter, List.take, List.drop, List.reverse, List.reverseAux, List.cons_append, List.nil_append, Option.toList, Int.toNat, Int.reduceToNat, if_pos, if_neg, reduceIte, ↓reduceIte, Nat.reduceAdd, Nat.reduceEqDiff, Nat.reduceBEq, beq_self_eq_true, Bool.not_true, Bool.not_false, Bool.and_true, Bool.and_false, Bool.true_and, Bool.false_and, gI_sI, gI_sL, gI_sA, gI_sM, gL_sI, gL_sL, gL_sA, gL_sM, aI_sI, aI_sL, aI_sA, aI_sM, aL_sI, aL_sL, aL_sA, aL_sM]; try dsimp only
          refine ⟨fun h2 => ?_, fun h2 => ?_⟩
          · exact hW _ 117 [(0, .ref 1000), (1, .int x1), (2, .int x2), (3, .int x3), (4, .int x4)] _ _ _ (by simp [rdl, rky, Value.category]) ((ih m1 hm1).2.2.2.2.2.2.2.1 x1 x2 x3 x4 _ hz)
          · exact hW _ 71 [(0, .ref 1000), (1, .int x1), (2, .int x2), (3, .int x3), (4, .int x4)] _ _ _ (by simp [rdl, rky, Value.category]) ((ih m1 hm1).2.2.2.2.2.2.1 x1 x2 x3 x4 _ hz)
        · intro x1 x2 x3 x4 Y hz
          refine hB _ _ _ _ _ (fun m1 hm1 => ?_)
          dsimp only [ugo, uwp, ust, uct, rfd, BcloseRow, BcloseRow_71, Nat.beq, lv_args, rlk, rs1, rs2, rdl, rky, rcd, rno, rsw, Value.category, List.filter, List.take, List.drop, List.reverse, List.reverseAux, List.cons_append, List.nil_append, Option.toList, Int.toNat, Int.reduceToNat, if_pos, if_neg, reduceIte, ↓reduceIte, Nat.reduceAdd, Nat.reduceEqDiff, Nat.reduceBEq, beq_self_eq_true, Bool.not_true, Bool.not_false, Bool.and_true, Bool.and_false, Bool.true_and, Bool.false_and, gI_sI, gI_sL, gI_sA, gI_sM, gL_sI, gL_sL, gL_sA, gL_sM, aI_sI, aI_sL, aI_sA, aI_sM, aL_sI, aL_sL, aL_sA, aL_sM, oi_1, oi_54]; try dsimp only
          intro p2
          refine ⟨trivial, fun w3 τ3 hq3 => ?_⟩
          obtain ⟨⟨r3, rfl⟩, hz3⟩ := hq3 c hz
          dsimp only [Option.toList, List.cons_append, List.nil_append, Nat.beq, gI_sI, gI_sL, gI_sA, gI_sM, gL_sI, gL_sL, gL_sA, gL_sM, aI_sI, aI_sL, aI_sA, aI_sM, aL_sI, aL_sL, aL_sA, aL_sM]
          unfold Qv_closeRowJ4
          try dsimp only
          exact ⟨⟨_, rfl⟩, ((hz3.i (by decide)).i (by decide))⟩
        · intro x1 x2 x3 x4 Y hz
          refine hB _ _ _ _ _ (fun m1 hm1 => ?_)
          dsimp only [ugo, uwp, ust, uct, rfd, BcloseRow, BcloseRow_117, Nat.beq, lv_args, rlk, rs1, rs2, rdl, rky, rcd, rno, rsw, Value.category, List.filter, List.take, List.drop, List.reverse, List.reverseAux, List.cons_append, List.nil_append, Option.toList, Int.toNat, Int.reduceToNat, if_pos, if_neg, reduceIte, ↓reduceIte, Nat.reduceAdd, Nat.reduceEqDiff, Nat.reduceBEq, beq_self_eq_true, Bool.not_true, Bool.not_false, Bool.and_true, Bool.and_false, Bool.true_and, Bool.false_and, gI_sI, gI_sL, gI_sA, gI_sM, gL_sI, gL_sL, gL_sA, gL_sM, aI_sI, aI_sL, aI_sA, aI_sM, aL_sI, aL_sL, aL_sA, aL_sM, oi_1]; try dsimp only
          refine ⟨fun h2 => ?_, fun h2 => ?_⟩
          · exact hW _ 128 [(0, .ref 1000), (1, .int x1), (2, .int x2), (3, .int x3), (4, .int x4)] _ _ _ (by simp [rdl, rky, Value.category]) ((ih m1 hm1).2.2.2.2.2.2.2.2.2 x1 x2 x3 x4 _ hz)
          · exact hW _ 122 [(0, .ref 1000), (1, .int x1), (2, .int x2), (3, .int x3), (4, .int x4)] _ _ _ (by simp [rdl, rky, Value.category]) ((ih m1 hm1).2.2.2.2.2.2.2.2.1 x1 x2 x3 x4 _ hz)
        · intro x1 x2 x3 x4 Y hz
          refine hB _ _ _ _ _ (fun m1 hm1 => ?_)
          dsimp only [ugo, uwp, ust, uct, rfd, BcloseRow, BcloseRow_122, Nat.beq, lv_args, rlk, rs1, rs2, rdl, rky, rcd, rno, rsw, Value.category, List.filter, List.take, List.drop, List.reverse, List.reverseAux, List.cons_append, List.nil_append, Option.toList, Int.toNat, Int.reduceToNat, if_pos, if_neg, reduceIte, ↓reduceIte, Nat.reduceAdd, Nat.reduceEqDiff, Nat.reduceBEq, beq_self_eq_true, Bool.not_true, Bool.not_false, Bool.and_true, Bool.and_false, Bool.true_and, Bool.false_and, gI_sI, gI_sL, gI_sA, gI_sM, gL_sI, gL_sL, gL_sA, gL_sM, aI_sI, aI_sL, aI_sA, aI_sM, aL_sI, aL_sL, aL_sA, aL_sM]; try dsimp only
          refine ⟨trivial, fun w2 τ2 hq2 => ?_⟩
          obtain ⟨⟨r2, rfl⟩, hz2⟩ := hq2 c hz
          dsimp only [Option.toList, List.cons_append, List.nil_append, Nat.beq, gI_sI, gI_sL, gI_sA, gI_sM, gL_sI, gL_sL, gL_sA, gL_sM, aI_sI, aI_sL, aI_sA, aI_sM, aL_sI, aL_sL, aL_sA, aL_sM]
          unfold Qv_closeRowJ4
          try dsimp only
          exact ⟨⟨_, rfl⟩, hz2⟩
        · intro x1 x2 x3 x4 Y hz
          refine hB _ _ _ _ _ (fun m1 hm1 => ?_)
          dsimp only [ugo, uwp, ust, uct, rfd, BcloseRow, BcloseRow_128, Nat.beq, lv_args, rlk, rs1, rs2, rdl, rky, rcd, rno, rsw, Value.category, List.filter, List.take, List.drop, List.reverse, List.reverseAux, List.cons_append, List.nil_append, Option.toList, Int.toNat, Int.reduceToNat, if_pos, if_neg, reduceIte, ↓reduceIte, Nat.reduceAdd, Nat.reduceEqDiff, Nat.reduceBEq, beq_self_eq_true, Bool.not_true, Bool.not_false, Bool.and_true, Bool.and_false, Bool.true_and, Bool.false_and, gI_sI, gI_sL, gI_sA, gI_sM, gL_sI, gL_sL, gL_sA, gL_sM, aI_sI, aI_sL, aI_sA, aI_sM, aL_sI, aL_sL, aL_sA, aL_sM]; try dsimp only
          refine ⟨trivial, fun w2 τ2 hq2 => ?_⟩
          obtain ⟨⟨r2, rfl⟩, hz2⟩ := hq2 c hz
          dsimp only [Option.toList, List.cons_append, List.nil_append, Nat.beq, gI_sI, gI_sL, gI_sA, gI_sM, gL_sI, gL_sL, gL_sA, gL_sM, aI_sI, aI_sL, aI_sA, aI_sM, aL_sI, aL_sL, aL_sA, aL_sM]
          unfold Qv_closeRowJ4
          try dsimp only
          exact ⟨⟨_, rfl⟩, hz2⟩
    intro n0
    exact (all n0).1 a1 σ hP
  next => exact hP.elim
theorem w_closeRowJ4 : UMet 67 (fun _ _ => True) Qw_closeRowJ4 := fun A1 σ _ w τ h c hP => v_closeRowJ4 c A1 σ hP w τ h
def Pv_closeSwitchJ4 (c : RS) : UP1 := fun A1 σ => match A1 with
  | [] => J4 c σ
  | _ => False
def Qv_closeSwitchJ4 (c : RS) : UQ1 := fun A1 σ w τ => match A1 with
  | [] => (∃ r : Int32, w = some (.int r)) ∧ J4 c τ
  | _ => False
def Qw_closeSwitchJ4 : UQ1 := fun A1 σ w τ => ∀ (c : RS), Pv_closeSwitchJ4 c A1 σ → Qv_closeSwitchJ4 c A1 σ w τ
set_option maxRecDepth 100000 in
set_option maxHeartbeats 4000000 in
theorem v_closeSwitchJ4 (c : RS) : UMet 60 (Pv_closeSwitchJ4 c) (Qv_closeSwitchJ4 c) := by
  refine UMet.by BcloseSwitch [(61, (fun _ _ => True), Qw_closedJ4), (20, (fun _ _ => True), Qw_emitJ4), (42, (fun _ _ => True), Qw_leaveJ4), (17, (fun _ _ => True), Qw_takeJ4)] rfl (ucc w_closedJ4 (ucc w_emitJ4 (ucc w_leaveJ4 (ucc w_takeJ4 uc0)))) ?_
  intro A1 σ hP K hB hW
  unfold Pv_closeSwitchJ4 at hP
  split at hP
  next =>
    have all : ∀ N : Nat, (∀ (Y : RS), J4 c Y → K N 0 [(0, .ref 1000)] [] Y) ∧ (∀ (x1 : Int32) (x2 : Int32) (Y : RS), J4 c Y → K N 40 [(0, .ref 1000), (1, .int x1), (2, .int x2)] [] Y) ∧ (∀ (x1 : Int32) (x2 : Int32) (Y : RS), J4 c Y → K N 42 [(0, .ref 1000), (1, .int x1), (2, .int x2)] [] Y) := by
      intro N
      induction N using Nat.strongRecOn with
      | ind N ih =>
        refine ⟨?_, ?_, ?_⟩
        · intro Y hz
          refine hB _ _ _ _ _ (fun m1 hm1 => ?_)
          dsimp only [ugo, uwp, ust, uct, rfd, BcloseSwitch, BcloseSwitch_0, Nat.beq, lv_args, rlk, rs1, rs2, rdl, rky, rcd, rno, rsw, Value.category, List.filter, List.take, List.drop, List.reverse, List.reverseAux, List.cons_append, List.nil_append, Option.toList, Int.toNat, Int.reduceToNat, if_pos, if_neg, reduceIte, ↓reduceIte, Nat.reduceAdd, Nat.reduceEqDiff, Nat.reduceBEq, beq_self_eq_true, Bool.not_true, Bool.not_false, Bool.and_true, Bool.and_false, Bool.true_and, Bool.false_and, gI_sI, gI_sL, gI_sA, gI_sM, gL_sI, gL_sL, gL_sA, gL_sM, aI_sI, aI_sL, aI_sA, aI_sM, aL_sI, aL_sL, aL_sA, aL_sM, oi_1]; try dsimp only
          intro p2
          intro p3
          refine ⟨trivial, fun w4 τ4 hq4 => ?_⟩
          obtain ⟨rfl, hz4⟩ := hq4 c hz
          dsimp only [Option.toList, List.cons_append, List.nil_append, Nat.beq, gI_sI, gI_sL, gI_sA, gI_sM, gL_sI, gL_sL, gL_sA, gL_sM, aI_sI, aI_sL, aI_sA, aI_sM, aL_sI, aL_sL, aL_sA, aL_sM]
          refine ⟨trivial, fun w5 τ5 hq5 => ?_⟩
          obtain ⟨⟨r5, rfl⟩, hz5⟩ := hq5 c hz4
          dsimp only [Option.toList, List.cons_append, List.nil_append, Nat.beq, gI_sI, gI_sL, gI_sA, gI_sM, gL_sI, gL_sL, gL_sA, gL_sM, aI_sI, aI_sL, aI_sA, aI_sM, aL_sI, aL_sL, aL_sA, aL_sM]
          refine ⟨fun h6 => ?_, fun h6 => ?_⟩
          · exact hW _ 42 [(0, .ref 1000), (1, .int ((aI Y 64) (((gI Y 62) - 1)).toNatClampNeg)), (2, .int ((aI Y 65) (((gI Y 62) - 1)).toNatClampNeg))] _ _ _ (by simp [rdl, rky, Value.category]) ((ih m1 hm1).2.2 ((aI Y 64) (((gI Y 62) - 1)).toNatClampNeg) ((aI Y 65) (((gI Y 62) - 1)).toNatClampNeg) _ hz5)
          · exact hW _ 40 [(0, .ref 1000), (1, .int ((aI Y 64) (((gI Y 62) - 1)).toNatClampNeg)), (2, .int ((aI Y 65) (((gI Y 62) - 1)).toNatClampNeg))] _ _ _ (by simp [rdl, rky, Value.category]) ((ih m1 hm1).2.1 ((aI Y 64) (((gI Y 62) - 1)).toNatClampNeg) ((aI Y 65) (((gI Y 62) - 1)).toNatClampNeg) _ hz5)
        · intro x1 x2 Y hz
          refine hB _ _ _ _ _ (fun m1 hm1 => ?_)
          dsimp only [ugo, uwp, ust, uct, rfd, BcloseSwitch, BcloseSwitch_40, Nat.beq, lv_args, rlk, rs1, rs2, rdl, rky, rcd, rno, rsw, Value.category, List.filter, List.take, List.drop, List.reverse, List.reverseAux, List.cons_append, List.nil_append, Option.toList, Int.toNat, Int.reduceToNat, if_pos, if_neg, reduceIte, ↓reduceIte, Nat.reduceAdd, Nat.reduceEqDiff, Nat.reduceBEq, beq_self_eq_true, Bool.not_true, Bool.not_false, Bool.and_true, Bool.and_false, Bool.true_and, Bool.false_and, gI_sI, gI_sL, gI_sA, gI_sM, gL_sI, gL_sL, gL_sA, gL_sM, aI_sI, aI_sL, aI_sA, aI_sM, aL_sI, aL_sL, aL_sA, aL_sM, oi_0]; try dsimp only
          unfold Qv_closeSwitchJ4
          try dsimp only
          exact ⟨⟨_, rfl⟩, hz⟩
        · intro x1 x2 Y hz
          refine hB _ _ _ _ _ (fun m1 hm1 => ?_)
          dsimp only [ugo, uwp, ust, uct, rfd, BcloseSwitch, BcloseSwitch_42, Nat.beq, lv_args, rlk, rs1, rs2, rdl, rky, rcd, rno, rsw, Value.category, List.filter, List.take, List.drop, List.reverse, List.reverseAux, List.cons_append, List.nil_append, Option.toList, Int.toNat, Int.reduceToNat, if_pos, if_neg, reduceIte, ↓reduceIte, Nat.reduceAdd, Nat.reduceEqDiff, Nat.reduceBEq, beq_self_eq_true, Bool.not_true, Bool.not_false, Bool.and_true, Bool.and_false, Bool.true_and, Bool.false_and, gI_sI, gI_sL, gI_sA, gI_sM, gL_sI, gL_sL, gL_sA, gL_sM, aI_sI, aI_sL, aI_sA, aI_sM, aL_sI, aL_sL, aL_sA, aL_sM, oi_40]; try dsimp only
          intro p2
          refine ⟨trivial, fun w3 τ3 hq3 => ?_⟩
          obtain ⟨⟨r3, rfl⟩, hz3⟩ := hq3 c hz
          dsimp only [Option.toList, List.cons_append, List.nil_append, Nat.beq, gI_sI, gI_sL, gI_sA, gI_sM, gL_sI, gL_sL, gL_sA, gL_sM, aI_sI, aI_sL, aI_sA, aI_sM, aL_sI, aL_sL, aL_sA, aL_sM]
          intro p4
          refine ⟨trivial, fun w5 τ5 hq5 => ?_⟩
          obtain ⟨⟨r5, rfl⟩, hz5⟩ := hq5 c (hz3.a (by decide))
          dsimp only [Option.toList, List.cons_append, List.nil_append, Nat.beq, gI_sI, gI_sL, gI_sA, gI_sM, gL_sI, gL_sL, gL_sA, gL_sM, aI_sI, aI_sL, aI_sA, aI_sM, aL_sI, aL_sL, aL_sA, aL_sM]
          unfold Qv_closeSwitchJ4
          try dsimp only
          exact ⟨⟨_, rfl⟩, hz5⟩
    intro n0
    exact (all n0).1  σ hP
  next => exact hP.elim
theorem w_closeSwitchJ4 : UMet 60 (fun _ _ => True) Qw_closeSwitchJ4 := fun A1 σ _ w τ h c hP => v_closeSwitchJ4 c A1 σ hP w τ h
def Pv_groupedJ4 (c : RS) : UP1 := fun A1 σ => match A1 with
  | [] => J4 c σ
  | _ => False
def Qv_groupedJ4 (c : RS) : UQ1 := fun A1 σ w τ => match A1 with
  | [] => (∃ r : Int32, w = some (.int r)) ∧ J4 c τ
  | _ => False
def Qw_groupedJ4 : UQ1 := fun A1 σ w τ => ∀ (c : RS), Pv_groupedJ4 c A1 σ → Qv_groupedJ4 c A1 σ w τ
set_option maxRecDepth 100000 in
set_option maxHeartbeats 4000000 in
theorem v_groupedJ4 (c : RS) : UMet 45 (Pv_groupedJ4 c) (Qv_groupedJ4 c) := by
  refine UMet.by Bgrouped [] rfl uc0 ?_
  intro A1 σ hP K hB hW
  unfold Pv_groupedJ4 at hP
  split at hP
  next =>
    have all : ∀ N : Nat, (∀ (Y : RS), J4 c Y → K N 0 [(0, .ref 1000)] [] Y) ∧ (∀ (x1 : Int32) (x2 : Int32) (x3 : Int32) (Y : RS), J4 c Y → K N 21 [(0, .ref 1000), (1, .int x1), (2, .int x2), (3, .int x3)] [] Y) ∧ (∀ (x1 : Int32) (x2 : Int32) (x3 : Int32) (Y : RS), J4 c Y → K N 29 [(0, .ref 1000), (1, .int x1), (2, .int x2), (3, .int x3)] [] Y) ∧ (∀ (x1 : Int32) (x2 : Int32) (x3 : Int32) (Y : RS), J4 c Y → K N 33 [(0, .ref 1000), (1, .int x1), (2, .int x2), (3, .int x3)] [] Y) ∧ (∀ (x1 : Int32) (x2 : Int32) (x3 : Int32) (Y : RS), J4 c Y → K N 44 [(0, .ref 1000), (1, .int x1), (2, .int x2), (3, .int x3)] [] Y) ∧ (∀ (x1 : Int32) (x2 : Int32) (x3 : Int32) (Y : RS), J4 c Y → K N 55 [(0, .ref 1000), (1, .int x1), (2, .int x2), (3, .int x3)] [] Y) ∧ (∀ (x1 : Int32) (x2 : Int32) (x3 : Int32) (Y : RS), J4 c Y → K N 65 [(0, .ref 1000), (1, .int x1), (2, .int x2), (3, .int x3)] [] Y) ∧ (∀ (x1 : Int32) (x2 : Int32) (x3 : Int32) (Y : RS), J4 c Y → K N 69 [(0, .ref 1000), (1, .int x1), (2, .int x2), (3, .int x3)] [] Y) ∧ (∀ (x1 : Int32) (x2 : Int32) (x3 : Int32) (s0 : Int32) (Y : RS), J4 c Y → K N 70 [(0, .ref 1000), (1, .int x1), (2, .int x2), (3, .int x3)] [.int s0] Y) ∧ (∀ (x1 : Int32) (x2 : Int32) (x3 : Int32) (Y : RS), J4 c Y → K N 77 [(0, .ref 1000), (1, .int x1), (2, .int x2), (3, .int x3)] [] Y) := by
      intro N
      induction N using Nat.strongRecOn with
      | ind N ih =>
        refine ⟨?_, ?_, ?_, ?_, ?_, ?_, ?_, ?_, ?_, ?_⟩
        · intro Y hz
          refine hB _ _ _ _ _ (fun m1 hm1 => ?_)
          dsimp only [ugo, uwp, ust, uct, rfd, Bgrouped, Bgrouped_0, Nat.beq, lv_args, rlk, rs1, rs2, rdl, rky, rcd, rno, rsw, Value.category, List.filter, List.take, List.drop, List.reverse, List.reverseAux, List.cons_append, List.nil_append, Option.toList, Int.toNat, Int.reduceToNat, if_pos, if_neg, reduceIte, ↓reduceIte, Nat.reduceAdd, Nat.reduceEqDiff, Nat.reduceBEq, beq_self_eq_true, Bool.not_true, Bool.not_false, Bool.and_true, Bool.and_false, Bool.true_and, Bool.false_and, gI_sI, gI_sL, gI_sA, gI_sM, gL_sI, gL_sL, gL_sA, gL_sM, aI_sI, aI_sL, aI_sA, aI_sM, aL_sI, aL_sL, aL_sA, aL_sM, oi_0, oi_1]; try dsimp only
          intro p2
          intro p3
          exact hW _ 21 [(0, .ref 1000), (1, .int ((aI Y 64) (((gI Y 62) - 1)).toNatClampNeg)), (2, .int 0), (3, .int ((aI Y 51) (((aI Y 64) (((gI Y 62) - 1)).toNatClampNeg)).toNatClampNeg))] _ _ _ (by simp [rdl, rky, Value.category]) ((ih m1 hm1).2.1 ((aI Y 64) (((gI Y 62) - 1)).toNatClampNeg) 0 ((aI Y 51) (((aI Y 64) (((gI Y 62) - 1)).toNatClampNeg)).toNatClampNeg) _ hz)
        · intro x1 x2 x3 Y hz
          refine hB _ _ _ _ _ (fun m1 hm1 => ?_)
          dsimp only [ugo, uwp, ust, uct, rfd, Bgrouped, Bgrouped_21, Nat.beq, lv_args, rlk, rs1, rs2, rdl, rky, rcd, rno, rsw, Value.category, List.filter, List.take, List.drop, List.reverse, List.reverseAux, List.cons_append, List.nil_append, Option.toList, Int.toNat, Int.reduceToNat, if_pos, if_neg, reduceIte, ↓reduceIte, Nat.reduceAdd, Nat.reduceEqDiff, Nat.reduceBEq, beq_self_eq_true, Bool.not_true, Bool.not_false, Bool.and_true, Bool.and_false, Bool.true_and, Bool.false_and, gI_sI, gI_sL, gI_sA, gI_sM, gL_sI, gL_sL, gL_sA, gL_sM, aI_sI, aI_sL, aI_sA, aI_sM, aL_sI, aL_sL, aL_sA, aL_sM]; try dsimp only
          refine ⟨fun h2 => ?_, fun h2 => ?_⟩
          · exact hW _ 77 [(0, .ref 1000), (1, .int x1), (2, .int x2), (3, .int x3)] _ _ _ (by simp [rdl, rky, Value.category]) ((ih m1 hm1).2.2.2.2.2.2.2.2.2 x1 x2 x3 _ hz)
          · exact hW _ 29 [(0, .ref 1000), (1, .int x1), (2, .int x2), (3, .int x3)] _ _ _ (by simp [rdl, rky, Value.category]) ((ih m1 hm1).2.2.1 x1 x2 x3 _ hz)
        · intro x1 x2 x3 Y hz
          refine hB _ _ _ _ _ (fun m1 hm1 => ?_)
          dsimp only [ugo, uwp, ust, uct, rfd, Bgrouped, Bgrouped_29, Nat.beq, lv_args, rlk, rs1, rs2, rdl, rky, rcd, rno, rsw, Value.category, List.filter, List.take, List.drop, List.reverse, List.reverseAux, List.cons_append, List.nil_append, Option.toList, Int.toNat, Int.reduceToNat, if_pos, if_neg, reduceIte, ↓reduceIte, Nat.reduceAdd, Nat.reduceEqDiff, Nat.reduceBEq, beq_self_eq_true, Bool.not_true, Bool.not_false, Bool.and_true, Bool.and_false, Bool.true_and, Bool.false_and, gI_sI, gI_sL, gI_sA, gI_sM, gL_sI, gL_sL, gL_sA, gL_sM, aI_sI, aI_sL, aI_sA, aI_sM, aL_sI, aL_sL, aL_sA, aL_sM]; try dsimp only
          refine ⟨fun h2 => ?_, fun h2 => ?_⟩
          · exact hW _ 65 [(0, .ref 1000), (1, .int x1), (2, .int x2), (3, .int x3)] _ _ _ (by simp [rdl, rky, Value.category]) ((ih m1 hm1).2.2.2.2.2.2.1 x1 x2 x3 _ hz)
          · exact hW _ 33 [(0, .ref 1000), (1, .int x1), (2, .int x2), (3, .int x3)] _ _ _ (by simp [rdl, rky, Value.category]) ((ih m1 hm1).2.2.2.1 x1 x2 x3 _ hz)
        · intro x1 x2 x3 Y hz
          refine hB _ _ _ _ _ (fun m1 hm1 => ?_)
          dsimp only [ugo, uwp, ust, uct, rfd, Bgrouped, Bgrouped_33, Nat.beq, lv_args, rlk, rs1, rs2, rdl, rky, rcd, rno, rsw, Value.category, List.filter, List.take, List.drop, List.reverse, List.reverseAux, List.cons_append, List.nil_append, Option.toList, Int.toNat, Int.reduceToNat, if_pos, if_neg, reduceIte, ↓reduceIte, Nat.reduceAdd, Nat.reduceEqDiff, Nat.reduceBEq, beq_self_eq_true, Bool.not_true, Bool.not_false, Bool.and_true, Bool.and_false, Bool.true_and, Bool.false_and, gI_sI, gI_sL, gI_sA, gI_sM, gL_sI, gL_sL, gL_sA, gL_sM, aI_sI, aI_sL, aI_sA, aI_sM, aL_sI, aL_sL, aL_sA, aL_sM, oi_38]; try dsimp only
          intro p2
          refine ⟨fun h3 => ?_, fun h3 => ?_⟩
          · exact hW _ 55 [(0, .ref 1000), (1, .int x1), (2, .int x2), (3, .int x3)] _ _ _ (by simp [rdl, rky, Value.category]) ((ih m1 hm1).2.2.2.2.2.1 x1 x2 x3 _ hz)
          · exact hW _ 44 [(0, .ref 1000), (1, .int x1), (2, .int x2), (3, .int x3)] _ _ _ (by simp [rdl, rky, Value.category]) ((ih m1 hm1).2.2.2.2.1 x1 x2 x3 _ hz)
        · intro x1 x2 x3 Y hz
          refine hB _ _ _ _ _ (fun m1 hm1 => ?_)
          dsimp only [ugo, uwp, ust, uct, rfd, Bgrouped, Bgrouped_44, Nat.beq, lv_args, rlk, rs1, rs2, rdl, rky, rcd, rno, rsw, Value.category, List.filter, List.take, List.drop, List.reverse, List.reverseAux, List.cons_append, List.nil_append, Option.toList, Int.toNat, Int.reduceToNat, if_pos, if_neg, reduceIte, ↓reduceIte, Nat.reduceAdd, Nat.reduceEqDiff, Nat.reduceBEq, beq_self_eq_true, Bool.not_true, Bool.not_false, Bool.and_true, Bool.and_false, Bool.true_and, Bool.false_and, gI_sI, gI_sL, gI_sA, gI_sM, gL_sI, gL_sL, gL_sA, gL_sM, aI_sI, aI_sL, aI_sA, aI_sM, aL_sI, aL_sL, aL_sA, aL_sM, oi_39]; try dsimp only
          intro p2
          refine ⟨fun h3 => ?_, fun h3 => ?_⟩
          · exact hW _ 69 [(0, .ref 1000), (1, .int x1), (2, .int x2), (3, .int x3)] _ _ _ (by simp [rdl, rky, Value.category]) ((ih m1 hm1).2.2.2.2.2.2.2.1 x1 x2 x3 _ hz)
          · exact hW _ 55 [(0, .ref 1000), (1, .int x1), (2, .int x2), (3, .int x3)] _ _ _ (by simp [rdl, rky, Value.category]) ((ih m1 hm1).2.2.2.2.2.1 x1 x2 x3 _ hz)
        · intro x1 x2 x3 Y hz
          refine hB _ _ _ _ _ (fun m1 hm1 => ?_)
          dsimp only [ugo, uwp, ust, uct, rfd, Bgrouped, Bgrouped_55, Nat.beq, lv_args, rlk, rs1, rs2, rdl, rky, rcd, rno, rsw, Value.category, List.filter, List.take, List.drop, List.reverse, List.reverseAux, List.cons_append, List.nil_append, Option.toList, Int.toNat, Int.reduceToNat, if_pos, if_neg, reduceIte, ↓reduceIte, Nat.reduceAdd, Nat.reduceEqDiff, Nat.reduceBEq, beq_self_eq_true, Bool.not_true, Bool.not_false, Bool.and_true, Bool.and_false, Bool.true_and, Bool.false_and, gI_sI, gI_sL, gI_sA, gI_sM, gL_sI, gL_sL, gL_sA, gL_sM, aI_sI, aI_sL, aI_sA, aI_sM, aL_sI, aL_sL, aL_sA, aL_sM]; try dsimp only
          intro p2
          refine ⟨fun h3 => ?_, fun h3 => ?_⟩
          · exact hW _ 69 [(0, .ref 1000), (1, .int x1), (2, .int x2), (3, .int x3)] _ _ _ (by simp [rdl, rky, Value.category]) ((ih m1 hm1).2.2.2.2.2.2.2.1 x1 x2 x3 _ hz)
          · exact hW _ 65 [(0, .ref 1000), (1, .int x1), (2, .int x2), (3, .int x3)] _ _ _ (by simp [rdl, rky, Value.category]) ((ih m1 hm1).2.2.2.2.2.2.1 x1 x2 x3 _ hz)
        · intro x1 x2 x3 Y hz
          refine hB _ _ _ _ _ (fun m1 hm1 => ?_)
          dsimp only [ugo, uwp, ust, uct, rfd, Bgrouped, Bgrouped_65, Nat.beq, lv_args, rlk, rs1, rs2, rdl, rky, rcd, rno, rsw, Value.category, List.filter, List.take, List.drop, List.reverse, List.reverseAux, List.cons_append, List.nil_append, Option.toList, Int.toNat, Int.reduceToNat, if_pos, if_neg, reduceIte, ↓reduceIte, Nat.reduceAdd, Nat.reduceEqDiff, Nat.reduceBEq, beq_self_eq_true, Bool.not_true, Bool.not_false, Bool.and_true, Bool.and_false, Bool.true_and, Bool.false_and, gI_sI, gI_sL, gI_sA, gI_sM, gL_sI, gL_sL, gL_sA, gL_sM, aI_sI, aI_sL, aI_sA, aI_sM, aL_sI, aL_sL, aL_sA, aL_sM, oi_1]; try dsimp only
          exact hW _ 70 [(0, .ref 1000), (1, .int x1), (2, .int x2), (3, .int x3)] _ _ _ (by simp [rdl, rky, Value.category]) ((ih m1 hm1).2.2.2.2.2.2.2.2.1 x1 x2 x3 1 _ hz)
        · intro x1 x2 x3 Y hz
          refine hB _ _ _ _ _ (fun m1 hm1 => ?_)
          dsimp only [ugo, uwp, ust, uct, rfd, Bgrouped, Bgrouped_69, Nat.beq, lv_args, rlk, rs1, rs2, rdl, rky, rcd, rno, rsw, Value.category, List.filter, List.take, List.drop, List.reverse, List.reverseAux, List.cons_append, List.nil_append, Option.toList, Int.toNat, Int.reduceToNat, if_pos, if_neg, reduceIte, ↓reduceIte, Nat.reduceAdd, Nat.reduceEqDiff, Nat.reduceBEq, beq_self_eq_true, Bool.not_true, Bool.not_false, Bool.and_true, Bool.and_false, Bool.true_and, Bool.false_and, gI_sI, gI_sL, gI_sA, gI_sM, gL_sI, gL_sL, gL_sA, gL_sM, aI_sI, aI_sL, aI_sA, aI_sM, aL_sI, aL_sL, aL_sA, aL_sM, oi_0]; try dsimp only
          exact hW _ 70 [(0, .ref 1000), (1, .int x1), (2, .int x2), (3, .int x3)] _ _ _ (by simp [rdl, rky, Value.category]) ((ih m1 hm1).2.2.2.2.2.2.2.2.1 x1 x2 x3 0 _ hz)
        · intro x1 x2 x3 s0 Y hz
          refine hB _ _ _ _ _ (fun m1 hm1 => ?_)
          dsimp only [ugo, uwp, ust, uct, rfd, Bgrouped, Bgrouped_70, Nat.beq, lv_args, rlk, rs1, rs2, rdl, rky, rcd, rno, rsw, Value.category, List.filter, List.take, List.drop, List.reverse, List.reverseAux, List.cons_append, List.nil_append, Option.toList, Int.toNat, Int.reduceToNat, if_pos, if_neg, reduceIte, ↓reduceIte, Nat.reduceAdd, Nat.reduceEqDiff, Nat.reduceBEq, beq_self_eq_true, Bool.not_true, Bool.not_false, Bool.and_true, Bool.and_false, Bool.true_and, Bool.false_and, gI_sI, gI_sL, gI_sA, gI_sM, gL_sI, gL_sL, gL_sA, gL_sM, aI_sI, aI_sL, aI_sA, aI_sM, aL_sI, aL_sL, aL_sA, aL_sM, oi_1]; try dsimp only
          exact hW _ 21 [(0, .ref 1000), (1, .int x1), (2, .int s0), (3, .int (x3 + 1))] _ _ _ (by simp [rdl, rky, Value.category]) ((ih m1 hm1).2.1 x1 s0 (x3 + 1) _ hz)
        · intro x1 x2 x3 Y hz
          refine hB _ _ _ _ _ (fun m1 hm1 => ?_)
          dsimp only [ugo, uwp, ust, uct, rfd, Bgrouped, Bgrouped_77, Nat.beq, lv_args, rlk, rs1, rs2, rdl, rky, rcd, rno, rsw, Value.category, List.filter, List.take, List.drop, List.reverse, List.reverseAux, List.cons_append, List.nil_append, Option.toList, Int.toNat, Int.reduceToNat, if_pos, if_neg, reduceIte, ↓reduceIte, Nat.reduceAdd, Nat.reduceEqDiff, Nat.reduceBEq, beq_self_eq_true, Bool.not_true, Bool.not_false, Bool.and_true, Bool.and_false, Bool.true_and, Bool.false_and, gI_sI, gI_sL, gI_sA, gI_sM, gL_sI, gL_sL, gL_sA, gL_sM, aI_sI, aI_sL, aI_sA, aI_sM, aL_sI, aL_sL, aL_sA, aL_sM]; try dsimp only
          unfold Qv_groupedJ4
          try dsimp only
          exact ⟨⟨_, rfl⟩, hz⟩
    intro n0
    exact (all n0).1  σ hP
  next => exact hP.elim
theorem w_groupedJ4 : UMet 45 (fun _ _ => True) Qw_groupedJ4 := fun A1 σ _ w τ h c hP => v_groupedJ4 c A1 σ hP w τ h
def Pv_isToldJ4 (c : RS) : UP1 := fun A1 σ => match A1 with
  | [] => J4 c σ
  | _ => False
def Qv_isToldJ4 (c : RS) : UQ1 := fun A1 σ w τ => match A1 with
  | [] => (∃ r : Int32, w = some (.int r)) ∧ J4 c τ
  | _ => False
def Qw_isToldJ4 : UQ1 := fun A1 σ w τ => ∀ (c : RS), Pv_isToldJ4 c A1 σ → Qv_isToldJ4 c A1 σ w τ
set_option maxRecDepth 100000 in
set_option maxHeartbeats 4000000 in
theorem v_isToldJ4 (c : RS) : UMet 46 (Pv_isToldJ4 c) (Qv_isToldJ4 c) := by
  refine UMet.by BisTold [(23, (fun _ _ => True), Qw_isTypeJ4), (15, (fun _ _ => True), Qw_isWordJ4)] rfl (ucc w_isTypeJ4 (ucc w_isWordJ4 uc0)) ?_
  intro A1 σ hP K hB hW
  unfold Pv_isToldJ4 at hP
  split at hP
  next =>
    have all : ∀ N : Nat, (∀ (Y : RS), J4 c Y → K N 0 [(0, .ref 1000)] [] Y) ∧ (∀ (Y : RS), J4 c Y → K N 9 [(0, .ref 1000)] [] Y) ∧ (∀ (Y : RS), J4 c Y → K N 20 [(0, .ref 1000)] [] Y) ∧ (∀ (Y : RS), J4 c Y → K N 24 [(0, .ref 1000)] [] Y) ∧ (∀ (s0 : Int32) (Y : RS), J4 c Y → K N 25 [(0, .ref 1000)] [.int s0] Y) := by
      intro N
      induction N using Nat.strongRecOn with
      | ind N ih =>
        refine ⟨?_, ?_, ?_, ?_, ?_⟩
        · intro Y hz
          refine hB _ _ _ _ _ (fun m1 hm1 => ?_)
          dsimp only [ugo, uwp, ust, uct, rfd, BisTold, BisTold_0, Nat.beq, lv_args, rlk, rs1, rs2, rdl, rky, rcd, rno, rsw, Value.category, List.filter, List.take, List.drop, List.reverse, List.reverseAux, List.cons_append, List.nil_append, Option.toList, Int.toNat, Int.reduceToNat, if_pos, if_neg, reduceIte, ↓reduceIte, Nat.reduceAdd, Nat.reduceEqDiff, Nat.reduceBEq, beq_self_eq_true, Bool.not_true, Bool.not_false, Bool.and_true, Bool.and_false, Bool.true_and, Bool.false_and, gI_sI, gI_sL, gI_sA, gI_sM, gL_sI, gL_sL, gL_sA, gL_sM, aI_sI, aI_sL, aI_sA, aI_sM, aL_sI, aL_sL, aL_sA, aL_sM, oi_21]; try dsimp only
          refine ⟨trivial, fun w2 τ2 hq2 => ?_⟩
          obtain ⟨⟨r2, rfl⟩, hz2⟩ := hq2 c hz
          dsimp only [Option.toList, List.cons_append, List.nil_append, Nat.beq, gI_sI, gI_sL, gI_sA, gI_sM, gL_sI, gL_sL, gL_sA, gL_sM, aI_sI, aI_sL, aI_sA, aI_sM, aL_sI, aL_sL, aL_sA, aL_sM]
          refine ⟨fun h3 => ?_, fun h3 => ?_⟩
          · exact hW _ 20 [(0, .ref 1000)] _ _ _ (by simp [rdl, rky, Value.category]) ((ih m1 hm1).2.2.1  _ hz2)
          · exact hW _ 9 [(0, .ref 1000)] _ _ _ (by simp [rdl, rky, Value.category]) ((ih m1 hm1).2.1  _ hz2)
        · intro Y hz
          refine hB _ _ _ _ _ (fun m1 hm1 => ?_)
          dsimp only [ugo, uwp, ust, uct, rfd, BisTold, BisTold_9, Nat.beq, lv_args, rlk, rs1, rs2, rdl, rky, rcd, rno, rsw, Value.category, List.filter, List.take, List.drop, List.reverse, List.reverseAux, List.cons_append, List.nil_append, Option.toList, Int.toNat, Int.reduceToNat, if_pos, if_neg, reduceIte, ↓reduceIte, Nat.reduceAdd, Nat.reduceEqDiff, Nat.reduceBEq, beq_self_eq_true, Bool.not_true, Bool.not_false, Bool.and_true, Bool.and_false, Bool.true_and, Bool.false_and, gI_sI, gI_sL, gI_sA, gI_sM, gL_sI, gL_sL, gL_sA, gL_sM, aI_sI, aI_sL, aI_sA, aI_sM, aL_sI, aL_sL, aL_sA, aL_sM]; try dsimp only
          refine ⟨trivial, fun w2 τ2 hq2 => ?_⟩
          obtain ⟨⟨r2, rfl⟩, hz2⟩ := hq2 c hz
          dsimp only [Option.toList, List.cons_append, List.nil_append, Nat.beq, gI_sI, gI_sL, gI_sA, gI_sM, gL_sI, gL_sL, gL_sA, gL_sM, aI_sI, aI_sL, aI_sA, aI_sM, aL_sI, aL_sL, aL_sA, aL_sM]
          refine ⟨fun h3 => ?_, fun h3 => ?_⟩
          · exact hW _ 24 [(0, .ref 1000)] _ _ _ (by simp [rdl, rky, Value.category]) ((ih m1 hm1).2.2.2.1  _ hz2)
          · exact hW _ 20 [(0, .ref 1000)] _ _ _ (by simp [rdl, rky, Value.category]) ((ih m1 hm1).2.2.1  _ hz2)
        · intro Y hz
          refine hB _ _ _ _ _ (fun m1 hm1 => ?_)
          dsimp only [ugo, uwp, ust, uct, rfd, BisTold, BisTold_20, Nat.beq, lv_args, rlk, rs1, rs2, rdl, rky, rcd, rno, rsw, Value.category, List.filter, List.take, List.drop, List.reverse, List.reverseAux, List.cons_append, List.nil_append, Option.toList, Int.toNat, Int.reduceToNat, if_pos, if_neg, reduceIte, ↓reduceIte, Nat.reduceAdd, Nat.reduceEqDiff, Nat.reduceBEq, beq_self_eq_true, Bool.not_true, Bool.not_false, Bool.and_true, Bool.and_false, Bool.true_and, Bool.false_and, gI_sI, gI_sL, gI_sA, gI_sM, gL_sI, gL_sL, gL_sA, gL_sM, aI_sI, aI_sL, aI_sA, aI_sM, aL_sI, aL_sL, aL_sA, aL_sM, oi_1]; try dsimp only
          exact hW _ 25 [(0, .ref 1000)] _ _ _ (by simp [rdl, rky, Value.category]) ((ih m1 hm1).2.2.2.2 1 _ hz)
        · intro Y hz
          refine hB _ _ _ _ _ (fun m1 hm1 => ?_)
          dsimp only [ugo, uwp, ust, uct, rfd, BisTold, BisTold_24, Nat.beq, lv_args, rlk, rs1, rs2, rdl, rky, rcd, rno, rsw, Value.category, List.filter, List.take, List.drop, List.reverse, List.reverseAux, List.cons_append, List.nil_append, Option.toList, Int.toNat, Int.reduceToNat, if_pos, if_neg, reduceIte, ↓reduceIte, Nat.reduceAdd, Nat.reduceEqDiff, Nat.reduceBEq, beq_self_eq_true, Bool.not_true, Bool.not_false, Bool.and_true, Bool.and_false, Bool.true_and, Bool.false_and, gI_sI, gI_sL, gI_sA, gI_sM, gL_sI, gL_sL, gL_sA, gL_sM, aI_sI, aI_sL, aI_sA, aI_sM, aL_sI, aL_sL, aL_sA, aL_sM, oi_0]; try dsimp only
          exact hW _ 25 [(0, .ref 1000)] _ _ _ (by simp [rdl, rky, Value.category]) ((ih m1 hm1).2.2.2.2 0 _ hz)
        · intro s0 Y hz
          refine hB _ _ _ _ _ (fun m1 hm1 => ?_)
          dsimp only [ugo, uwp, ust, uct, rfd, BisTold, BisTold_25, Nat.beq, lv_args, rlk, rs1, rs2, rdl, rky, rcd, rno, rsw, Value.category, List.filter, List.take, List.drop, List.reverse, List.reverseAux, List.cons_append, List.nil_append, Option.toList, Int.toNat, Int.reduceToNat, if_pos, if_neg, reduceIte, ↓reduceIte, Nat.reduceAdd, Nat.reduceEqDiff, Nat.reduceBEq, beq_self_eq_true, Bool.not_true, Bool.not_false, Bool.and_true, Bool.and_false, Bool.true_and, Bool.false_and, gI_sI, gI_sL, gI_sA, gI_sM, gL_sI, gL_sL, gL_sA, gL_sM, aI_sI, aI_sL, aI_sA, aI_sM, aL_sI, aL_sL, aL_sA, aL_sM]; try dsimp only
          unfold Qv_isToldJ4
          try dsimp only
          exact ⟨⟨_, rfl⟩, hz⟩
    intro n0
    exact (all n0).1  σ hP
  next => exact hP.elim
theorem w_isToldJ4 : UMet 46 (fun _ _ => True) Qw_isToldJ4 := fun A1 σ _ w τ h c hP => v_isToldJ4 c A1 σ hP w τ h

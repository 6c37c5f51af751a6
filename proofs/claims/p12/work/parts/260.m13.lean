/-! variables that are known, by the frames; where they end -/
/-- the number that a frame's variables name -/
def nuF (a : FrZ) : Int := if a.1 = 12 then 1000 + 3 * (a.2.2.1.2 : Int) + 1 else if 9 ≤ a.1 then 1000 + 3 * (a.2.2.1.2 : Int) + (a.1 - 9) else (a.2.2.1.2 : Int)
def scF (k : Int) : Bool := decide (k = 0) || decide (k = 1) || decide (k = 6) || decide (8 ≤ k)
def KnZ (w : Nat → Int) : List FrZ → List (Int × Int) → Prop
  | [], l => l = []
  | a :: F, l => if scF a.1 = true then ∃ seg, l = seg ++ a.2.2.2.2 ∧ (∀ p ∈ seg, 0 ≤ p.1 ∧ w p.1.toNat = nuF a) ∧ KnZ w F a.2.2.2.2 else KnZ w F l
/-- things go down -/
def FtZ : List FrZ → Nat → Prop
  | [], _ => True
  | a :: F, m => a.2.2.1.2 < m ∧ a.1 ≤ 12 ∧ FtZ F a.2.2.1.2
theorem FtZ.m {F : List FrZ} {m m' : Nat} (h : FtZ F m) (hm : m ≤ m') : FtZ F m' := by
  cases F with
  | nil => trivial
  | cons a F => exact ⟨Nat.lt_of_lt_of_le h.1 hm, h.2⟩
theorem kn_in {w : Nat → Int} : ∀ {F : List FrZ} {l : List (Int × Int)} {m : Nat}, KnZ w F l → FtZ F m → ∀ p ∈ l, 0 ≤ p.1 ∧ ∃ b : FrZ, b.2.2.1.2 < m ∧ b.1 ≤ 12 ∧ w p.1.toNat = nuF b := by
  intro F
  induction F with
  | nil =>
    intro l m h _ p hp
    have h : l = [] := h
    rw [h] at hp
    cases hp
  | cons a F ih =>
    intro l m h ht p hp
    have h : (if scF a.1 = true then ∃ seg, l = seg ++ a.2.2.2.2 ∧ (∀ p ∈ seg, 0 ≤ p.1 ∧ w p.1.toNat = nuF a) ∧ KnZ w F a.2.2.2.2 else KnZ w F l) := h
    obtain ⟨t1, t2, t3⟩ := ht
    by_cases hs : scF a.1 = true
    · rw [if_pos hs] at h
      obtain ⟨seg, rfl, h1, h2⟩ := h
      rcases List.mem_append.mp hp with hp | hp
      · exact ⟨(h1 p hp).1, a, t1, t2, (h1 p hp).2⟩
      · exact ih h2 (t3.m (by omega)) p hp
    · rw [if_neg hs] at h
      exact ih h (t3.m (by omega)) p hp
theorem nu_ne {a b : FrZ} (h : b.2.2.1.2 < a.2.2.1.2) (ha : a.2.2.1.2 < 1000) (h1 : a.1 ≤ 12) (h2 : b.1 ≤ 12) : ¬ nuF b = nuF a := by
  have A : nuF a = (a.2.2.1.2 : Int) ∨ ∃ i, 0 ≤ i ∧ i ≤ 2 ∧ nuF a = 1000 + 3 * (a.2.2.1.2 : Int) + i := by
    unfold nuF
    by_cases p : a.1 = 12
    · rw [if_pos p]; exact Or.inr ⟨1, by decide, by decide, rfl⟩
    · rw [if_neg p]
      by_cases q : 9 ≤ a.1
      · rw [if_pos q]; exact Or.inr ⟨a.1 - 9, by omega, by omega, rfl⟩
      · rw [if_neg q]; exact Or.inl rfl
  have B : nuF b = (b.2.2.1.2 : Int) ∨ ∃ i, 0 ≤ i ∧ i ≤ 2 ∧ nuF b = 1000 + 3 * (b.2.2.1.2 : Int) + i := by
    unfold nuF
    by_cases p : b.1 = 12
    · rw [if_pos p]; exact Or.inr ⟨1, by decide, by decide, rfl⟩
    · rw [if_neg p]
      by_cases q : 9 ≤ b.1
      · rw [if_pos q]; exact Or.inr ⟨b.1 - 9, by omega, by omega, rfl⟩
      · rw [if_neg q]; exact Or.inl rfl
  rcases A with A | ⟨i, A0, A1, A⟩ <;> rcases B with B | ⟨j, B0, B1, B⟩ <;> omega
theorem ve_in {t : Int} {f : Nat → Int} {k : Nat} : ∀ {l : List (Int × Int)}, (∃ p ∈ l, p.1 = (k : Int)) → veZ t l f k = t := by
  intro l
  induction l with
  | nil => intro h; obtain ⟨p, hp, _⟩ := h; cases hp
  | cons x l ih =>
    intro h
    obtain ⟨v, y⟩ := x
    show (if (k : Int) = v then t else veZ t l f k) = t
    by_cases q : (k : Int) = v
    · rw [if_pos q]
    · rw [if_neg q]
      obtain ⟨p, hp, e⟩ := h
      rcases List.mem_cons.mp hp with rfl | hp
      · exact absurd e.symm q
      · exact ih ⟨p, hp, e⟩
theorem ve_no {t : Int} {f : Nat → Int} {k : Nat} : ∀ {l : List (Int × Int)}, ¬ (∃ p ∈ l, p.1 = (k : Int)) → veZ t l f k = f k := by
  intro l
  induction l with
  | nil => intro _; rfl
  | cons x l ih =>
    intro h
    obtain ⟨v, y⟩ := x
    show (if (k : Int) = v then t else veZ t l f k) = f k
    rw [if_neg (fun q => h ⟨(v, y), List.mem_cons_self, q.symm⟩)]
    exact ih (fun ⟨p, hp, e⟩ => h ⟨p, List.mem_cons_of_mem _ hp, e⟩)
/-- ends: -2 where known -/
def EnZ (e : Nat → Int) (l : List (Int × Int)) (f : Nat → Int) (n : Nat) : Prop := ∀ v, v < n → ((∃ p ∈ l, p.1 = (v : Int)) → e v = -2) ∧ (¬ (∃ p ∈ l, p.1 = (v : Int)) → 0 ≤ e v ∧ e v = f v)
/-- a frame is left -/
theorem EnZ.lv {e w f : Nat → Int} {n : Nat} {a : FrZ} {F : List FrZ} {l : List (Int × Int)} {m : Nat} {t : Int} {e' : Nat → Int} (h : EnZ e l f n) (hk : KnZ w (a :: F) l) (hs : scF a.1 = true) (ht : FtZ (a :: F) m) (hm : m ≤ 1000) (h0 : 0 ≤ t) (he : ∀ v, v < n → e' v = if w v = nuF a ∧ e v < 0 then t else e v) : EnZ e' a.2.2.2.2 (veZ t (l.take (l.length - a.2.2.2.2.length)) f) n ∧ KnZ w F a.2.2.2.2 := by
  have hk : (if scF a.1 = true then ∃ seg, l = seg ++ a.2.2.2.2 ∧ (∀ p ∈ seg, 0 ≤ p.1 ∧ w p.1.toNat = nuF a) ∧ KnZ w F a.2.2.2.2 else KnZ w F l) := hk
  rw [if_pos hs] at hk
  obtain ⟨seg, rfl, h1, h2⟩ := hk
  obtain ⟨t1, t2, t3⟩ := ht
  have e0 : (seg ++ a.2.2.2.2).take ((seg ++ a.2.2.2.2).length - a.2.2.2.2.length) = seg := by
    rw [List.length_append, Nat.add_sub_cancel, List.take_left]
  rw [e0]
  refine ⟨fun v hv => ⟨fun hp => ?_, fun hp => ?_⟩, h2⟩
  · have hx := h v hv
    obtain ⟨p, hp1, hp2⟩ := hp
    have e1 := hx.1 ⟨p, List.mem_append.mpr (Or.inr hp1), hp2⟩
    obtain ⟨b0, b, b1, b2, b3⟩ := kn_in h2 t3 p hp1
    have e2 : p.1.toNat = v := by omega
    rw [e2] at b3
    have ne := nu_ne b1 (show a.2.2.1.2 < 1000 by omega) t2 b2
    rw [he v hv, if_neg (fun q => ne (b3.symm.trans q.1))]
    exact e1
  · have hx := h v hv
    by_cases hq : ∃ p ∈ seg, p.1 = (v : Int)
    · rw [ve_in hq]
      obtain ⟨p, hp1, hp2⟩ := hq
      have e1 := hx.1 ⟨p, List.mem_append.mpr (Or.inl hp1), hp2⟩
      have e2 : p.1.toNat = v := by omega
      have e3 := (h1 p hp1).2
      rw [e2] at e3
      rw [he v hv, if_pos ⟨e3, by omega⟩]
      exact ⟨h0, rfl⟩
    · rw [ve_no hq]
      have e1 := hx.2 (fun ⟨p, hp1, hp2⟩ => (List.mem_append.mp hp1).elim (fun z => hq ⟨p, z, hp2⟩) (fun z => hp ⟨p, z, hp2⟩))
      rw [he v hv, if_neg (fun q => by have := q.2; omega)]
      exact e1
/-- one more variable, known in the frame on top -/
theorem EnZ.va {e e' f : Nat → Int} {n : Nat} {l : List (Int × Int)} {y : Int} (h : EnZ e l f n) (he : ∀ v, v < n → e' v = e v) (hn : e' n = -2) : EnZ e' (((n : Int), y) :: l) f (n + 1) := by
  intro v hv
  by_cases q : v = n
  · subst q
    exact ⟨fun _ => hn, fun hp => absurd ⟨_, List.mem_cons_self, rfl⟩ hp⟩
  · have hv' : v < n := by omega
    have hx := h v hv'
    rw [he v hv']
    refine ⟨fun hp => ?_, fun hp => hx.2 (fun ⟨p, a, b⟩ => hp ⟨p, List.mem_cons_of_mem _ a, b⟩)⟩
    obtain ⟨p, a, b⟩ := hp
    rcases List.mem_cons.mp a with rfl | a
    · exfalso
      have b : (n : Int) = v := b
      omega
    · exact hx.1 ⟨p, a, b⟩
/-- the frame that a variable's number comes from: the first that is one -/
def sfF : List FrZ → Int
  | [] => 0
  | a :: F => if scF a.1 = true then nuF a else sfF F
theorem KnZ.w {w w' : Nat → Int} : ∀ {F : List FrZ} {l : List (Int × Int)} {n : Nat}, KnZ w F l → (∀ p ∈ l, p.1 < (n : Int)) → (∀ v, v < n → w' v = w v) → KnZ w' F l := by
  intro F
  induction F with
  | nil => intro l n h _ _; exact h
  | cons a F ih =>
    intro l n h hl he
    have h : (if scF a.1 = true then ∃ seg, l = seg ++ a.2.2.2.2 ∧ (∀ p ∈ seg, 0 ≤ p.1 ∧ w p.1.toNat = nuF a) ∧ KnZ w F a.2.2.2.2 else KnZ w F l) := h
    show (if scF a.1 = true then ∃ seg, l = seg ++ a.2.2.2.2 ∧ (∀ p ∈ seg, 0 ≤ p.1 ∧ w' p.1.toNat = nuF a) ∧ KnZ w' F a.2.2.2.2 else KnZ w' F l)
    by_cases hs : scF a.1 = true
    · rw [if_pos hs] at h ⊢
      obtain ⟨seg, rfl, h1, h2⟩ := h
      refine ⟨seg, rfl, fun p hp => ⟨(h1 p hp).1, ?_⟩, ih h2 (fun p hp => hl p (List.mem_append.mpr (Or.inr hp))) he⟩
      have a1 := (h1 p hp).1
      have a2 := hl p (List.mem_append.mpr (Or.inl hp))
      rw [he _ (by omega)]
      exact (h1 p hp).2
    · rw [if_neg hs] at h ⊢
      exact ih h hl he
theorem KnZ.va {w : Nat → Int} : ∀ {F : List FrZ} {l : List (Int × Int)} {n : Nat} {y : Int}, KnZ w F l → (∃ a ∈ F, scF a.1 = true) → w n = sfF F → KnZ w F (((n : Int), y) :: l) := by
  intro F
  induction F with
  | nil => intro l n y _ h _; obtain ⟨a, ha, _⟩ := h; cases ha
  | cons a F ih =>
    intro l n y h hx hw
    have h : (if scF a.1 = true then ∃ seg, l = seg ++ a.2.2.2.2 ∧ (∀ p ∈ seg, 0 ≤ p.1 ∧ w p.1.toNat = nuF a) ∧ KnZ w F a.2.2.2.2 else KnZ w F l) := h
    have hw : w n = if scF a.1 = true then nuF a else sfF F := hw
    show (if scF a.1 = true then ∃ seg, _ = seg ++ a.2.2.2.2 ∧ (∀ p ∈ seg, 0 ≤ p.1 ∧ w p.1.toNat = nuF a) ∧ KnZ w F a.2.2.2.2 else KnZ w F _)
    by_cases hs : scF a.1 = true
    · rw [if_pos hs] at h hw ⊢
      obtain ⟨seg, rfl, h1, h2⟩ := h
      refine ⟨((n : Int), y) :: seg, rfl, fun p hp => ?_, h2⟩
      rcases List.mem_cons.mp hp with rfl | hp
      · exact ⟨Int.natCast_nonneg n, hw⟩
      · exact h1 p hp
    · rw [if_neg hs] at h hw ⊢
      refine ih h ?_ hw
      obtain ⟨b, hb, e⟩ := hx
      rcases List.mem_cons.mp hb with rfl | hb
      · exact absurd e hs
      · exact ⟨b, hb, e⟩

/-! the class's heap: objects and rows by their place in the world, which is their age -/
/-- a value: an int, a long, a reference (the place of an object, or a constant's number from 1000000 on) -/
abbrev AvC : Type := Int32 ⊕ Int64 ⊕ Option Nat
/-- how many, how many slots; tag and length; fields by their number; elements -/
abbrev CsC : Type := ((Nat × Nat) × Nat × Nat) × (Nat → Nat × Nat × Nat) × ((Nat → Nat → Int32) × (Nat → Nat → Int64) × (Nat → Nat → Option Nat)) × ((Nat → Nat → Int32) × (Nat → Nat → Int64) × (Nat → Nat → Option Nat))
def cnC (σ : CsC) : Nat := σ.1.1.1
def slC (σ : CsC) : Nat := σ.1.1.2
/-- how many there may be at most, and how many slots -/
def cpC (σ : CsC) : Nat := σ.1.2.1
def spC (σ : CsC) : Nat := σ.1.2.2
def tgC (σ : CsC) (a : Nat) : Nat := (σ.2.1 a).1
def alC (σ : CsC) (a : Nat) : Nat := (σ.2.1 a).2.1
/-- what else is to be known of it -/
def ghC (σ : CsC) (a : Nat) : Nat := (σ.2.1 a).2.2
def fIC (σ : CsC) (a k : Nat) : Int32 := σ.2.2.1.1 a k
def fLC (σ : CsC) (a k : Nat) : Int64 := σ.2.2.1.2.1 a k
def fRC (σ : CsC) (a k : Nat) : Option Nat := σ.2.2.1.2.2 a k
def eIC (σ : CsC) (a : Nat) : Nat → Int32 := σ.2.2.2.1 a
def eLC (σ : CsC) (a : Nat) : Nat → Int64 := σ.2.2.2.2.1 a
def eRC (σ : CsC) (a : Nat) : Nat → Option Nat := σ.2.2.2.2.2 a
def u2C {α : Type} (f : Nat → Nat → α) (a k : Nat) (v : α) : Nat → Nat → α := fun b j => match Nat.beq j k with
  | true => (match Nat.beq b a with
    | true => v
    | false => f b j)
  | false => f b j
def u1C {α : Type} (f : Nat → α) (a : Nat) (v : α) : Nat → α := fun b => match Nat.beq b a with
  | true => v
  | false => f b
def pIC (σ : CsC) (a k : Nat) (v : Int32) : CsC := (σ.1, σ.2.1, (u2C σ.2.2.1.1 a k v, σ.2.2.1.2.1, σ.2.2.1.2.2), σ.2.2.2)
def pLC (σ : CsC) (a k : Nat) (v : Int64) : CsC := (σ.1, σ.2.1, (σ.2.2.1.1, u2C σ.2.2.1.2.1 a k v, σ.2.2.1.2.2), σ.2.2.2)
def pRC (σ : CsC) (a k : Nat) (v : Option Nat) : CsC := (σ.1, σ.2.1, (σ.2.2.1.1, σ.2.2.1.2.1, u2C σ.2.2.1.2.2 a k v), σ.2.2.2)
def qIC (σ : CsC) (a : Nat) (f : Nat → Int32) : CsC := (σ.1, σ.2.1, σ.2.2.1, (u1C σ.2.2.2.1 a f, σ.2.2.2.2.1, σ.2.2.2.2.2))
def qLC (σ : CsC) (a : Nat) (f : Nat → Int64) : CsC := (σ.1, σ.2.1, σ.2.2.1, (σ.2.2.2.1, u1C σ.2.2.2.2.1 a f, σ.2.2.2.2.2))
def qRC (σ : CsC) (a : Nat) (f : Nat → Option Nat) : CsC := (σ.1, σ.2.1, σ.2.2.1, (σ.2.2.2.1, σ.2.2.2.2.1, u1C σ.2.2.2.2.2 a f))
/-- a new object of tag t with N fields; a new row of tag t and length n -/
def nOC (σ : CsC) (t N g : Nat) : CsC := (((cnC σ + 1, slC σ + N), σ.1.2), u1C σ.2.1 (cnC σ) (t, 0, g), (u1C σ.2.2.1.1 (cnC σ) (fun _ => 0), u1C σ.2.2.1.2.1 (cnC σ) (fun _ => 0), u1C σ.2.2.1.2.2 (cnC σ) (fun _ => none)), σ.2.2.2)
def nAC (σ : CsC) (t n g : Nat) : CsC := (((cnC σ + 1, slC σ + n), σ.1.2), u1C σ.2.1 (cnC σ) (t, n, g), σ.2.2.1, (u1C σ.2.2.2.1 (cnC σ) (fun _ => 0), u1C σ.2.2.2.2.1 (cnC σ) (fun _ => 0), u1C σ.2.2.2.2.2 (cnC σ) (fun _ => none)))
/-- another tag -/
def rTC (σ : CsC) (a t g : Nat) : CsC := (σ.1, u1C σ.2.1 a (t, (σ.2.1 a).2.1, g), σ.2.2)
/-- the same world: tags may differ where the class doesn't -/
def WeC (σ τ : CsC) : Prop := τ.1 = σ.1 ∧ τ.2.2 = σ.2.2 ∧ ∀ a, alC τ a = alC σ a ∧ (tgC τ a = tgC σ a ∨ (tgC σ a < 100 ∧ tgC τ a < 100 ∧ tgC τ a % 50 = tgC σ a % 50))
/-- a field's kind: 0 int, 1 boolean, 2 long, 3 reference -/
def fkC (k : Nat) : Nat := [0, 3, 0, 9, 9, 9, 9, 9, 9, 9, 9, 9, 9, 9, 9, 9, 9, 9, 9, 9, 9, 9, 9, 9, 9, 9, 9, 9, 9, 9, 3, 3, 3, 3, 0, 3, 3, 9, 9, 9, 9, 9, 9, 9, 9, 9, 9, 9, 9, 9, 9, 9, 9, 9, 9, 9, 9, 9, 9, 9, 0, 0, 0, 0, 0, 0, 0, 0, 0, 0, 1, 2, 3, 3, 3, 3, 3, 0, 9, 9, 9, 9, 9, 9, 9, 9, 9, 9, 9, 9, 3, 2, 2, 3, 0, 9, 9, 9, 9, 9, 9, 9, 9, 9, 9, 9, 9, 9, 9, 9, 9, 9, 9, 9, 9, 9, 9, 9, 9, 9, 3, 3, 9, 9, 9, 9, 9, 9, 9, 9, 9, 9, 9, 9, 9, 9, 9, 9, 9, 9, 9, 9, 9, 9, 9, 9, 9, 9, 9, 9, 3, 3, 3, 3, 3, 3, 3, 3, 3, 3, 0, 0, 0, 0, 0, 0, 0, 0, 0, 0, 2, 9, 9, 9, 9, 9, 9, 9, 9, 9, 0, 2, 0, 3, 0, 0, 3, 9, 9, 9, 9, 9, 9, 9, 9, 9, 9, 9, 9, 9, 9, 9, 9, 9, 9, 9, 9, 9, 9, 9, 3, 3, 3, 3, 3, 3, 3, 0, 0, 9, 9, 9, 9, 9, 9, 9, 9, 9, 9, 9, 9, 9, 9, 9, 9, 9, 9, 9, 9, 9, 3, 3, 0, 0, 0, 2, 3, 9, 9, 9, 9, 9, 9, 9, 9, 9, 9, 9, 9, 9, 9, 9, 9, 9, 9, 9, 9, 9, 9, 9, 0, 0, 0, 3, 2, 3, 3, 3, 3, 3, 0, 3, 1, 1, 1, 2, 2, 2, 2, 0, 0, 9, 9, 9, 9, 9, 9, 9, 9, 9, 3, 3, 3, 3, 3, 0, 3, 3, 0, 9, 9, 9, 9, 9, 9, 9, 9, 9, 9, 9, 9, 9, 9, 9, 9, 9, 9, 9, 9, 9, 0, 0, 1, 0, 1, 1, 2, 9, 9, 9, 9, 9, 9, 9, 9, 9, 9, 9, 9, 9, 9, 9, 9, 9, 9, 9, 9, 9, 9, 9, 3, 3, 3, 3, 3, 3, 3, 3, 3, 0, 0, 0, 1, 9, 9, 9, 9, 9, 9, 9, 9, 9, 9, 9, 9, 9, 9, 9, 9, 9].getD k 9
def nfC (k : Nat) : Nat := [3, 7, 18, 5, 2, 21, 7, 9, 7, 21, 9, 7, 13].getD k 0
/-- the class of an object's tag: an object under construction has 50 more -/
def clsC (t : Nat) : Nat := t % 50
def cvC (ad : Nat → Nat) (v : AvC) : Value := match v with
  | .inl x => .int x
  | .inr (.inl x) => .long x
  | .inr (.inr none) => .null
  | .inr (.inr (some a)) => .ref (ad a)
def fvlC (ad : Nat → Nat) (σ : CsC) (a k : Nat) : Value := match fkC k with
  | 0 => .int (fIC σ a k)
  | 1 => .int (fIC σ a k)
  | 2 => .long (fLC σ a k)
  | _ => cvC ad (.inr (.inr (fRC σ a k)))
def flsC (ad : Nat → Nat) (σ : CsC) (a c : Nat) : List Value := (List.range (nfC c)).map (fun j => fvlC ad σ a (30 * c + j))
/-- rows: 100 ints, 101 bytes, 102 longs, from 103 on references (Object, Exp, Statement) -/
def rdtC (ad : Nat → Nat) (σ : CsC) (a t : Nat) : vp_A := (alC σ a, match t with
  | 100 => .inl (eIC σ a)
  | 101 => .inl (eIC σ a)
  | 102 => .inr (.inl (eLC σ a))
  | _ => .inr (.inr (.inr (.inr (fun i => (eRC σ a i).map ad)))))
def entC (ad : Nat → Nat) (kA : Nat → ClassId) (σ : CsC) (a : Nat) : va_E := match Nat.blt (tgC σ a) 100 with
  | true => .inr (clsC (tgC σ a), flsC ad σ a (clsC (tgC σ a)))
  | false => .inl (kA (tgC σ a), rdtC ad σ a (tgC σ a))
def rtyC (t : Nat) : FieldType := match t with
  | 100 => .int
  | 101 => .byte
  | 102 => .long
  | 103 => .object "java/lang/Object"
  | 104 => .object "PlainJava$Exp"
  | _ => .object "PlainJava$Statement"
/-- the world of a state -/
def CrC (ad : Nat → Nat) (kA : Nat → ClassId) (σ : CsC) (ws : va_W) : Prop := ws.length = cnC σ ∧ ∀ a, a < cnC σ → ws[a]? = some (ad a, entC ad kA σ a)
/-- the classes of rows -/
def tyC (kA : Nat → ClassId) : List (ClassId × FieldType) := [(kA 100, .int), (kA 101, .byte), (kA 102, .long), (kA 103, .object "java/lang/Object"), (kA 104, .object "PlainJava$Exp"), (kA 105, .object "PlainJava$Statement")]
theorem u2C_eq {α : Type} {f : Nat → Nat → α} {a k : Nat} {v : α} : u2C f a k v a k = v := by unfold u2C; rw [show Nat.beq k k = true from Nat.beq_refl k, show Nat.beq a a = true from Nat.beq_refl a]
theorem u2C_nk {α : Type} {f : Nat → Nat → α} {a k b j : Nat} {v : α} (h : j ≠ k) : u2C f a k v b j = f b j := by
  unfold u2C
  cases hb : Nat.beq j k with
  | false => rfl
  | true => exact absurd (Nat.eq_of_beq_eq_true hb) h
theorem u2C_na {α : Type} {f : Nat → Nat → α} {a k b j : Nat} {v : α} (h : b ≠ a) : u2C f a k v b j = f b j := by
  unfold u2C
  cases hb : Nat.beq b a with
  | false => cases Nat.beq j k <;> rfl
  | true => exact absurd (Nat.eq_of_beq_eq_true hb) h
theorem u1C_eq {α : Type} {f : Nat → α} {a : Nat} {v : α} : u1C f a v a = v := by unfold u1C; rw [show Nat.beq a a = true from Nat.beq_refl a]
theorem u1C_ne {α : Type} {f : Nat → α} {a b : Nat} {v : α} (h : b ≠ a) : u1C f a v b = f b := by
  unfold u1C
  cases hb : Nat.beq b a with
  | false => rfl
  | true => exact absurd (Nat.eq_of_beq_eq_true hb) h
theorem flsC_len {ad : Nat → Nat} {σ : CsC} {a c : Nat} : (flsC ad σ a c).length = nfC c := by simp [flsC]
theorem flsC_at {ad : Nat → Nat} {σ : CsC} {a c j : Nat} (h : j < nfC c) : (flsC ad σ a c)[j]? = some (fvlC ad σ a (30 * c + j)) := by
  unfold flsC
  rw [List.getElem?_map, List.getElem?_range h]
  rfl
theorem flsC_set {ad : Nat → Nat} {σ τ : CsC} {a c j : Nat} {v : Value} (hj : j < nfC c) (hv : fvlC ad τ a (30 * c + j) = v) (ho : ∀ i, i ≠ j → fvlC ad τ a (30 * c + i) = fvlC ad σ a (30 * c + i)) : (flsC ad σ a c).set j v = flsC ad τ a c := by
  apply List.ext_getElem?
  intro i
  rw [List.getElem?_set]
  by_cases e : j = i
  · subst e
    rw [if_pos rfl, flsC_len, if_pos hj, flsC_at hj, hv]
  · rw [if_neg e]
    by_cases hi : i < nfC c
    · rw [flsC_at hi, flsC_at hi, ho i (fun q => e q.symm)]
    · rw [List.getElem?_eq_none (by rw [flsC_len]; omega), List.getElem?_eq_none (by rw [flsC_len]; omega)]
/-- an object of class c stands there -/
def ObC (σ : CsC) (a c : Nat) : Prop := a < cnC σ ∧ tgC σ a < 100 ∧ clsC (tgC σ a) = c
/-- a row of tag t stands there -/
def RwC (σ : CsC) (a t : Nat) : Prop := a < cnC σ ∧ tgC σ a = t
theorem entC_ob {ad : Nat → Nat} {kA : Nat → ClassId} {σ : CsC} {a c : Nat} (h : ObC σ a c) : entC ad kA σ a = .inr (c, flsC ad σ a c) := by
  unfold entC
  have : Nat.blt (tgC σ a) 100 = true := by rw [Nat.blt_eq]; exact h.2.1
  rw [this, h.2.2]
theorem entC_rw {ad : Nat → Nat} {kA : Nat → ClassId} {σ : CsC} {a t : Nat} (h : RwC σ a t) (ht : 100 ≤ t) : entC ad kA σ a = .inl (kA t, rdtC ad σ a t) := by
  unfold entC
  have : Nat.blt (tgC σ a) 100 = false := by
    cases hb : Nat.blt (tgC σ a) 100 with
    | false => rfl
    | true => rw [Nat.blt_eq] at hb; rw [h.2] at hb; omega
  rw [this, h.2]
/-- one entry of the world is set -/
theorem CrC.set {ad : Nat → Nat} {kA : Nat → ClassId} {σ τ : CsC} {ws : va_W} {a : Nat} {e : va_E} (h : CrC ad kA σ ws) (ha : a < cnC σ) (hc : cnC τ = cnC σ) (he : entC ad kA τ a = e) (ho : ∀ b, b ≠ a → entC ad kA τ b = entC ad kA σ b) : CrC ad kA τ (ws.set a (ad a, e)) := by
  refine ⟨by rw [List.length_set, hc]; exact h.1, fun b hb => ?_⟩
  rw [hc] at hb
  by_cases q : b = a
  · subst q
    rw [List.getElem?_set_self (by rw [h.1]; exact ha), he]
  · rw [List.getElem?_set_ne (fun z => q z.symm), ho b q]
    exact h.2 b hb
/-- one entry more -/
theorem CrC.push {ad : Nat → Nat} {kA : Nat → ClassId} {σ τ : CsC} {ws : va_W} {e : va_E} (h : CrC ad kA σ ws) (hc : cnC τ = cnC σ + 1) (he : entC ad kA τ (cnC σ) = e) (ho : ∀ b, b < cnC σ → entC ad kA τ b = entC ad kA σ b) : CrC ad kA τ (ws ++ [(ad (cnC σ), e)]) := by
  refine ⟨by rw [List.length_append, hc, h.1]; rfl, fun b hb => ?_⟩
  rw [hc] at hb
  by_cases z : b < cnC σ
  · rw [List.getElem?_append_left (by rw [h.1]; exact z), h.2 b z, ho b z]
  · obtain rfl : b = cnC σ := by omega
    rw [List.getElem?_append_right (by rw [h.1]; exact Nat.le_refl _), h.1, Nat.sub_self, he]
    rfl
theorem entC_congr {ad : Nat → Nat} {kA : Nat → ClassId} {σ τ : CsC} {b : Nat} (ht : tgC τ b = tgC σ b) (hf : ∀ k, fvlC ad τ b k = fvlC ad σ b k) (hd : ∀ t, rdtC ad τ b t = rdtC ad σ b t) : entC ad kA τ b = entC ad kA σ b := by
  unfold entC flsC
  rw [ht]
  cases Nat.blt (tgC σ b) 100 with
  | true =>
    dsimp only
    congr 2
    exact List.map_congr_left (fun j _ => hf _)
  | false =>
    dsimp only
    rw [hd]
theorem fvlC_pI {ad : Nat → Nat} {σ : CsC} {a b k j : Nat} {v : Int32} (h : j ≠ k ∨ b ≠ a) : fvlC ad (pIC σ a k v) b j = fvlC ad σ b j := by
  have e : fIC (pIC σ a k v) b j = fIC σ b j := h.elim (fun q => u2C_nk q) (fun q => u2C_na q)
  unfold fvlC
  rw [e]
  rfl
theorem fvlC_pL {ad : Nat → Nat} {σ : CsC} {a b k j : Nat} {v : Int64} (h : j ≠ k ∨ b ≠ a) : fvlC ad (pLC σ a k v) b j = fvlC ad σ b j := by
  have e : fLC (pLC σ a k v) b j = fLC σ b j := h.elim (fun q => u2C_nk q) (fun q => u2C_na q)
  unfold fvlC
  rw [e]
  rfl
theorem fvlC_pR {ad : Nat → Nat} {σ : CsC} {a b k j : Nat} {v : Option Nat} (h : j ≠ k ∨ b ≠ a) : fvlC ad (pRC σ a k v) b j = fvlC ad σ b j := by
  have e : fRC (pRC σ a k v) b j = fRC σ b j := h.elim (fun q => u2C_nk q) (fun q => u2C_na q)
  unfold fvlC
  rw [e]
  rfl
theorem CrC.pI {ad : Nat → Nat} {kA : Nat → ClassId} {σ : CsC} {ws : va_W} {a c j : Nat} {v : Int32} (h : CrC ad kA σ ws) (ho : ObC σ a c) (hj : j < nfC c) (hk : fkC (30 * c + j) = 0 ∨ fkC (30 * c + j) = 1) : CrC ad kA (pIC σ a (30 * c + j) v) (ws.set a (ad a, .inr (c, (flsC ad σ a c).set j (.int v)))) := by
  refine h.set ho.1 rfl ?_ (fun b hb => entC_congr rfl (fun k => fvlC_pI (Or.inr hb)) (fun _ => rfl))
  rw [entC_ob (σ := pIC σ a (30 * c + j) v) ho, flsC_set (σ := σ) (τ := pIC σ a (30 * c + j) v) hj]
  · unfold fvlC
    have e : fIC (pIC σ a (30 * c + j) v) a (30 * c + j) = v := u2C_eq
    rcases hk with q | q <;> (rw [q, e]; rfl)
  · exact fun i hi => fvlC_pI (Or.inl (by omega))
theorem CrC.pL {ad : Nat → Nat} {kA : Nat → ClassId} {σ : CsC} {ws : va_W} {a c j : Nat} {v : Int64} (h : CrC ad kA σ ws) (ho : ObC σ a c) (hj : j < nfC c) (hk : fkC (30 * c + j) = 2) : CrC ad kA (pLC σ a (30 * c + j) v) (ws.set a (ad a, .inr (c, (flsC ad σ a c).set j (.long v)))) := by
  refine h.set ho.1 rfl ?_ (fun b hb => entC_congr rfl (fun k => fvlC_pL (Or.inr hb)) (fun _ => rfl))
  rw [entC_ob (σ := pLC σ a (30 * c + j) v) ho, flsC_set (σ := σ) (τ := pLC σ a (30 * c + j) v) hj]
  · unfold fvlC
    have e : fLC (pLC σ a (30 * c + j) v) a (30 * c + j) = v := u2C_eq
    rw [hk, e]; rfl
  · exact fun i hi => fvlC_pL (Or.inl (by omega))
theorem CrC.pR {ad : Nat → Nat} {kA : Nat → ClassId} {σ : CsC} {ws : va_W} {a c j : Nat} {v : Option Nat} (h : CrC ad kA σ ws) (ho : ObC σ a c) (hj : j < nfC c) (hk : fkC (30 * c + j) = 3) : CrC ad kA (pRC σ a (30 * c + j) v) (ws.set a (ad a, .inr (c, (flsC ad σ a c).set j (cvC ad (.inr (.inr v)))))) := by
  refine h.set ho.1 rfl ?_ (fun b hb => entC_congr rfl (fun k => fvlC_pR (Or.inr hb)) (fun _ => rfl))
  rw [entC_ob (σ := pRC σ a (30 * c + j) v) ho, flsC_set (σ := σ) (τ := pRC σ a (30 * c + j) v) hj]
  · unfold fvlC
    have e : fRC (pRC σ a (30 * c + j) v) a (30 * c + j) = v := u2C_eq
    rw [hk, e]; rfl
  · exact fun i hi => fvlC_pR (Or.inl (by omega))
theorem CrC.qI {ad : Nat → Nat} {kA : Nat → ClassId} {σ : CsC} {ws : va_W} {a t : Nat} {f : Nat → Int32} (h : CrC ad kA σ ws) (ho : RwC σ a t) (ht : t = 100 ∨ t = 101) : CrC ad kA (qIC σ a f) (ws.set a (ad a, .inl (kA t, (alC σ a, .inl f)))) := by
  refine h.set ho.1 rfl ?_ (fun b hb => entC_congr rfl (fun _ => rfl) (fun z => ?_))
  · rw [entC_rw (σ := qIC σ a f) ho (by omega)]
    have e : eIC (qIC σ a f) a = f := u1C_eq
    rcases ht with rfl | rfl <;> (unfold rdtC; rw [e]; rfl)
  · have e : eIC (qIC σ a f) b = eIC σ b := u1C_ne hb
    unfold rdtC
    rw [e]
    rfl
theorem CrC.qL {ad : Nat → Nat} {kA : Nat → ClassId} {σ : CsC} {ws : va_W} {a : Nat} {f : Nat → Int64} (h : CrC ad kA σ ws) (ho : RwC σ a 102) : CrC ad kA (qLC σ a f) (ws.set a (ad a, .inl (kA 102, (alC σ a, .inr (.inl f))))) := by
  refine h.set ho.1 rfl ?_ (fun b hb => entC_congr rfl (fun _ => rfl) (fun z => ?_))
  · rw [entC_rw (σ := qLC σ a f) ho (by omega)]
    have e : eLC (qLC σ a f) a = f := u1C_eq
    unfold rdtC; rw [e]; rfl
  · have e : eLC (qLC σ a f) b = eLC σ b := u1C_ne hb
    unfold rdtC
    rw [e]
    rfl
theorem rdtC_r {ad : Nat → Nat} {σ : CsC} {a t : Nat} (ht : t = 103 ∨ t = 104 ∨ t = 105) : rdtC ad σ a t = (alC σ a, .inr (.inr (.inr (.inr (fun i => (eRC σ a i).map ad))))) := by
  rcases ht with rfl | rfl | rfl <;> rfl
theorem CrC.qR {ad : Nat → Nat} {kA : Nat → ClassId} {σ : CsC} {ws : va_W} {a t : Nat} {f : Nat → Option Nat} (h : CrC ad kA σ ws) (ho : RwC σ a t) (ht : t = 103 ∨ t = 104 ∨ t = 105) : CrC ad kA (qRC σ a f) (ws.set a (ad a, .inl (kA t, (alC σ a, .inr (.inr (.inr (.inr (fun i => (f i).map ad)))))))) := by
  refine h.set ho.1 rfl ?_ (fun b hb => entC_congr rfl (fun _ => rfl) (fun z => ?_))
  · rw [entC_rw (σ := qRC σ a f) ho (by omega), rdtC_r ht]
    have e : eRC (qRC σ a f) a = f := u1C_eq
    rw [e]; rfl
  · have e : eRC (qRC σ a f) b = eRC σ b := u1C_ne hb
    unfold rdtC
    rw [e]
    rfl
/-- the fields of a new object of class c -/
def dflC (c : Nat) : List Value := (List.range (nfC c)).map (fun j => match fkC (30 * c + j) with
  | 0 => .int 0
  | 1 => .int 0
  | 2 => .long 0
  | _ => .null)
theorem CrC.nO {ad : Nat → Nat} {kA : Nat → ClassId} {σ : CsC} {ws : va_W} {t N g : Nat} (h : CrC ad kA σ ws) (ht : t < 100) : CrC ad kA (nOC σ t N g) (ws ++ [(ad (cnC σ), .inr (clsC t, dflC (clsC t)))]) := by
  refine h.push rfl ?_ (fun b hb => ?_)
  · have e : tgC (nOC σ t N g) (cnC σ) = t := by show (u1C σ.2.1 (cnC σ) (t, 0, g) (cnC σ)).1 = t; rw [u1C_eq]
    rw [entC_ob (c := clsC t) ⟨Nat.lt_succ_self _, by rw [e]; exact ht, by rw [e]⟩]
    congr 2
    unfold flsC dflC
    refine List.map_congr_left (fun j _ => ?_)
    have e1 : fIC (nOC σ t N g) (cnC σ) = fun _ => 0 := u1C_eq
    have e2 : fLC (nOC σ t N g) (cnC σ) = fun _ => 0 := u1C_eq
    have e3 : fRC (nOC σ t N g) (cnC σ) = fun _ => none := u1C_eq
    unfold fvlC
    rw [e1, e2, e3]
    rfl
  · have hb : b ≠ cnC σ := by omega
    have e1 : fIC (nOC σ t N g) b = fIC σ b := u1C_ne hb
    have e2 : fLC (nOC σ t N g) b = fLC σ b := u1C_ne hb
    have e3 : fRC (nOC σ t N g) b = fRC σ b := u1C_ne hb
    have e4 : (nOC σ t N g).2.1 b = σ.2.1 b := u1C_ne hb
    refine entC_congr ?_ (fun k => ?_) (fun z => ?_)
    · unfold tgC; rw [e4]
    · unfold fvlC; rw [e1, e2, e3]
    · unfold rdtC alC; rw [e4]; rfl
theorem CrC.nA {ad : Nat → Nat} {kA : Nat → ClassId} {σ : CsC} {ws : va_W} {t n g : Nat} (h : CrC ad kA σ ws) (ht : 100 ≤ t) : CrC ad kA (nAC σ t n g) (ws ++ [(ad (cnC σ), .inl (kA t, rdtC ad (nAC σ t n g) (cnC σ) t))]) := by
  refine h.push rfl ?_ (fun b hb => ?_)
  · have e : tgC (nAC σ t n g) (cnC σ) = t := by show (u1C σ.2.1 (cnC σ) (t, n, g) (cnC σ)).1 = t; rw [u1C_eq]
    exact entC_rw ⟨Nat.lt_succ_self _, e⟩ ht
  · have hb : b ≠ cnC σ := by omega
    have e1 : eIC (nAC σ t n g) b = eIC σ b := u1C_ne hb
    have e2 : eLC (nAC σ t n g) b = eLC σ b := u1C_ne hb
    have e3 : eRC (nAC σ t n g) b = eRC σ b := u1C_ne hb
    have e4 : (nAC σ t n g).2.1 b = σ.2.1 b := u1C_ne hb
    refine entC_congr ?_ (fun k => rfl) (fun z => ?_)
    · unfold tgC; rw [e4]
    · unfold rdtC alC; rw [e4, e1, e2, e3]
theorem CrC.we {ad : Nat → Nat} {kA : Nat → ClassId} {σ τ : CsC} {ws : va_W} (h : CrC ad kA σ ws) (hw : WeC σ τ) : CrC ad kA τ ws := by
  have e0 : cnC τ = cnC σ := by unfold cnC; rw [hw.1]
  refine ⟨by rw [e0]; exact h.1, fun b hb => ?_⟩
  rw [e0] at hb
  rw [h.2 b hb]
  congr 2
  obtain ⟨ha, ht⟩ := hw.2.2 b
  have ef : ∀ k, fvlC ad τ b k = fvlC ad σ b k := fun k => by unfold fvlC fIC fLC fRC; rw [hw.2.1]
  have ed : ∀ t, rdtC ad τ b t = rdtC ad σ b t := fun t => by unfold rdtC eIC eLC eRC; rw [hw.2.1, ha]
  rcases ht with ht | ⟨h1, h2, h3⟩
  · exact (entC_congr ht ef ed).symm
  · rw [entC_ob (σ := σ) (c := clsC (tgC σ b)) ⟨hb, h1, rfl⟩, entC_ob (σ := τ) (c := clsC (tgC σ b)) ⟨by rw [e0]; exact hb, h2, h3⟩]
    congr 2
    unfold flsC
    exact (List.map_congr_left (fun j _ => ef _)).symm
theorem WeC.rf {σ : CsC} : WeC σ σ := ⟨rfl, rfl, fun _ => ⟨rfl, Or.inl rfl⟩⟩
theorem WeC.tr {σ τ υ : CsC} (h1 : WeC σ τ) (h2 : WeC τ υ) : WeC σ υ := by
  refine ⟨h2.1.trans h1.1, h2.2.1.trans h1.2.1, fun a => ?_⟩
  obtain ⟨a1, a2⟩ := h1.2.2 a
  obtain ⟨b1, b2⟩ := h2.2.2 a
  refine ⟨b1.trans a1, ?_⟩
  rcases a2 with a2 | ⟨c1, c2, c3⟩ <;> rcases b2 with b2 | ⟨d1, d2, d3⟩
  · exact Or.inl (b2.trans a2)
  · exact Or.inr ⟨by rw [← a2]; exact d1, d2, by rw [d3, a2]⟩
  · exact Or.inr ⟨c1, by rw [b2]; exact c2, by rw [b2]; exact c3⟩
  · exact Or.inr ⟨c1, d2, d3.trans c3⟩
theorem WeC.t {σ : CsC} {a t g : Nat} (h : tgC σ a = t ∨ (tgC σ a < 100 ∧ t < 100 ∧ t % 50 = tgC σ a % 50)) : WeC σ (rTC σ a t g) := by
  refine ⟨rfl, rfl, fun b => ?_⟩
  by_cases q : b = a
  · subst q
    have e : (rTC σ b t g).2.1 b = (t, (σ.2.1 b).2.1, g) := u1C_eq
    refine ⟨by unfold alC; rw [e], ?_⟩
    have e2 : tgC (rTC σ b t g) b = t := by unfold tgC; rw [e]
    rw [e2]
    exact h.elim (fun z => Or.inl z.symm) (fun z => Or.inr z)
  · have e : (rTC σ a t g).2.1 b = σ.2.1 b := u1C_ne q
    exact ⟨by unfold alC; rw [e], Or.inl (by unfold tgC; rw [e])⟩

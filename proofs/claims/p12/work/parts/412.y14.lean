/-! what each code asks is what its S asks -/
/-- labels that stand open, methods that have ended: the same -/
def Nb (l l' : List ItZ) : Prop := l <:+ l' ∧ lbZ l' = lbZ l ∧ mdZ l' = mdZ l
theorem Nb.rf {l : List ItZ} : Nb l l := ⟨List.suffix_rfl, rfl, rfl⟩
theorem Nb.tr {l l' l'' : List ItZ} (h : Nb l l') (g : Nb l' l'') : Nb l l'' := ⟨h.1.trans g.1, g.2.1.trans h.2.1, g.2.2.trans h.2.2⟩
theorem nb_r {l : List ItZ} {y : Int × Int × Int × Int × Int} (h : ¬ y.1 = 41 ∧ ¬ y.1 = 42 ∧ ¬ y.1 = 54) : Nb l (.inr y :: l) := ⟨List.suffix_cons _ _, by rw [lbZ, if_neg h.1, if_neg h.2.1], by rw [mdZ, if_neg h.2.2]⟩
theorem nb_ci {l : List ItZ} {o a b t : Int} (h : ¬ o = 41 ∧ ¬ o = 42 ∧ ¬ o = 54) : Nb l (cIy o a b t :: l) := nb_r h
theorem nb_ce {l m : List ItZ} {o a b t : Int} (h : ¬ o = 41 ∧ ¬ o = 42 ∧ ¬ o = 54) : Nb l (cEy o a b t m :: l) := nb_r h
theorem nb_l {l : List ItZ} {x : XrZ} : Nb l (.inl x :: l) := ⟨List.suffix_cons _ _, rfl, rfl⟩
theorem nb_xs {l l' : List ItZ} (h : XsR l l') : Nb l l' := by
  obtain ⟨t, rfl⟩ := h
  induction t with
  | nil => exact Nb.rf
  | cons x t ih => exact ih.tr nb_l
theorem ExX.nb {l l' : List ItZ} {r : XrZ} {lv : Int} (h : ExX lv l l' r) : Nb l l' := nb_xs h.xs
section
variable {C : CxT} {N : Int → Int} {T : TbT} {l l' m : List ItZ} {o a b t : Int}
theorem ok_ei (h : l <:+ l') (ho : TrO o) : AlB (okS C N T) l (cIy o a b t :: l') ↔ AlB (okS C N T) l l' := (alb_e h).trans ⟨fun q => q.1, fun q => ⟨q, ok_t (Or.inl ho)⟩⟩
theorem ok_ci (h : (cIy o a b t :: l) <:+ l') (ho : TrO o) : AlB (okS C N T) l l' ↔ AlB (okS C N T) (cIy o a b t :: l) l' := (alb_c h).trans ⟨fun q => q.2, fun q => ⟨ok_t (Or.inl ho), q⟩⟩
/-- STEP, ENDS -/
theorem ok_wr {t' c : Int} (h : (cIy 20 0 0 t :: l) <:+ m) : AlB (okS C N T) l (cIy 45 c 0 t' :: m) ↔ AlB (okS C N T) (cIy 20 0 0 t :: l) m := by
  rw [ok_ei ((List.suffix_cons _ _).trans h) (by omega), ok_ci h (by omega)]
end
/-- S's from i to j -/
def SkB (N : Int → Int) (Z : ZS) (T : TbT) (ms : MfT) (i j : Nat) : Prop := ∀ k, i ≤ k → k < j → skT N Z T ms k
section
variable {N : Int → Int} {Z : ZS} {T : TbT} {ms : MfT} {i j k : Nat}
theorem skb_0 : SkB N Z T ms i i := fun k a b => by omega
theorem skb_c (h : i < j) : SkB N Z T ms i j ↔ skT N Z T ms i ∧ SkB N Z T ms (i + 1) j := ⟨fun q => ⟨q i (Nat.le_refl _) h, fun k a b => q k (by omega) b⟩, fun q k a b => by
  by_cases e : k = i
  · rw [e]; exact q.1
  · exact q.2 k (by omega) b⟩
theorem skb_1 : SkB N Z T ms i (i + 1) ↔ skT N Z T ms i := (skb_c (Nat.lt_succ_self _)).trans ⟨fun q => q.1, fun q => ⟨q, skb_0⟩⟩
theorem skb_tr (h : i ≤ j) (g : j ≤ k) : SkB N Z T ms i k ↔ SkB N Z T ms i j ∧ SkB N Z T ms j k := ⟨fun q => ⟨fun u a b => q u a (by omega), fun u a b => q u (by omega) b⟩, fun q u a b => by
  by_cases e : u < j
  · exact q.1 u a e
  · exact q.2 u (by omega) b⟩
theorem lb_fu {t : Int} (hp : ∀ i, i < snM Z → paS Z i < (i : Int)) : ∀ (f g : Nat) (x : Int), x < (f : Int) → x < (g : Int) → x < (snM Z : Int) → (lbT N Z t f x ↔ lbT N Z t g x) := by
  intro f
  induction f with
  | zero =>
    intro g x h1 h2 h3
    have h0 : x < 0 := h1
    exact iff_of_true (lb_neg h0) (lb_neg h0)
  | succ f ih =>
    intro g x h1 h2 h3
    by_cases c : x < 0
    · exact iff_of_true (lb_neg c) (lb_neg c)
    · obtain ⟨g, rfl⟩ : ∃ k, g = k + 1 := ⟨g - 1, by omega⟩
      obtain ⟨n, rfl⟩ : ∃ n : Nat, x = (n : Int) := ⟨x.toNat, by omega⟩
      have q := hp n (by omega)
      rw [lb_s, lb_s, ih g (paS Z n) (by omega) (by omega) (by omega)]
end
/-- things that codes name are there -/
def ThB (l : List ItZ) (k : Nat) : Prop := ∀ y, Sum.inr y ∈ l → thO y.1 = true → y.2.1 < (k : Int)
theorem ThB.mo {l : List ItZ} {k k' : Nat} (h : ThB l k) (q : k ≤ k') : ThB l k' := fun y a b => by have := h y a b; omega
theorem ThB.r {l : List ItZ} {k : Nat} {y : Int × Int × Int × Int × Int} (h : ThB l k) (q : thO y.1 = true → y.2.1 < (k : Int)) : ThB (.inr y :: l) k := fun x a b => by
  rcases List.mem_cons.mp a with e | e
  · cases e; exact q b
  · exact h x e b
theorem ThB.ci {l : List ItZ} {k : Nat} {o a b t : Int} (h : ThB l k) (q : thO o = true → a < (k : Int)) : ThB (cIy o a b t :: l) k := h.r q
theorem ThB.ce {l m : List ItZ} {k : Nat} {o a b t : Int} (h : ThB l k) (q : thO o = true → a < (k : Int)) : ThB (cEy o a b t m :: l) k := h.r q
theorem ThB.c0 {l : List ItZ} {k : Nat} {o a b t : Int} (h : ThB l k) (q : thO o = false) : ThB (cIy o a b t :: l) k := h.r (fun z => absurd (q.symm.trans z) (by decide))
theorem ThB.e0 {l m : List ItZ} {k : Nat} {o a b t : Int} (h : ThB l k) (q : thO o = false) : ThB (cEy o a b t m :: l) k := h.r (fun z => absurd (q.symm.trans z) (by decide))
theorem ThB.l {l : List ItZ} {k : Nat} {x : XrZ} (h : ThB l k) : ThB (.inl x :: l) k := fun y a b => by
  rcases List.mem_cons.mp a with e | e
  · cases e
  · exact h y e b
theorem ThB.xs {l l' : List ItZ} {k : Nat} (h : ThB l k) (q : XsR l l') : ThB l' k := by
  obtain ⟨t, rfl⟩ := q
  induction t with
  | nil => exact h
  | cons x t ih => exact ih.l
theorem ThB.ex {l l' : List ItZ} {k : Nat} {r : XrZ} (h : ThB l k) {lv : Int} (q : ExX lv l l' r) : ThB l' k := h.xs q.xs
theorem ThB.pg {js : Int} {p q : Ps} (h : ThB p.2.2 p.2.1) (g : PgD js p q) (hj : js < (q.2.1 : Int)) : ThB q.2.2 q.2.1 := by
  obtain ⟨g1, g2, t, e, g3⟩ := g
  intro y a b
  rw [e] at a
  rcases List.mem_append.mp a with a | a
  · rcases (g3 y a).2 b with z | z
    · exact z.2
    · omega
  · have := h y a b
    omega
/-- what is fixed -/
def HxD (C : CxT) (Z : ZS) (ms : MfT) (M : Int) : Prop := (∀ i, i < snM Z → paS Z i < (i : Int)) ∧ (∃ m, ms M.toNat = some m) ∧ (∀ i, i < snM Z → 0 ≤ thS Z i) ∧ C.2.2.2 = ms
/-- what stands ahead of an S -/
def KxD (N : Int → Int) (Z : ZS) (M : Int) (a : Int) (p q : Ps) : Prop := q.2.2 <:+ Z.2.1 ∧ q.1 ≤ snM Z ∧ a < (p.1 : Int) ∧ (mdZ p.2.2 : Int) = M ∧ (∀ t, (∀ e ∈ lbZ p.2.2, ¬ N e.2 = N t) ↔ lbT N Z t (snM Z) a) ∧ ThB p.2.2 p.2.1
def RsD (C : CxT) (N : Int → Int) (Z : ZS) (T : TbT) (ms : MfT) (p q : Ps) : Prop := (AlB (okS C N T) p.2.2 q.2.2 ↔ SkB N Z T ms p.1 q.1) ∧ Nb p.2.2 q.2.2 ∧ p.1 ≤ q.1
theorem PgD.sf {js : Int} {p q : Ps} (h : PgD js p q) : p.2.2 <:+ q.2.2 := by
  obtain ⟨t, e, _⟩ := h.2.2
  exact ⟨t, e.symm⟩
theorem StD.pg {N : Int → Int} {M : Int} {Z : ZS} {n : Nat} {a : Int} {p q : Ps} (h : StD N M Z n a p q) : PgD (-1) p q ∧ p.1 < q.1 := by
  cases n with
  | zero => exact absurd h id
  | succ n =>
    obtain ⟨t, q1, h1, h2, _⟩ := h
    exact ⟨h1, h2.1⟩
section
variable {N : Int → Int} {Z : ZS} {T : TbT} {ms : MfT} {C : CxT} {M a : Int}
/-- into an S that is no label: what stands there -/
theorem KxD.in_ {p q : Ps} {j : Nat} {p1 q1 : Ps} (H : HxD C Z ms M) (K : KxD N Z M a p q) (hj : j = p.1) (hk : ¬ kjS Z j = 6) (hpa : paS Z j = a) (h1 : q1.2.2 <:+ q.2.2) (h2 : q1.1 ≤ q.1) (h3 : j < p1.1) (h4 : Nb p.2.2 p1.2.2) (h5 : p.1 < q.1) (h7 : ThB p1.2.2 p1.2.1) : KxD N Z M j p1 q1 := by
  obtain ⟨k1, k2, k3, k4, k5, k6⟩ := K
  refine ⟨h1.trans k1, Nat.le_trans h2 k2, by omega, by rw [h4.2.2]; exact k4, fun t => ?_, h7⟩
  rw [h4.2.1, k5 t]
  have hn : 0 < snM Z := by omega
  obtain ⟨f, hf⟩ : ∃ f, snM Z = f + 1 := ⟨snM Z - 1, by omega⟩
  have r := lb_s (N := N) (z := Z) (t := t) (k := f) (j := j)
  rw [← hf] at r
  rw [r, hpa, lb_fu H.1 (snM Z) f a (by omega) (by omega) (by omega)]
  exact ⟨fun q => ⟨fun z => hk z.1, q⟩, fun q => q.2⟩
/-- into a label -/
theorem KxD.la {p q : Ps} {p1 q1 : Ps} {k t0 : Int} (H : HxD C Z ms M) (K : KxD N Z M a p q) (hk : kjS Z p.1 = 6) (hl : ljS Z p.1 = t0) (hpa : paS Z p.1 = a) (h1 : q1.2.2 <:+ q.2.2) (h2 : q1.1 ≤ q.1) (h3 : p.1 < p1.1) (h4 : lbZ p1.2.2 = (k, t0) :: lbZ p.2.2) (h6 : mdZ p1.2.2 = mdZ p.2.2) (h5 : p.1 < q.1) (h7 : ThB p1.2.2 p1.2.1) : KxD N Z M p.1 p1 q1 := by
  obtain ⟨k1, k2, k3, k4, k5, k6⟩ := K
  refine ⟨h1.trans k1, Nat.le_trans h2 k2, by omega, by rw [h6]; exact k4, fun t => ?_, h7⟩
  obtain ⟨f, hf⟩ : ∃ f, snM Z = f + 1 := ⟨snM Z - 1, by omega⟩
  have r := lb_s (N := N) (z := Z) (t := t) (k := f) (j := p.1)
  rw [← hf] at r
  rw [r, hpa, ← lb_fu H.1 (snM Z) f a (by omega) (by omega) (by omega), ← k5 t, h4, hk, hl]
  constructor
  · intro q
    exact ⟨fun z => q _ List.mem_cons_self z.2, fun e he => q e (List.mem_cons_of_mem _ he)⟩
  · intro q e he
    rcases List.mem_cons.mp he with he | he
    · rw [he]; exact fun z => q.1 ⟨rfl, z⟩
    · exact q.2 e he
end

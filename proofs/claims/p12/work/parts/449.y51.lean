/-! the reference's flow: jumps against the function's, what S's leave alone -/
def jnS (σ : RS) : List JfZ := jmL σ (gI σ 103).toInt.toNat
/-- S's with a thing of their own -/
def OwK (z : ZS) (i : Nat) : Prop := kjS z i = 2 ∨ kjS z i = 6 ∨ kjS z i = 56 ∨ kjS z i = 58 ∨ kjS z i = 59 ∨ kjS z i = 60 ∨ kjS z i = 61 ∨ kjS z i = 68
def MonT (z : ZS) : Prop := ∀ i j, i < j → j < snM z → OwK z i → thS z i < thS z j
theorem mon_i {z : ZS} (h : MonT z) {i j : Nat} (hi : i < snM z) (hj : j < snM z) (oi : OwK z i) (oj : OwK z j) (e : thS z i = thS z j) : i = j := by
  rcases Nat.lt_trichotomy i j with q | q | q
  · have := h i j q hj oi; omega
  · exact q
  · have := h j i q hi oj; omega
def onI (o : Bool) : Int32 := if o = true then 1 else 0
/-- one jump: both halves -/
def J1R (z : ZS) (c0 c1 : Int) (x : JfZ) (y : JmZ) : Prop := (0 ≤ y.1 ∧ x.1.toInt = thS z y.1.toNat) ∧ x.2.1 = onI y.2.1 ∧ (c0 ≤ x.2.2.1.toInt ∧ x.2.2.1.toInt < c1) ∧ (¬ x.2.2.2.1 = 0 ↔ y.2.2.1 = true) ∧ x.2.2.2.2 = y.2.2.2
def JrR (z : ZS) (c0 c1 : Int) : List JfZ → List JmZ → Prop
  | [], [] => True
  | x :: K, y :: J => J1R z c0 c1 x y ∧ JrR z c0 c1 K J
  | [], _ :: _ => False
  | _ :: _, [] => False
section
variable {z : ZS} {c0 c1 d0 d1 : Int} {K K' : List JfZ} {J J' : List JmZ} {j : Nat}
theorem JrR.ap : ∀ {K : List JfZ} {J : List JmZ}, JrR z c0 c1 K J → JrR z c0 c1 K' J' → JrR z c0 c1 (K ++ K') (J ++ J') := by
  intro K
  induction K with
  | nil =>
    intro J h g
    cases J with
    | nil => exact g
    | cons y J => exact absurd h id
  | cons x K ih =>
    intro J h g
    cases J with
    | nil => exact absurd h id
    | cons y J => exact ⟨h.1, ih h.2 g⟩
theorem JrR.wd (h0 : d0 ≤ c0) (h1 : c1 ≤ d1) : ∀ {K : List JfZ} {J : List JmZ}, JrR z c0 c1 K J → JrR z d0 d1 K J := by
  intro K
  induction K with
  | nil =>
    intro J h
    cases J with
    | nil => trivial
    | cons y J => exact absurd h id
  | cons x K ih =>
    intro J h
    cases J with
    | nil => exact absurd h id
    | cons y J =>
      obtain ⟨⟨a, b, c, d⟩, g⟩ := h
      exact ⟨⟨a, b, ⟨by omega, by omega⟩, d⟩, ih g⟩
theorem JrR.fm : ∀ {K : List JfZ} {J : List JmZ}, JrR z c0 c1 K J → ∀ x ∈ K, c0 ≤ x.2.2.1.toInt ∧ x.2.2.1.toInt < c1 := by
  intro K
  induction K with
  | nil => exact fun _ x h => absurd h List.not_mem_nil
  | cons x K ih =>
    intro J h y hy
    cases J with
    | nil => exact absurd h id
    | cons w J =>
      rcases List.mem_cons.mp hy with rfl | hy
      · exact h.1.2.2.1
      · exact ih h.2 y hy
/-- where jumps lead: S's with things of their own -/
def TgO (z : ZS) (J : List JmZ) : Prop := ∀ y ∈ J, 0 ≤ y.1 → OwK z y.1.toNat ∧ y.1 < (snM z : Int)
theorem jr_cm (hM : MonT z) (hj : j < snM z) (hO : OwK z j) {k : Int32} (hk : k.toInt = thS z j) {o : Bool} : ∀ {K : List JfZ} {J : List JmZ}, JrR z c0 c1 K J → TgO z J → cjB k (onI o) K = cmB j o J ∧ (cjA k (onI o) K ↔ cmA j o J = true) ∧ JrR z c0 c1 (K.filter (fun x => !decide (x.1 = k ∧ x.2.1 = onI o))) (cmR j o J) := by
  intro K
  induction K with
  | nil =>
    intro J h _
    cases J with
    | nil => exact ⟨rfl, ⟨fun ⟨x, h, _⟩ => absurd h List.not_mem_nil, fun h => by cases h⟩, trivial⟩
    | cons y J => exact absurd h id
  | cons x K ih =>
    intro J h ht
    cases J with
    | nil => exact absurd h id
    | cons y J =>
      obtain ⟨h1, h⟩ := h
      obtain ⟨i1, i2, i3⟩ := ih h (fun w hw => ht w (List.mem_cons_of_mem _ hw))
      obtain ⟨⟨y0, xt⟩, xo, _, xa, xb⟩ := id h1
      obtain ⟨yo, yn⟩ := ht y List.mem_cons_self y0
      have e1 : x.1 = k ↔ y.1 = (j : Int) := by
        constructor
        · intro e
          have := mon_i hM (by omega) hj yo hO (by rw [← xt, ← hk, e])
          omega
        · intro e
          refine Int32.toInt_inj.mp ?_
          rw [xt, hk, e, Int.toNat_natCast]
      have e2 : x.2.1 = onI o ↔ y.2.1 = o := by
        rw [xo]
        cases y.2.1 <;> cases o <;> decide
      have e3 : (x.1 = k ∧ x.2.1 = onI o) ↔ (y.1 = (j : Int) ∧ y.2.1 = o) := by rw [e1, e2]
      have ca : cjA k (onI o) (x :: K) ↔ ((x.1 = k ∧ x.2.1 = onI o) ∧ ¬ x.2.2.2.1 = 0) ∨ cjA k (onI o) K := by
        constructor
        · rintro ⟨w, hw, a⟩
          rcases List.mem_cons.mp hw with rfl | hw
          · exact Or.inl a
          · exact Or.inr ⟨w, hw, a⟩
        · rintro (a | ⟨w, hw, a⟩)
          · exact ⟨x, List.mem_cons_self, a⟩
          · exact ⟨w, List.mem_cons_of_mem _ hw, a⟩
      rw [ca]
      by_cases c : y.1 = (j : Int) ∧ y.2.1 = o
      · have c' := e3.mpr c
        refine ⟨?_, ?_, ?_⟩
        · show (if x.1 = k ∧ x.2.1 = onI o then x.2.2.2.2 &&& cjB k (onI o) K else _) = (if y.1 = (j : Int) ∧ y.2.1 = o then _ else _)
          rw [if_pos c', if_pos c, i1, xb]
        · show _ ↔ (if y.1 = (j : Int) ∧ y.2.1 = o then y.2.2.1 || cmA j o J else _) = true
          rw [if_pos c, Bool.or_eq_true, i2, xa]
          exact ⟨fun q => q.imp (fun a => a.2) id, fun q => q.imp (fun a => ⟨c', a⟩) id⟩
        · rw [List.filter_cons_of_neg (by rw [decide_eq_true c']; decide)]
          show JrR z c0 c1 _ (if y.1 = (j : Int) ∧ y.2.1 = o then _ else _)
          rw [if_pos c]
          exact i3
      · have c' : ¬ (x.1 = k ∧ x.2.1 = onI o) := fun q => c (e3.mp q)
        refine ⟨?_, ?_, ?_⟩
        · show (if x.1 = k ∧ x.2.1 = onI o then x.2.2.2.2 &&& cjB k (onI o) K else _) = (if y.1 = (j : Int) ∧ y.2.1 = o then _ else _)
          rw [if_neg c', if_neg c, i1]
        · show _ ↔ (if y.1 = (j : Int) ∧ y.2.1 = o then y.2.2.1 || cmA j o J else _) = true
          rw [if_neg c, i2]
          exact ⟨fun q => q.elim (fun a => absurd a.1 c') id, Or.inr⟩
        · rw [List.filter_cons_of_pos (by rw [decide_eq_false c']; rfl)]
          show JrR z c0 c1 _ (if y.1 = (j : Int) ∧ y.2.1 = o then _ else _)
          rw [if_neg c]
          exact ⟨h1, i3⟩
/-- jumps that stand open from before -/
def OjR (z : ZS) (lo : Nat) (c : Int) (J : List JfZ) : Prop := ∀ x ∈ J, x.2.2.1.toInt < c ∧ ∃ i : Nat, i < lo ∧ OwK z i ∧ x.1.toInt = thS z i
theorem OjR.mo {lo lo' : Nat} {c c' : Int} {J0 : List JfZ} (h : OjR z lo c J0) (h1 : lo ≤ lo') (h2 : c ≤ c') : OjR z lo' c' J0 := fun x hx => by
  obtain ⟨a, i, b, d⟩ := h x hx
  exact ⟨by omega, i, by omega, d⟩
theorem OjR.ap {lo : Nat} {c : Int} {J0 : List JfZ} (h : OjR z lo c J0) (g : JrR z c0 c K J) (hb : ∀ y ∈ J, 0 ≤ y.1 → OwK z y.1.toNat ∧ y.1 < (lo : Int)) : OjR z lo c (J0 ++ K) := by
  intro x hx
  rcases List.mem_append.mp hx with hx | hx
  · exact h x hx
  · clear h
    induction K generalizing J with
    | nil => exact absurd hx List.not_mem_nil
    | cons w K ih =>
      cases J with
      | nil => exact absurd g id
      | cons y J =>
        rcases List.mem_cons.mp hx with rfl | hx'
        · obtain ⟨⟨y0, xt⟩, _, r, _⟩ := g.1
          obtain ⟨b1, b2⟩ := hb y List.mem_cons_self y0
          exact ⟨r.2, y.1.toNat, by omega, b1, xt⟩
        · exact ih g.2 (fun w hw => hb w (List.mem_cons_of_mem _ hw)) (List.mem_append_right _ hx') hx'
theorem oj_cm (hM : MonT z) (hj : j < snM z) {c : Int} {J0 : List JfZ} (h : OjR z j c J0) {k on : Int32} (hk : k.toInt = thS z j) : cjB k on J0 = allB ∧ (¬ cjA k on J0) ∧ J0.filter (fun x => !decide (x.1 = k ∧ x.2.1 = on)) = J0 := by
  have ne : ∀ x ∈ J0, ¬ x.1 = k := fun x hx e => by
    obtain ⟨_, i, b, d, f⟩ := h x hx
    have := hM i j b hj d
    rw [e, hk] at f
    omega
  refine ⟨?_, fun ⟨x, hx, a⟩ => ne x hx a.1.1, List.filter_eq_self.mpr (fun x hx => by rw [decide_eq_false (fun q => ne x hx q.1)]; rfl)⟩
  clear h
  induction J0 with
  | nil => rfl
  | cons x J0 ih =>
    show (if x.1 = k ∧ x.2.1 = on then x.2.2.2.2 &&& cjB k on J0 else cjB k on J0) = _
    rw [if_neg (fun q => ne x List.mem_cons_self q.1)]
    exact ih (fun y hy => ne y (List.mem_cons_of_mem _ hy))
/-- what comes to S j -/
theorem come_v (hM : MonT z) (hj : j < snM z) (hO : OwK z j) {σ : RS} {k : Int32} (hk : k.toInt = thS z j) (h0 : 0 ≤ thS z j) {o : Bool} {J0 : List JfZ} {c : Int} (hn : jnS σ = J0 ++ K) (hoj : OjR z j c J0) (hjr : JrR z c0 c1 K J) (ht : TgO z J) : (coF σ k (onI o) (gI σ 103).toInt.toNat).1 = cmB j o J ∧ (¬ (coF σ k (onI o) (gI σ 103).toInt.toNat).2.1 = 0 ↔ cmA j o J = true) ∧ ∃ K', jnS (coS σ k (onI o) (gI σ 103).toInt.toNat) = J0 ++ K' ∧ JrR z c0 c1 K' (cmR j o J) := by
  have k0 : 0 ≤ k := Int32.le_iff_toInt_le.mpr (by rw [hk]; exact h0)
  obtain ⟨b1, b2⟩ := co_bits (σ := σ) (on := onI o) k0 (gI σ 103).toInt.toNat
  have l := co_left (σ := σ) (on := onI o) k0 (N := (gI σ 103).toInt.toNat) (gI σ 103).toInt.toNat (Nat.le_refl _)
  have hn' : jmL σ (gI σ 103).toInt.toNat = J0 ++ K := hn
  obtain ⟨o1, o2, o3⟩ := oj_cm (on := onI o) hM hj hoj hk
  obtain ⟨r1, r2, r3⟩ := jr_cm hM hj hO hk (o := o) hjr ht
  rw [hn'] at b1 b2 l
  rw [cjB_ap, o1, r1, al_an] at b1
  have ca : cjA k (onI o) (J0 ++ K) ↔ cjA k (onI o) K := by
    constructor
    · rintro ⟨x, hx, a⟩
      rcases List.mem_append.mp hx with hx | hx
      · exact absurd ⟨x, hx, a⟩ o2
      · exact ⟨x, hx, a⟩
    · rintro ⟨x, hx, a⟩
      exact ⟨x, List.mem_append_right _ hx, a⟩
  rw [ca, r2] at b2
  rw [List.filter_append, o3] at l
  exact ⟨b1, b2, _, l, r3⟩
/-- through a finally -/
theorem ended_v {σ : RS} {k : Int32} {J0 Kd : List JfZ} {e : Bool} {cf ci : Int} (hn : jnS σ = J0 ++ (K ++ Kd)) (h51 : (aI σ 51 k.toNatClampNeg).toInt = cf) (h58 : (aI σ 58 k.toNatClampNeg).toInt = ci) (h0 : ∀ x ∈ J0, x.2.2.1.toInt < cf) (hd : ∀ x ∈ Kd, ci < x.2.2.1.toInt) (hjr : JrR z cf ci K J) (ha : ¬ gI σ 92 = 0 ↔ e = true) : ∃ K', jnS (enS σ k (gI σ 103).toInt.toNat) = J0 ++ (K' ++ Kd) ∧ JrR z cf ci K' (J.map (fnJ e (nowR σ))) := by
  have l := en_left (σ := σ) (k := k) (N := (gI σ 103).toInt.toNat) (gI σ 103).toInt.toNat (Nat.le_refl _)
  have hn' : jmL σ (gI σ 103).toInt.toNat = J0 ++ (K ++ Kd) := hn
  rw [hn', List.map_append, List.map_append] at l
  have out : ∀ (L : List JfZ), (∀ x ∈ L, x.2.2.1.toInt < cf ∨ ci < x.2.2.1.toInt) → L.map (thrJ σ k) = L := by
    intro L
    induction L with
    | nil => exact fun _ => rfl
    | cons x L ih =>
      intro h
      rw [List.map_cons, ih (fun y hy => h y (List.mem_cons_of_mem _ hy))]
      congr 1
      unfold thrJ
      rw [if_neg (fun q => by
        have q1 := Int32.le_iff_toInt_le.mp q.1
        have q2 := Int32.le_iff_toInt_le.mp q.2
        rw [h51] at q1
        rw [h58] at q2
        have := h x List.mem_cons_self
        omega)]
  rw [out J0 (fun x hx => Or.inl (h0 x hx)), out Kd (fun x hx => Or.inr (hd x hx))] at l
  refine ⟨K.map (thrJ σ k), l, ?_⟩
  clear l hn hn' out hd h0
  induction K generalizing J with
  | nil =>
    cases J with
    | nil => trivial
    | cons y J => exact absurd hjr id
  | cons x K ih =>
    cases J with
    | nil => exact absurd hjr id
    | cons y J =>
      refine ⟨?_, ih hjr.2⟩
      obtain ⟨h1, h2, h3, h4, h5⟩ := hjr.1
      have e1 : thrJ σ k x = (x.1, x.2.1, x.2.2.1, if ¬ x.2.2.2.1 = 0 ∧ ¬ gI σ 92 = 0 then 1 else 0, if gI σ 92 = 0 then Int64.ofInt (-1) else x.2.2.2.2 ||| nowR σ) := if_pos ⟨Int32.le_iff_toInt_le.mpr (by rw [h51]; omega), Int32.le_iff_toInt_le.mpr (by rw [h58]; omega)⟩
      rw [e1]
      refine ⟨h1, h2, h3, ?_, ?_⟩
      · show (¬ (if ¬ x.2.2.2.1 = 0 ∧ ¬ gI σ 92 = 0 then (1 : Int32) else 0) = 0) ↔ (y.2.2.1 && e) = true
        rw [Bool.and_eq_true, ← h4, ← ha]
        split
        · rename_i q
          exact iff_of_true (by decide) q
        · rename_i q
          exact iff_of_false (fun w => w rfl) q
      · show (if gI σ 92 = 0 then Int64.ofInt (-1) else x.2.2.2.2 ||| nowR σ) = (if e = true then y.2.2.2 ||| nowR σ else allB)
        by_cases q : gI σ 92 = 0
        · rw [if_pos q, if_neg (fun w => (ha.mpr w) q)]
          rfl
        · rw [if_neg q, if_pos (ha.mp q), h5]
end
/-- alive, bits, nothing open -/
def Bw (σ : RS) (A : Prop) (t f : Int64) : Prop := ((¬ gI σ 92 = 0 ↔ A) ∧ gL σ 93 = t ∧ gL σ 94 = f) ∧ gI σ 100 = 0 ∧ gI σ 117 = -2
/-- things but k, where S's begin and end -/
def FqT (k : Nat) (σ τ : RS) : Prop := FfR σ τ ∧ (∀ i, ¬ i = k → aI τ 95 i = aI σ 95 i ∧ aL τ 96 i = aL σ 96 i ∧ aI τ 97 i = aI σ 97 i ∧ aL τ 98 i = aL σ 98 i ∧ aL τ 99 i = aL σ 99 i) ∧ aI τ 109 = aI σ 109 ∧ aL τ 110 = aL σ 110 ∧ aI τ 111 = aI σ 111
def Jq (σ τ : RS) : Prop := gI τ 103 = gI σ 103 ∧ aI τ 104 = aI σ 104 ∧ aI τ 105 = aI σ 105 ∧ aI τ 106 = aI σ 106 ∧ aI τ 107 = aI σ 107 ∧ aL τ 108 = aL σ 108
section
variable {σ τ υ : RS} {A B : Prop} {t f : Int64} {k : Nat}
theorem Bw.cg (h : Bw σ A t f) (e : A ↔ B) : Bw σ B t f := ⟨⟨h.1.1.trans e, h.1.2⟩, h.2⟩
theorem Bw.now (h : Bw σ A t f) : nowR σ = t &&& f := by
  unfold nowR
  rw [h.1.2.1, h.1.2.2]
theorem Bw.xv (h : Bw σ A t f) : XvR σ [] t f [] := ⟨h.1.2.1, h.1.2.2, by rw [h.2.1]; rfl, rfl, rfl⟩
theorem Jq.rf : Jq σ σ := ⟨rfl, rfl, rfl, rfl, rfl, rfl⟩
theorem Jq.tr (h : Jq σ τ) (g : Jq τ υ) : Jq σ υ := ⟨g.1.trans h.1, g.2.1.trans h.2.1, g.2.2.1.trans h.2.2.1, g.2.2.2.1.trans h.2.2.2.1, g.2.2.2.2.1.trans h.2.2.2.2.1, g.2.2.2.2.2.trans h.2.2.2.2.2⟩
theorem Jq.jn (h : Jq σ τ) : jnS τ = jnS σ := by
  unfold jnS
  rw [h.1]
  refine jm_cg _ (fun i _ => ?_)
  unfold jmE
  rw [h.2.1, h.2.2.1, h.2.2.2.1, h.2.2.2.2.1, h.2.2.2.2.2]
theorem FqT.rf : FqT k σ σ := ⟨FfR.rf, fun _ _ => ⟨rfl, rfl, rfl, rfl, rfl⟩, rfl, rfl, rfl⟩
theorem FqT.tr (h : FqT k σ τ) (g : FqT k τ υ) : FqT k σ υ := ⟨h.1.tr g.1, fun i q => by
  obtain ⟨a1, a2, a3, a4, a5⟩ := h.2.1 i q
  obtain ⟨b1, b2, b3, b4, b5⟩ := g.2.1 i q
  exact ⟨b1.trans a1, b2.trans a2, b3.trans a3, b4.trans a4, b5.trans a5⟩, g.2.2.1.trans h.2.2.1, g.2.2.2.1.trans h.2.2.2.1, g.2.2.2.2.trans h.2.2.2.2⟩
/-- an exp's end -/
theorem XfR.bw {e1 e2 : Int64} (h : XfR σ τ) (b : Bw σ A t f) (v : XvR τ [] e1 e2 []) : Bw τ A e1 e2 ∧ FqT k σ τ ∧ Jq σ τ ∧ ∀ i, aI τ 95 i = aI σ 95 i ∧ aL τ 96 i = aL σ 96 i ∧ aI τ 97 i = aI σ 97 i ∧ aL τ 98 i = aL σ 98 i ∧ aL τ 99 i = aL σ 99 i := by
  have r : ∀ i, aI τ 95 i = aI σ 95 i ∧ aL τ 96 i = aL σ 96 i ∧ aI τ 97 i = aI σ 97 i ∧ aL τ 98 i = aL σ 98 i ∧ aL τ 99 i = aL σ 99 i := fun i => by
    rw [h.2.2.1, h.2.2.2 96 (by decide) (by decide), h.2.2.2 98 (by decide) (by decide), h.2.2.2 99 (by decide) (by decide)]
    exact ⟨rfl, rfl, rfl, rfl, rfl⟩
  refine ⟨⟨⟨?_, v.1, v.2.1⟩, i32_lit v.2.2.1, ?_⟩, ⟨h.ff, fun i _ => r i, by rw [h.2.2.1], h.2.2.2 110 (by decide) (by decide), by rw [h.2.2.1]⟩, ⟨h.1 103 (by decide) (by decide) (by decide), by rw [h.2.2.1], by rw [h.2.2.1], by rw [h.2.2.1], by rw [h.2.2.1], h.2.2.2 108 (by decide) (by decide)⟩, r⟩
  · rw [h.1 92 (by decide) (by decide) (by decide)]
    exact b.1.1
  · rw [h.1 117 (by decide) (by decide) (by decide)]
    exact b.2.2
end

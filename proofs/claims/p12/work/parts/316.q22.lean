/-! readMethod -/
/-- what is known is another -/
def skM (K : List (Int × Int)) (z : ZS) : ZS := (z.1, z.2.1, z.2.2.1, (K, z.2.2.2.1.2), z.2.2.2.2)
theorem bo_sk {N : Int → Int} {E A B V : Nat → Nat} {σ : CsC} {Rw : Int → Nat → ZS → ZS × Int} {n : Nat} {K : List (Int × Int)} {z : ZS} (h : ZC N E A B V σ (boM Rw n K z)) : ZC N E A B V σ (skM K (boM Rw n [] z)) := h
/-- method k of a list whose last one stands first -/
def mth (s : SpC) (k : Nat) : Int × Int × List Int := (zMs s).getD ((zMs s).length - 1 - k) (0, 0, [])
/-- what methods' objects hold beyond their face: key, first variable, body -/
def MhC (N : Int → Int) (E B J F : Nat → Nat) (σ : CsC) (z : ZS) : Prop := ∀ k, k < (zMs z.1).length → (fLC σ (E (1000 + k)) 181).toInt = N (mth z.1 k).1 ∧ (fIC σ (E (1000 + k)) 184).toInt = (F k : Int) ∧ fRC σ (E (1000 + k)) 186 = some (B (J k)) ∧ J k < snM z
theorem LiC.nm {σ τ : CsC} {a n : Nat} {A : Nat → Nat} (h : LiC σ a n A) (H : HI0 σ) (ha : a < cnC σ) (ht : tgC σ a = 0) (h1 : fRC τ a 1 = fRC σ a 1) (h3 : fIC τ a 2 = fIC σ a 2) (h2 : ∀ b, b < cnC σ → eRC τ b = eRC σ b) (h4 : cnC σ ≤ cnC τ) : LiC τ a n A := by
  refine ⟨by rw [h3]; exact h.1, fun i hi => ⟨?_, Nat.lt_of_lt_of_le (h.2 i hi).2 h4⟩⟩
  rcases (H a ha).2.1 ht with q | ⟨r, q1, ⟨q2, -⟩, -⟩
  · have e := h.1
    rw [q.2] at e
    omega
  · rw [← (h.2 i hi).1]
    unfold elC
    rw [h1, q1]
    show eRC τ r i = eRC σ r i
    rw [h2 r q2]
theorem ZC.nm {N : Int → Int} {E A B V : Nat → Nat} {σ τ : CsC} {z : ZS} (h : ZC N E A B V σ z) (H : HI0 σ) (t8 : TyC σ (E 0) 8) (f1 : ∀ a, a < cnC σ → ∀ k, fIC τ a k = fIC σ a k ∧ fLC τ a k = fLC σ a k ∧ fRC τ a k = fRC σ a k) (f2 : ∀ a, a < cnC σ → eIC τ a = eIC σ a ∧ eLC τ a = eLC σ a ∧ eRC τ a = eRC σ a) (hc : cnC σ ≤ cnC τ) : ZC N E A B V τ z := by
  have hls := EnC.ls h.1 H t8
  obtain ⟨h1, ⟨⟨h2, h3⟩, h4, h5, h6⟩, ⟨h7, h8⟩, ⟨l1, l2, l3, l4⟩, ⟨x1, x2⟩, ⟨s1, s2⟩, v1, v2, v3⟩ := h
  have n0 := h1.2.2.2.1.1
  have n302 := h1.2.2.2.2.2.1.1
  have n304 := h1.2.2.2.2.2.1.2.2
  obtain ⟨n1, n2, n3, n4⟩ := h1.2.2.2.2.1
  refine ⟨h1.cg (fun a k ha hk => (f1 a ha k).2.2) hc, ⟨⟨?_, ?_⟩, ?_, ?_, h6⟩, ⟨fun j => ?_, fun j => ?_⟩, ⟨l1.nm H n3 hls.1.2.2.1 (f1 _ n3 1).2.2 (f1 _ n3 2).1 (fun b hb => (f2 b hb).2.2) hc, l2.nm H n4 hls.1.2.2.2 (f1 _ n4 1).2.2 (f1 _ n4 2).1 (fun b hb => (f2 b hb).2.2) hc, l3.nm H n2 hls.1.2.1 (f1 _ n2 1).2.2 (f1 _ n2 2).1 (fun b hb => (f2 b hb).2.2) hc, l4.nm H n1 hls.1.1 (f1 _ n1 1).2.2 (f1 _ n1 2).1 (fun b hb => (f2 b hb).2.2) hc⟩, ⟨fun i hi => ⟨(x1 i hi).1.cg (fun k _ => f1 _ (l1.2 i hi).2 k), (x1 i hi).2⟩, fun i hi => ⟨(x2 i hi).1, ChC.cg (fun a ha => ?_) (x2 i hi).2⟩⟩, ⟨fun j hj => ⟨(s1 j hj).1.cg (fun k hk => f1 _ (l2.2 j hj).2 k), (s1 j hj).2⟩, s2⟩, fun v hv => (v1 v hv).cg (fun k hk => (f1 _ (l3.2 v hv).2 k).1), v2, v3⟩
  · rw [(f1 _ n0 242).1]; exact h2
  · rw [(f1 _ n0 243).1]; exact h3
  · rw [(f1 _ n0 245).2.1]; exact h4
  · rw [(f1 _ n0 246).2.2]; exact h5
  · rw [(f2 _ n302).1]; exact h7 j
  · rw [(f2 _ n304).2.1]; exact h8 j
  · have q := (x2 i hi).1 a ha
    exact (f1 _ (l1.2 a.toNat (by omega)).2 75).2.2
/-- a method more -/
theorem ZC.me {N : Int → Int} {E A B V : Nat → Nat} {σ τ : CsC} {z : ZS} {ty : Int} {o : Nat} (h : ZC N E A B V σ z) (F : PoX o σ τ) (ho : cnC σ ≤ o) (l1 : LiC τ (E 213) (xnM z) A) (l2 : LiC τ (E 214) (snM z) B) (l3 : LiC τ (E 212) (zVs z.1).length V) (l4 : LiC τ (E 211) ((zMs z.1).length + 1) (fun k => E (1000 + k))) : ZC N E A B V τ (metY ty z.1, z.2) := by
  obtain ⟨h1, ⟨⟨h2, h3⟩, h4, h5, h6⟩, ⟨h7, h8⟩, ⟨m1, m2, m3, m4⟩, ⟨x1, x2⟩, ⟨s1, s2⟩, v1, v2, v3⟩ := h
  obtain ⟨f0, f1, f2⟩ := F
  have ff : ∀ a, a < cnC σ → ∀ k, 3 ≤ k ∧ k < 900 → fIC τ a k = fIC σ a k ∧ fLC τ a k = fLC σ a k ∧ fRC τ a k = fRC σ a k := fun a ha k hk => f1 a ha (by omega) k hk
  have n0 := h1.2.2.2.1.1
  have n302 := h1.2.2.2.2.2.1.1
  have n304 := h1.2.2.2.2.2.1.2.2
  refine ⟨h1.cg (fun a k ha hk => (ff a ha k (by omega)).2.2) f0, ⟨⟨?_, ?_⟩, ?_, ?_, h6⟩, ⟨fun j => ?_, fun j => ?_⟩, ⟨l1, l2, l3, l4⟩, ⟨fun i hi => ⟨(x1 i hi).1.cg (fun k hk => ff _ (m1.2 i hi).2 k (by omega)), (x1 i hi).2⟩, fun i hi => ⟨(x2 i hi).1, ChC.cg (fun a ha => ?_) (x2 i hi).2⟩⟩, ⟨fun j hj => ⟨(s1 j hj).1.cg (fun k hk => ff _ (m2.2 j hj).2 k (by omega)), (s1 j hj).2⟩, s2⟩, fun v hv => (v1 v hv).cg (fun k hk => (ff _ (m3.2 v hv).2 k (by omega)).1), v2, v3⟩
  · rw [(ff _ n0 242 (by decide)).1]; exact h2
  · rw [(ff _ n0 243 (by decide)).1]; exact h3
  · rw [(ff _ n0 245 (by decide)).2.1]; exact h4
  · rw [(ff _ n0 246 (by decide)).2.2]; exact h5
  · rw [(f2 _ n302).1]; exact h7 j
  · rw [(f2 _ n304).2]; exact h8 j
  · have hi : i < xnM z := hi
    have q := (x2 i hi).1 a ha
    exact (ff _ (m1.2 a.toNat (by omega)).2 75 (by decide)).2.2
theorem FzC.me {n m : Nat} {E A B V : Nat → Nat} {z : ZS} {ty : Int} {o : Nat} {σ τ : CsC} (F : PoX o σ τ) (hn : n ≤ o) (hc : n ≤ cnC σ) (h3 : E 303 < cnC σ) : FzC n m E A A B B V V z (metY ty z.1, z.2) σ τ := by
  obtain ⟨f0, f1, f2⟩ := F
  exact ⟨f0, fun a ha k hk => f1 a (by omega) (by omega) k (by have := xsF_r hk; omega), ⟨⟨Nat.le_refl _, fun _ _ => ⟨rfl, rfl⟩⟩, fun i h1 h2 => absurd h2 (Nat.not_lt.mpr h1)⟩, ⟨⟨Nat.le_refl _, fun _ _ => ⟨rfl, rfl, rfl⟩⟩, fun i h1 h2 => absurd h2 (Nat.not_lt.mpr h1)⟩, ⟨Nat.le_refl _, fun v hv => ⟨rfl, rfl⟩⟩, Int.le_refl _, fun j _ => by rw [(f2 _ h3).1]⟩
/-- a method's field is no matter of what is laid -/
theorem ZC.m6 {N : Int → Int} {E A B V : Nat → Nat} {σ : CsC} {z : ZS} {a : Nat} {w : Option Nat} (h : ZC N E A B V σ z) : ZC N E A B V (pRC σ a 186 w) z := by
  obtain ⟨h1, ⟨⟨h2, h3⟩, h4, h5, h6⟩, ⟨h7, h8⟩, ⟨l1, l2, l3, l4⟩, ⟨x1, x2⟩, ⟨s1, s2⟩, v1, v2, v3⟩ := h
  have fr : ∀ b k, k ≠ 186 → fRC (pRC σ a 186 w) b k = fRC σ b k := fun b k hk => u2C_nk hk
  exact ⟨h1.cg (fun a k _ hk => fr a k (by omega)) (Nat.le_refl _), ⟨⟨h2, h3⟩, h4, (fr _ 246 (by decide)).trans h5, h6⟩, ⟨h7, h8⟩, ⟨l1.cg (fr _ 1 (by decide)) rfl rfl (Nat.le_refl _), l2.cg (fr _ 1 (by decide)) rfl rfl (Nat.le_refl _), l3.cg (fr _ 1 (by decide)) rfl rfl (Nat.le_refl _), l4.cg (fr _ 1 (by decide)) rfl rfl (Nat.le_refl _)⟩, ⟨fun i hi => ⟨(x1 i hi).1.cg (fun k hk => ⟨rfl, rfl, fr _ k (by omega)⟩), (x1 i hi).2⟩, fun i hi => ⟨(x2 i hi).1, ChC.cg (fun a _ => fr _ 75 (by decide)) (x2 i hi).2⟩⟩, ⟨fun j hj => ⟨(s1 j hj).1.cg (fun k hk => ⟨rfl, rfl, fr _ k (by omega)⟩), (s1 j hj).2⟩, s2⟩, v1, v2, v3⟩
theorem KbC.nil : KbC (Int64.ofNat ((0 : Fin 2) : Nat)) [] := fun v hv => by
  have e : (Int64.ofNat ((0 : Fin 2) : Nat)).toBitVec.getLsbD v = false := by
    show (0#64).getLsbD v = false
    rw [BitVec.getLsbD_zero]
  rw [e]
  exact ⟨fun h => (by cases h), fun ⟨k, h⟩ => absurd h List.not_mem_nil⟩
theorem ZC.eE {N : Int → Int} {E E' A B V : Nat → Nat} {σ : CsC} {z : ZS} (h : ZC N E A B V σ z) (e : ∀ k, k < 1000 + (zMs z.1).length → E' k = E k) : ZC N E' A B V σ z := by
  obtain ⟨h1, h2, h3, ⟨l1, l2, l3, l4⟩, x, s, v1⟩ := h
  unfold ZC EnC
  rw [e 0 (by omega), e 1 (by omega), e 2 (by omega), e 211 (by omega), e 212 (by omega), e 213 (by omega), e 214 (by omega), e 302 (by omega), e 303 (by omega), e 304 (by omega)]
  exact ⟨h1, h2, h3, ⟨l1, l2, l3, l4.1, fun i hi => by
    show elC σ (E 211) i = some (E' (1000 + i)) ∧ E' (1000 + i) < cnC σ
    rw [e (1000 + i) (by omega)]
    exact l4.2 i hi⟩, x, s, v1⟩
theorem FzC.eE {n m : Nat} {E E' A A' B B' V V' : Nat → Nat} {z z' : ZS} {σ τ : CsC} (h : FzC n m E A A' B B' V V' z z' σ τ) (e : E' 303 = E 303) : FzC n m E' A A' B B' V V' z z' σ τ := by
  unfold FzC
  rw [e]
  exact h
/-- fields of methods' objects that reading leaves alone -/
def MkX (c : Nat) (σ τ : CsC) : Prop := (∀ a, a < c → fLC τ a 181 = fLC σ a 181 ∧ fIC τ a 184 = fIC σ a 184 ∧ fRC τ a 186 = fRC σ a 186) ∧ cnC σ ≤ cnC τ
theorem MkX.tr {c : Nat} {σ τ υ : CsC} (h : MkX c σ τ) (g : MkX c τ υ) : MkX c σ υ := ⟨fun a ha => ⟨(g.1 a ha).1.trans (h.1 a ha).1, (g.1 a ha).2.1.trans (h.1 a ha).2.1, (g.1 a ha).2.2.trans (h.1 a ha).2.2⟩, Nat.le_trans h.2 g.2⟩
theorem mth_o {ty : Int} {s : SpC} {k : Nat} (h : k < (zMs s).length) : mth (metY ty s) k = mth s k := by
  unfold mth
  show (((zAt s, ty, []) :: zMs s).getD ((zMs s).length + 1 - 1 - k) _) = _
  rw [show (zMs s).length + 1 - 1 - k = ((zMs s).length - 1 - k) + 1 by omega]
  rfl
theorem mth_n {ty : Int} {s : SpC} : mth (metY ty s) (zMs s).length = (zAt s, ty, []) := by
  unfold mth
  show (((zAt s, ty, []) :: zMs s).getD ((zMs s).length + 1 - 1 - (zMs s).length) _) = _
  rw [show (zMs s).length + 1 - 1 - (zMs s).length = 0 by omega]
  rfl

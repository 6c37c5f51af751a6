/-! readProgram: what it leaves alone -/
abbrev Uz_rgm : CqC := fun As σ w τ => ∀ (g : RgP) (σ0 : CsC) (G0 G : Nat → Prop), RgB g → As = [.inr (.inr (some g.2.1))] → RhI g G0 G σ0 σ → w = none ∧ ∃ G' : Nat → Prop, RhI g G0 G' σ0 τ
theorem wz_rgm : ∀ (L : Nat) (As : List AvC) (σ : CsC) (w : Option AvC) (τ : CsC), EvF L 134 As σ w τ → Uz_rgm As σ w τ := by
  intro L As σ w τ h g σ0 G0 G hB hA hI
  subst hA
  obtain ⟨G', _, h2, h3⟩ := rg_all hB L 134 [4] none (by decide +kernel) G _ σ w τ h ⟨rfl, trivial⟩ (fun r e => by cases e) hI
  exact ⟨h3, G', h2⟩
abbrev Uz_rgc : CqC := fun As σ w τ => ∀ (g : RgP) (σ0 : CsC) (G0 G : Nat → Prop), RgB g → As = [.inr (.inr (some g.2.1))] → RhI g G0 G σ0 σ → (∃ c : Int32, w = some (.inl c)) ∧ ∃ G' : Nat → Prop, RhI g G0 G' σ0 τ
theorem wz_rgc : ∀ (L : Nat) (As : List AvC) (σ : CsC) (w : Option AvC) (τ : CsC), EvF L 125 As σ w τ → Uz_rgc As σ w τ := by
  intro L As σ w τ h g σ0 G0 G hB hA hI
  subst hA
  obtain ⟨G', _, h2, v, e, x, hx⟩ := rg_all hB L 125 [4] (some 0) (by decide +kernel) G _ σ w τ h ⟨rfl, trivial⟩ (fun r e => by cases e) hI
  exact ⟨⟨x, by rw [e, hx]⟩, G', h2⟩
/-- fields that reading leaves alone but of the reader's own -/
def fxR (k : Nat) : Bool := !(Nat.beq k 217 || Nat.beq k 218 || Nat.beq k 305 || Nat.beq k 307 || Nat.beq k 308)
/-- what is read into p1 (its Tokens t, its lists K) leaves all else alone -/
def RpC (p0 p1 t : Nat) (K : Nat → Nat) (σ τ : CsC) : Prop := (cnC σ ≤ cnC τ ∧ ∀ a, a < cnC σ → tgC τ a = tgC σ a) ∧ ((∀ k, 211 ≤ k → k ≤ 214 → fRC σ p1 k = some (K k)) ∧ (∀ k, 211 ≤ k → k ≤ 214 → fRC τ p1 k = some (K k)) ∧ fRC σ p1 210 = some t ∧ fRC τ p1 210 = some t) ∧ (fIC τ p1 217 = 0 ∧ ∀ a, a < cnC σ → a ≠ p1 → a ≠ p0 → fIC τ a 217 = fIC σ a 217) ∧ ∀ a, a < cnC σ → (a ≠ p0 → ∀ k, 3 ≤ k → k < 900 → fxR k = true → fIC τ a k = fIC σ a k ∧ fLC τ a k = fLC σ a k ∧ fRC τ a k = fRC σ a k) ∧ (tgC σ a = 100 → ghC σ a = 7 → eIC τ a = eIC σ a) ∧ ((∀ k, 211 ≤ k → k ≤ 214 → a ≠ K k) → tgC σ a = 0 → fIC τ a 2 = fIC σ a 2 ∧ RoC τ a ∧ ∀ i : Nat, (i : Int) < (fIC σ a 2).toInt → elC τ a i = elC σ a i)
def kyR (σ : CsC) (p0 p1 t : Nat) : Nat → Nat := fun k => if 211 ≤ k ∧ k ≤ 214 then (fRC σ p1 k).getD p0 else if 300 ≤ k ∧ k ≤ 304 then (fRC σ t k).getD p0 else p0
theorem ky_1 {σ : CsC} {p0 p1 t : Nat} (H : HI0 σ) (h1 : TyC σ p1 7) {k : Nat} (a : 211 ≤ k) (b : k ≤ 214) : fRC σ p1 k = some (kyR σ p0 p1 t k) ∧ kyR σ p0 p1 t k < cnC σ ∧ tgC σ (kyR σ p0 p1 t k) = 0 := by
  have q : k = 211 ∨ k = 212 ∨ k = 213 ∨ k = 214 := by omega
  unfold kyR
  rw [if_pos ⟨a, b⟩]
  rcases q with rfl | rfl | rfl | rfl
  · obtain ⟨c, -, e, t, -⟩ := cg211 H h1; rw [e]; exact ⟨rfl, t.1, t.2.1⟩
  · obtain ⟨c, -, e, t, -⟩ := cg212 H h1; rw [e]; exact ⟨rfl, t.1, t.2.1⟩
  · obtain ⟨c, -, e, t, -⟩ := cg213 H h1; rw [e]; exact ⟨rfl, t.1, t.2.1⟩
  · obtain ⟨c, -, e, t, -⟩ := cg214 H h1; rw [e]; exact ⟨rfl, t.1, t.2.1⟩
theorem ky_3 {σ : CsC} {p0 p1 t : Nat} (H : HI0 σ) (h1 : TyC σ t 10) {k : Nat} (a : 300 ≤ k) (b : k ≤ 304) : fRC σ t k = some (kyR σ p0 p1 t k) ∧ kyR σ p0 p1 t k < cnC σ ∧ ghC σ (kyR σ p0 p1 t k) ≠ 7 := by
  have q : k = 300 ∨ k = 301 ∨ k = 302 ∨ k = 303 ∨ k = 304 := by omega
  unfold kyR
  rw [if_neg (by omega), if_pos ⟨a, b⟩]
  rcases q with rfl | rfl | rfl | rfl | rfl
  · obtain ⟨c, -, e, t, -, g⟩ := cg300 H h1; rw [e]; exact ⟨rfl, t.1, by rw [show (some c).getD p0 = c from rfl, g]; decide⟩
  · obtain ⟨c, -, e, t, -, g⟩ := cg301 H h1; rw [e]; exact ⟨rfl, t.1, by rw [show (some c).getD p0 = c from rfl, g]; decide⟩
  · obtain ⟨c, -, e, t, -, g⟩ := cg302 H h1; rw [e]; exact ⟨rfl, t.1, by rw [show (some c).getD p0 = c from rfl, g]; decide⟩
  · obtain ⟨c, -, e, t, -, g⟩ := cg303 H h1; rw [e]; exact ⟨rfl, t.1, by rw [show (some c).getD p0 = c from rfl, g]; decide⟩
  · obtain ⟨c, -, e, t, -, g⟩ := cg304 H h1; rw [e]; exact ⟨rfl, t.1, by rw [show (some c).getD p0 = c from rfl, g]; decide⟩
theorem ky_l {σ : CsC} {p0 p1 t k : Nat} (H : HI0 σ) (h0 : p0 < cnC σ) (h1 : TyC σ p1 7) (h2 : TyC σ t 10) : kyR σ p0 p1 t k < cnC σ := by
  by_cases c : 211 ≤ k ∧ k ≤ 214
  · exact (ky_1 H h1 c.1 c.2).2.1
  by_cases d : 300 ≤ k ∧ k ≤ 304
  · exact (ky_3 H h2 d.1 d.2).2.1
  unfold kyR
  rw [if_neg c, if_neg d]
  exact h0
theorem ne_1 {M : List Nat} {k : Nat} (h : ∀ j ∈ M, k ≠ j) : M.elem k = false := by
  cases e : M.elem k with
  | false => rfl
  | true => exact absurd rfl (h k (List.elem_iff.mp e))
theorem fx_ne {k : Nat} (h : fxR k = true) : k ≠ 217 ∧ k ≠ 218 ∧ k ≠ 305 ∧ k ≠ 307 ∧ k ≠ 308 := by
  refine ⟨?_, ?_, ?_, ?_, ?_⟩ <;> · rintro rfl; exact absurd h (by decide)
section
variable {σ s1 s3 s4 s6 : CsC} {p0 p1 t : Nat} {x : List AvC} {w3 w4 : Option AvC} {v1 v2 : Int32}
theorem rp_of (H0 : HI0 σ) (h0 : TyC σ p0 8) (h1 : TyC σ p1 7) (ht : TyC σ t 10) (e210 : fRC σ p1 210 = some t) (hs1 : s1 = pRC (pRC σ p0 240 (some p1)) p0 241 (some t)) (q3 : Q_X6_clear [.inr (.inr (some p1))] s1 w3 s3) (u3 : U_clear [.inr (.inr (some p1))] s1 w3 s3) (u30 : U_clear0 [.inr (.inr (some p1))] s1 w3 s3) (f3 : FrE [0, 2, 217, 218, 902] s1 s3) (H4 : HIC s4) (x4 : ExC [305, 307, 308, 998] s3 s4) (f4 : FrE [305, 307, 308, 900, 901] s3 s4) (hs6 : s6 = pIC (pIC s4 p0 242 v1) p0 243 v2) :
    (RgB (cnC s6, p0, p1, t, kyR σ p0 p1 t) ∧ RhI (cnC s6, p0, p1, t, kyR σ p0 p1 t) (fun _ => False) (fun _ => False) s6 s6) ∧ ∀ υ G, RhI (cnC s6, p0, p1, t, kyR σ p0 p1 t) (fun _ => False) G s6 υ → RpC p0 p1 t (kyR σ p0 p1 t) σ υ := by
  obtain ⟨-, H3, x3, -⟩ := q3
  have c1 : cnC s1 = cnC σ := by rw [hs1]; rfl
  have c3 : cnC s3 = cnC σ := (congrArg (fun z => z.1.1) (x3.2.1.2.1 rfl)).trans c1
  have c4 : cnC s4 = cnC σ := (congrArg (fun z => z.1.1) (x4.2.1.2.1 rfl)).trans c3
  have c6 : cnC s6 = cnC σ := by rw [hs6]; exact c4
  have n01 : p0 ≠ p1 := fun q => by have a := h0.2.1; have b := h1.2.1; rw [q] at a; omega
  have r1 : ∀ a k, (a ≠ p0 ∨ (k ≠ 240 ∧ k ≠ 241)) → fRC s1 a k = fRC σ a k := fun a k h => by
    rw [hs1, fR_pR (by rcases h with h | h; (exact Or.inr h); (exact Or.inl h.2)), fR_pR (by rcases h with h | h; (exact Or.inr h); (exact Or.inl h.1))]
  have i1 : (∀ a k, fIC s1 a k = fIC σ a k ∧ fLC s1 a k = fLC σ a k) ∧ eIC s1 = eIC σ ∧ eRC s1 = eRC σ ∧ tgC s1 = tgC σ ∧ ghC s1 = ghC σ := by rw [hs1]; exact ⟨fun _ _ => ⟨rfl, rfl⟩, rfl, rfl, rfl, rfl⟩
  have r6 : fRC s6 = fRC s4 := by rw [hs6]; rfl
  have i6 : ∀ a k, k ≠ 242 → k ≠ 243 → fIC s6 a k = fIC s4 a k := fun a k z1 z2 => by rw [hs6]; exact (fI_pI (Or.inl z2)).trans (fI_pI (Or.inl z1))
  have j6 : ∀ a k, a ≠ p0 → fIC s6 a k = fIC s4 a k := fun a k z1 => by rw [hs6]; exact (fI_pI (Or.inr z1)).trans (fI_pI (Or.inr z1))
  have o6 : fLC s6 = fLC s4 ∧ eIC s6 = eIC s4 ∧ eRC s6 = eRC s4 ∧ tgC s6 = tgC s4 := by rw [hs6]; exact ⟨rfl, rfl, rfl, rfl⟩
  have F3 : ∀ a, a < cnC σ → ∀ k, 3 ≤ k → k < 900 → k ≠ 217 → k ≠ 218 → fIC s3 a k = fIC s1 a k ∧ fLC s3 a k = fLC s1 a k ∧ fRC s3 a k = fRC s1 a k := fun a ha k k1 k2 k3 k4 => (f3.2 rfl a (by omega)).1 k (ne_1 (fun j hj => by simp only [List.mem_cons, List.not_mem_nil, or_false] at hj; omega))
  have F4 : ∀ a, a < cnC σ → ∀ k, k < 900 → k ≠ 305 → k ≠ 307 → k ≠ 308 → fIC s4 a k = fIC s3 a k ∧ fLC s4 a k = fLC s3 a k ∧ fRC s4 a k = fRC s3 a k := fun a ha k k1 k2 k3 k4 => (f4.2 rfl a (by omega)).1 k (ne_1 (fun j hj => by simp only [List.mem_cons, List.not_mem_nil, or_false] at hj; omega))
  have G3 : ∀ a, a < cnC σ → ∀ k, k = 1 → fRC s3 a k = fRC s1 a k := fun a ha k hk => ((f3.2 rfl a (by omega)).1 k (by rw [hk]; rfl)).2.2
  have T3 : ∀ a, a < cnC σ → tgC s3 a = tgC σ a := fun a ha => (x3.2.2 a (by omega)).1.1.trans (congrFun i1.2.2.2.1 a)
  have T4 : ∀ a, a < cnC σ → tgC s4 a = tgC σ a := fun a ha => (x4.2.2 a (by omega)).1.1.trans (T3 a ha)
  have T6 : ∀ a, a < cnC σ → tgC s6 a = tgC σ a := fun a ha => (congrFun o6.2.2.2 a).trans (T4 a ha)
  have R6 : ∀ a, a < cnC σ → ∀ k, 3 ≤ k → k < 900 → k ≠ 217 → k ≠ 218 → k ≠ 305 → k ≠ 307 → k ≠ 308 → (a ≠ p0 ∨ (k ≠ 240 ∧ k ≠ 241)) → fRC s6 a k = fRC σ a k := fun a ha k k1 k2 k3 k4 k5 k6 k7 h => by
    rw [r6]
    exact ((F4 a ha k k2 k5 k6 k7).2.2.trans (F3 a ha k k1 k2 k3 k4).2.2).trans (r1 a k h)
  have e240 : fRC s6 p0 240 = some p1 := by
    rw [r6]
    refine ((F4 p0 h0.1 240 (by decide) (by decide) (by decide) (by decide)).2.2.trans (F3 p0 h0.1 240 (by decide) (by decide) (by decide) (by decide)).2.2).trans ?_
    rw [hs1, fR_pR (Or.inl (by decide))]
    exact fR_pRs
  have e241 : fRC s6 p0 241 = some t := by
    rw [r6]
    refine ((F4 p0 h0.1 241 (by decide) (by decide) (by decide) (by decide)).2.2.trans (F3 p0 h0.1 241 (by decide) (by decide) (by decide) (by decide)).2.2).trans ?_
    rw [hs1]
    exact fR_pRs
  have ro6 : ∀ a, a < cnC σ → tgC σ a = 0 → RoC s6 a := fun a ha hta => by
    have q := row_lt H4.1 (by omega) ((T4 a ha).trans hta)
    unfold RoC at q ⊢
    rw [i6 a 2 (by decide) (by decide), r6, c6]
    rw [c4] at q
    exact q
  refine ⟨⟨⟨by show p0 < cnC s6; rw [c6]; exact h0.1, by show p1 < cnC s6; rw [c6]; exact h1.1, by show t < cnC s6; rw [c6]; exact ht.1, fun k => by show kyR σ p0 p1 t k < cnC s6; rw [c6]; exact ky_l H0 h0.1 h1 ht⟩, ⟨⟨fun _ q => q, fun _ q => q.elim, Nat.le_refl _⟩, ⟨⟨e240, e241⟩, fun k k1 k2 => ?_, ?_, fun k k1 k2 => ?_⟩, fun _ _ _ q => q.elim, fun a ha => ⟨fun _ _ _ => ⟨rfl, rfl, rfl⟩, fun _ => rfl, fun _ hta => ⟨rfl, ro6 a (by rw [← c6]; exact ha) (by rw [← T6 a (by rw [← c6]; exact ha)]; exact hta), fun _ _ => rfl⟩⟩⟩, fun _ _ => rfl⟩, fun υ G hR => ?_⟩
  · show fRC s6 p1 k = _
    rw [R6 p1 h1.1 k (by omega) (by omega) (by omega) (by omega) (by omega) (by omega) (by omega) (Or.inl n01.symm)]
    exact (ky_1 H0 h1 k1 k2).1
  · show fRC s6 p1 210 = _
    rw [R6 p1 h1.1 210 (by decide) (by decide) (by decide) (by decide) (by decide) (by decide) (by decide) (Or.inl n01.symm)]
    exact e210
  · show fRC s6 t k = _
    rw [R6 t ht.1 k (by omega) (by omega) (by omega) (by omega) ?_ ?_ ?_ (Or.inr (by omega))]
    · exact (ky_3 H0 ht k1 k2).1
    all_goals omega
  · obtain ⟨⟨g1, ⟨k1, k2, k3, k4⟩, -, g6⟩, tI⟩ := hR
    have g1 : cnC s6 ≤ cnC υ := g1.2.2
    have g6 : ∀ a, a < cnC σ → _ := fun a ha => g6 a (by show a < cnC s6; rw [c6]; exact ha)
    refine ⟨⟨by omega, fun a ha => (tI a (by show a < cnC s6; omega)).trans (T6 a ha)⟩, ⟨fun k a b => (ky_1 H0 h1 a b).1, k2, e210, k3⟩, ?_, fun a ha => ⟨fun na k a1 a2 a3 => ?_, fun hta hga => ?_, fun hl hta => ?_⟩⟩
    · refine ⟨?_, fun a ha na1 na => ?_⟩
      · rw [((g6 p1 h1.1).1 n01.symm 217 ⟨by decide, by decide⟩).1, i6 p1 217 (by decide) (by decide), (F4 p1 h1.1 217 (by decide) (by decide) (by decide) (by decide)).1]
        exact (u30 () trivial).1
      · rw [((g6 a ha).1 na 217 ⟨by decide, by decide⟩).1, i6 a 217 (by decide) (by decide), (F4 a ha 217 (by decide) (by decide) (by decide) (by decide)).1]
        exact ((u30 () trivial).2 a (by omega) na1).trans (i1.1 a 217).1
    · obtain ⟨n1, n2, n3, n4, n5⟩ := fx_ne a3
      have q := (g6 a ha).1 na k ⟨a1, a2⟩
      have q4 := F4 a ha k a2 n3 n4 n5
      have q3 := F3 a ha k a1 a2 n1 n2
      exact ⟨q.1.trans ((j6 a k na).trans (q4.1.trans (q3.1.trans (i1.1 a k).1))), q.2.1.trans ((congrFun (congrFun o6.1 a) k).trans (q4.2.1.trans (q3.2.1.trans (i1.1 a k).2))), q.2.2.trans (R6 a ha k a1 a2 n1 n2 n3 n4 n5 (Or.inl na))⟩
    · have q := (g6 a ha).2.1 (fun k z1 z2 e => (ky_3 (p0 := p0) (p1 := p1) H0 ht z1 (by omega : k ≤ 304)).2.2 (by have e : a = kyR σ p0 p1 t k := e; rw [← e]; exact hga))
      have g3 : ghC s3 a = ghC σ a := (x3.2.2 a (by omega)).1.2.2.trans (congrFun i1.2.2.2.2 a)
      refine q.trans ((congrFun o6.2.1 a).trans (((x4.2.1.2.2 a (by omega) ?_).1).trans (((f3.2 rfl a (by omega)).2.1 rfl).trans (congrFun i1.2.1 a))))
      rw [T3 a ha, g3, hta, hga]
      rfl
    · obtain ⟨q1, q2, q3⟩ := (g6 a ha).2.2 hl ((T6 a ha).trans hta)
      have hn : ∀ k, k = 211 ∨ k = 212 ∨ k = 213 ∨ k = 214 → ¬ fRC s1 p1 k = some a := fun k hk e => by
        rw [r1 p1 k (Or.inl n01.symm), (ky_1 (p0 := p0) (t := t) H0 h1 (by omega) (by omega)).1] at e
        exact hl k (by omega) (by omega) (Option.some.inj e).symm
      obtain ⟨u1, u2⟩ := u3 () trivial a hn
      have u2 := u2 (by omega) ((congrFun i1.2.2.2.1 a).trans hta)
      have z2 : fIC s6 a 2 = fIC σ a 2 := by
        rw [i6 a 2 (by decide) (by decide), (F4 a ha 2 (by decide) (by decide) (by decide) (by decide)).1, u1, (i1.1 a 2).1]
      refine ⟨q1.trans z2, q2, fun i hi => (q3 i (by rw [z2]; exact hi)).trans ?_⟩
      have e64 : elC s6 a i = elC s3 a i := by
        unfold elC
        rw [r6, (F4 a ha 1 (by decide) (by decide) (by decide) (by decide)).2.2, o6.2.2.1]
        cases hc : fRC s3 a 1 with
        | none => rfl
        | some r =>
          dsimp only
          rw [(f4.2 rfl r ?_).2.2.2 rfl]
          have q := row_lt H3.1 (by omega : a < cnC s3) ((T3 a ha).trans hta)
          refine q ?_ r hc
          rw [u1, (i1.1 a 2).1]
          omega
      rw [e64, u2 i (by rw [(i1.1 a 2).1]; exact hi)]
      unfold elC
      rw [r1 a 1 (Or.inr (by decide)), i1.2.2.1]
end
abbrev Pz_rgProgram : ((Int → Int) × (Nat → Nat) × (Nat → Nat) × (Nat → Nat) × (Nat → Nat) × ZS × Nat) → CpC := fun y As σ => match y with
  | (N, E, A, B, V, z, t) => ∃ (p0 : Nat) (p1 : Nat) (p2 : Nat) (p3 : Int32), As = [.inr (.inr (some p0)), .inr (.inr (some p1)), .inr (.inr (some p2)), .inl p3] ∧ (TyC σ p1 7) ∧ (fRC σ p1 210 = some t)
abbrev Qz_rgProgram : ((Int → Int) × (Nat → Nat) × (Nat → Nat) × (Nat → Nat) × (Nat → Nat) × ZS × Nat) → CqC := fun y As σ w τ => match y, As with
  | (N, E, A, B, V, z, t), [.inr (.inr (some p0)), .inr (.inr (some p1)), .inr (.inr (some p2)), .inl p3] => RpC p0 p1 t (kyR σ p0 p1 t) σ τ
  | _, _ => True
abbrev Uz_rgProgram : CqC := fun As σ w τ => ∀ y, Pz_rgProgram y As σ → Qz_rgProgram y As σ w τ
set_option maxHeartbeats 4000000 in
theorem pz_rgProgram (y : (Int → Int) × (Nat → Nat) × (Nat → Nat) × (Nat → Nat) × (Nat → Nat) × ZS × Nat) : PbC KX7_readProgram [(117, TrP, EqC 117), (188, TrP, EqC 188), (125, TrP, EqC 125), (134, TrP, EqC 134)] [(188, Uz_cutText), (125, Uz_rgc), (134, Uz_rgm)] (fun As σ => Pz_rgProgram y As σ ∧ cnC σ ≤ 1000000 ∧ ∃ w τ, uqC quL 123 As σ w τ) (Qz_rgProgram y) := by
  obtain ⟨N, E, A, B, V, z, t⟩ := y
  rintro As σ ⟨⟨p0, p1, p2, p3, rfl, ht1, e210⟩, hcn, _, _, hQ⟩ K hB hW n_
  have hH : HI0 σ ∧ TyC σ p0 8 := hQ
  obtain ⟨t9, -, et, tt⟩ := cg210 hH.1 ht1
  obtain rfl : t = t9 := Option.some.inj (e210.symm.trans et)
  have L42 : ∀ (s6 : CsC), RgB (cnC s6, p0, p1, t, kyR σ p0 p1 t) → (∀ υ G, RhI (cnC s6, p0, p1, t, kyR σ p0 p1 t) (fun _ => False) G s6 υ → RpC p0 p1 t (kyR σ p0 p1 t) σ υ) → ∀ (k : Nat) (υ : CsC) (G : Nat → Prop) (i : Int32), RhI (cnC s6, p0, p1, t, kyR σ p0 p1 t) (fun _ => False) G s6 υ → K k 42 [(0, .inr (.inr (some p0))), (4, .inl i)] [] υ := by
    intro s6 hB0 hEnd k
    induction k using Nat.strongRecOn with
    | _ k ih =>
      intro υ G i hR
      refine hB _ _ _ _ _ (fun m51 hm51 => ?_)
      dsimp only [ucgo, ucwp, ucsC, uqC, uoC, ctC, rfd, KX7_readProgram, KX7_readProgram_0, KX7_readProgram_42, KX7_readProgram_49, KX7_readProgram_56, KX7_readProgram_65, KX7_readProgram_75, lkC, s1C, s2C, dlC, kyC, Nat.beq, Nat.ble, rcd, rno, rsw, Nat.reduceAdd, Nat.reduceBEq, Nat.reduceDiv, List.drop, List.take, List.reverse, List.reverseAux, Int.toNat, Option.toList, List.append, List.cons_append, List.nil_append, zg210, zg240, zg241, zg243]
      have c52 : (Int32.ofInt 10).toInt = 10 := by decide
      refine ⟨fun h53 => ?_, fun h53 => ?_⟩
      · have g53 := ltI (x := (Int32.ofInt 10)) (y := i) h53
        refine hB _ _ _ _ _ (fun m54 hm54 => ?_)
        dsimp only [ucgo, ucwp, ucsC, uqC, uoC, ctC, rfd, KX7_readProgram, KX7_readProgram_0, KX7_readProgram_42, KX7_readProgram_49, KX7_readProgram_56, KX7_readProgram_65, KX7_readProgram_75, lkC, s1C, s2C, dlC, kyC, Nat.beq, Nat.ble, rcd, rno, rsw, Nat.reduceAdd, Nat.reduceBEq, Nat.reduceDiv, List.drop, List.take, List.reverse, List.reverseAux, Int.toNat, Option.toList, List.append, List.cons_append, List.nil_append, zg210, zg240, zg241, zg243]
        intro a55 e55 ob55
        cases e55
        try dsimp only [Qz_rgProgram]
        exact hEnd _ _ hR
      · have g53 := nltI (x := (Int32.ofInt 10)) (y := i) h53
        refine hB _ _ _ _ _ (fun m56 hm56 => ?_)
        dsimp only [ucgo, ucwp, ucsC, uqC, uoC, ctC, rfd, KX7_readProgram, KX7_readProgram_0, KX7_readProgram_42, KX7_readProgram_49, KX7_readProgram_56, KX7_readProgram_65, KX7_readProgram_75, lkC, s1C, s2C, dlC, kyC, Nat.beq, Nat.ble, rcd, rno, rsw, Nat.reduceAdd, Nat.reduceBEq, Nat.reduceDiv, List.drop, List.take, List.reverse, List.reverseAux, Int.toNat, Option.toList, List.append, List.cons_append, List.nil_append, zg210, zg240, zg241, zg243]
        intro a57 e57 ob57
        cases e57
        refine ⟨fun h58 => ?_, fun h58 => ?_⟩
        · have g58 := (neI (x := (fIC υ p0 243)) (y := 0) h58 : ¬ ((fIC υ p0 243) : Int32).toInt = (0 : Int32).toInt)
          have z0_ : (0 : Int32).toInt = 0 := rfl
          refine hB _ _ _ _ _ (fun m59 hm59 => ?_)
          dsimp only [ucgo, ucwp, ucsC, uqC, uoC, ctC, rfd, KX7_readProgram, KX7_readProgram_0, KX7_readProgram_42, KX7_readProgram_49, KX7_readProgram_56, KX7_readProgram_65, KX7_readProgram_75, lkC, s1C, s2C, dlC, kyC, Nat.beq, Nat.ble, rcd, rno, rsw, Nat.reduceAdd, Nat.reduceBEq, Nat.reduceDiv, List.drop, List.take, List.reverse, List.reverseAux, Int.toNat, Option.toList, List.append, List.cons_append, List.nil_append, zg210, zg240, zg241, zg243]
          intro a60 e60 ob60
          cases e60
          try dsimp only [Qz_rgProgram]
          exact hEnd _ _ hR
        · have g58 := (eqI (x := (fIC υ p0 243)) (y := 0) h58 : ((fIC υ p0 243) : Int32).toInt = (0 : Int32).toInt)
          have z0_ : (0 : Int32).toInt = 0 := rfl
          refine hB _ _ _ _ _ (fun m61 hm61 => ?_)
          dsimp only [ucgo, ucwp, ucsC, uqC, uoC, ctC, rfd, KX7_readProgram, KX7_readProgram_0, KX7_readProgram_42, KX7_readProgram_49, KX7_readProgram_56, KX7_readProgram_65, KX7_readProgram_75, lkC, s1C, s2C, dlC, kyC, Nat.beq, Nat.ble, rcd, rno, rsw, Nat.reduceAdd, Nat.reduceBEq, Nat.reduceDiv, List.drop, List.take, List.reverse, List.reverseAux, Int.toNat, Option.toList, List.append, List.cons_append, List.nil_append, zg210, zg240, zg241, zg243]
          intro w62 τ62 o62 q62
          obtain ⟨⟨c62, rfl⟩, G62, hR62⟩ := q62 (cnC s6, p0, p1, t, kyR σ p0 p1 t) s6 (fun _ => False) _ hB0 rfl hR
          try dsimp only [Option.toList, List.cons_append, List.nil_append, s1C, s2C, dlC, kyC, Nat.beq, lkC, rcd, rno, rsw]
          have c63 : (Int32.ofInt 84).toInt = 84 := by decide
          refine ⟨fun h64 => ?_, fun h64 => ?_⟩
          · have g64 := (eqI (x := c62) (y := (Int32.ofInt 84)) h64 : (c62 : Int32).toInt = ((Int32.ofInt 84) : Int32).toInt)
            refine hB _ _ _ _ _ (fun m65 hm65 => ?_)
            dsimp only [ucgo, ucwp, ucsC, uqC, uoC, ctC, rfd, KX7_readProgram, KX7_readProgram_0, KX7_readProgram_42, KX7_readProgram_49, KX7_readProgram_56, KX7_readProgram_65, KX7_readProgram_75, lkC, s1C, s2C, dlC, kyC, Nat.beq, Nat.ble, rcd, rno, rsw, Nat.reduceAdd, Nat.reduceBEq, Nat.reduceDiv, List.drop, List.take, List.reverse, List.reverseAux, Int.toNat, Option.toList, List.append, List.cons_append, List.nil_append, zg210, zg240, zg241, zg243]
            intro a66 e66 ob66
            cases e66
            try dsimp only [Qz_rgProgram]
            exact hEnd _ _ hR62
          · have g64 := (neI (x := c62) (y := (Int32.ofInt 84)) h64 : ¬ (c62 : Int32).toInt = ((Int32.ofInt 84) : Int32).toInt)
            refine hB _ _ _ _ _ (fun m67 hm67 => ?_)
            dsimp only [ucgo, ucwp, ucsC, uqC, uoC, ctC, rfd, KX7_readProgram, KX7_readProgram_0, KX7_readProgram_42, KX7_readProgram_49, KX7_readProgram_56, KX7_readProgram_65, KX7_readProgram_75, lkC, s1C, s2C, dlC, kyC, Nat.beq, Nat.ble, rcd, rno, rsw, Nat.reduceAdd, Nat.reduceBEq, Nat.reduceDiv, List.drop, List.take, List.reverse, List.reverseAux, Int.toNat, Option.toList, List.append, List.cons_append, List.nil_append, zg210, zg240, zg241, zg243]
            intro w68 τ68 o68 q68
            obtain ⟨rfl, G68, hR68⟩ := q68 (cnC s6, p0, p1, t, kyR σ p0 p1 t) s6 (fun _ => False) _ hB0 rfl hR62
            try dsimp only [Option.toList, List.cons_append, List.nil_append, s1C, s2C, dlC, kyC, Nat.beq, lkC, rcd, rno, rsw]
            have c69 : (Int32.ofInt 1).toInt = 1 := by decide
            exact hW _ 42 [(0, .inr (.inr (some p0))), (4, .inl (i + (Int32.ofInt 1)))] _ _ _ (List.forall_mem_cons.2 ⟨List.Mem.tail _ (List.Mem.head _), List.forall_mem_cons.2 ⟨List.Mem.head _, fun _ h => absurd h List.not_mem_nil⟩⟩) (ih _ (by omega) _ _ (i + (Int32.ofInt 1)) hR68)
  change K n_ 0 [(0, .inr (.inr (some p0))), (1, .inr (.inr (some p1))), (2, .inr (.inr (some p2))), (3, .inl p3)] [] σ
  refine hB _ _ _ _ _ (fun m51 hm51 => ?_)
  dsimp only [ucgo, ucwp, ucsC, uqC, uoC, ctC, rfd, KX7_readProgram, KX7_readProgram_0, KX7_readProgram_42, KX7_readProgram_49, KX7_readProgram_56, KX7_readProgram_65, KX7_readProgram_75, lkC, s1C, s2C, dlC, kyC, Nat.beq, Nat.ble, rcd, rno, rsw, Nat.reduceAdd, Nat.reduceBEq, Nat.reduceDiv, List.drop, List.take, List.reverse, List.reverseAux, Int.toNat, Option.toList, List.append, List.cons_append, List.nil_append, zg210, zg240, zg241, zg243]
  intro a52 e52 ob52 fk52
  cases e52
  clear fk52 ob52
  generalize hs52 : pRC σ p0 240 (some p1) = s52
  intro a53 e53 ob53
  cases e53
  intro a54 e54 ob54 fk54
  cases e54
  clear fk54 ob54
  generalize hs54 : pRC s52 p0 241 (fRC s52 p1 210) = s54
  have e240 : fRC s54 p0 240 = some p1 := by rw [← hs54, pR_k (show (240 : Nat) ≠ 241 by decide), ← hs52]; exact pR_e
  have et2 : (fRC s52 p1 210) = some t := (by rw [← hs52]; exact (pR_k (show (210 : Nat) ≠ 240 by decide)).trans et)
  have hs1_ : s54 = pRC (pRC σ p0 240 (some p1)) p0 241 (some t) := by rw [← hs54, et2, ← hs52]
  intro a55 e55 ob55
  cases e55
  rw [e240]
  try dsimp only
  intro w56 τ56 o56 q56
  obtain ⟨hc3q, hc3u, hc3v⟩ := o56.1.1
  obtain rfl : w56 = none := hc3q.1
  have hf3 : FrE [0, 2, 217, 218, 902] s54 τ56 := o56.2
  have e241b : fRC τ56 p0 241 = some t := by
    rw [((hf3.2 rfl p0 (by rw [hs1_]; exact hH.2.1)).1 241 rfl).2.2, hs1_]
    exact pR_e
  try dsimp only [Option.toList, List.cons_append, List.nil_append, s1C, s2C, dlC, kyC, Nat.beq, lkC, rcd, rno, rsw]
  intro a57 e57 ob57
  cases e57
  rw [e241b]
  try dsimp only
  intro w58 τ58 o58 q58
  obtain ⟨rfl, hH4, hx4, -⟩ : Q_X9_cutText [.inr (.inr (some t)), .inr (.inr (some p2)), .inl p3] τ56 w58 τ58 := o58.1.1.1
  have hf4 : FrE [305, 307, 308, 900, 901] τ56 τ58 := o58.2
  try dsimp only [Option.toList, List.cons_append, List.nil_append, s1C, s2C, dlC, kyC, Nat.beq, lkC, rcd, rno, rsw]
  have c59 : (Int32.ofInt 0).toInt = 0 := by decide
  intro a60 e60 ob60 fk60
  cases e60
  clear fk60 ob60
  generalize hs60 : pIC τ58 p0 242 (Int32.ofInt 0) = s60
  have c61 : (Int32.ofInt 0).toInt = 0 := by decide
  intro a62 e62 ob62 fk62
  cases e62
  clear fk62 ob62
  generalize hs62 : pIC s60 p0 243 (Int32.ofInt 0) = s62
  have c63 : (Int32.ofInt 0).toInt = 0 := by decide
  obtain ⟨⟨hB0, hI0⟩, hEnd⟩ := rp_of hH.1 hH.2 ht1 tt e210 hs1_ hc3q hc3u hc3v hf3 hH4 hx4 hf4 (show s62 = pIC (pIC τ58 p0 242 _) p0 243 _ by rw [← hs62, ← hs60])
  exact hW _ 42 [(0, .inr (.inr (some p0))), (4, .inl (Int32.ofInt 0))] _ _ _ (List.forall_mem_cons.2 ⟨List.Mem.tail _ (List.Mem.head _), List.forall_mem_cons.2 ⟨List.Mem.head _, fun _ h => absurd h List.not_mem_nil⟩⟩) (L42 s62 hB0 hEnd _ s62 (fun _ => False) (Int32.ofInt 0) hI0)
theorem wz_rgProgram : ∀ (L : Nat) (As : List AvC) (σ : CsC) (w : Option AvC) (τ : CsC), EvF L 123 As σ w τ → Uz_rgProgram As σ w τ := by
  intro L
  cases L with
  | zero => exact fun _ _ _ _ h => h.elim
  | succ L => exact fun As σ w τ h y hy => EvF.us (cs := [117, 188, 125, 134]) (pz_rgProgram y) rfl (List.forall_mem_cons.2 ⟨fun _ _ _ _ _ => trivial, List.forall_mem_cons.2 ⟨wz_cutText L, List.forall_mem_cons.2 ⟨wz_rgc L, List.forall_mem_cons.2 ⟨wz_rgm L, fun _ h => absurd h List.not_mem_nil⟩⟩⟩⟩) h hy

/-! both halves answer alike: type, constant, ends, assigned -/
def AnC (N : Int → Int) (E A B V : Nat → Nat) (σ : CsC) (s : SpC) (z : ZS) (L : List Nat) : Prop := (erC E σ ∧ ∀ T, ¬ OkP N s z L T) ∨ (¬ erC E σ ∧ ∃ T, OkP N s z L T ∧ AxL E A σ z T ∧ KnL E B V σ z ∧ ∀ x ∈ GlW N s z L T, x.1 < snM z ∧ (SkD z x.1 → (fIC σ (B x.1) 282).toInt = bZI x.2.2) ∧ fLC σ (B x.1) 285 = x.2.1)
section
variable {N : Int → Int} {E A B V : Nat → Nat} {σ : CsC} {s : SpC} {z : ZS} {L : List Nat} {T U : TbT}
theorem okp_un (h : OkP N s z L T) (g : OkP N s z L U) : U = T := Option.some.inj (g.2.1.symm.trans h.2.1)
theorem ls_n0 {i k : Int} : ∀ {l : List ItZ}, (∀ x m, (.inl x :: m) <:+ l → x.1.1 ≤ 10 → ¬ (x.1.2.2.1 = i ∧ x.1.2.2.2 = k)) → lsW i k l = none := by
  intro l
  induction l with
  | nil => exact fun _ => rfl
  | cons w l ih =>
    intro h
    have q := ih (fun x m hx => h x m (hx.trans (List.suffix_cons _ _)))
    cases w with
    | inl x =>
      rw [lsW, if_neg (fun c => h x l List.suffix_rfl c.1 c.2)]
      exact q
    | inr y => exact q
theorem lsx_no {i k : Int} (h : ∀ q, q < xnM z → ¬ EqX z q i k) : lsW i k z.2.1 = none := ls_n0 (fun x m hx c e => by
  have lt : xcZ m < xnM z := by
    obtain ⟨t, ht⟩ := hx
    show xcZ m < xcZ z.2.1
    rw [← ht]
    have : ∀ u : List ItZ, xcZ m < xcZ (u ++ (.inl x :: m)) := fun u => by
      induction u with
      | nil => exact Nat.lt_succ_self _
      | cons a u ih =>
        cases a with
        | inl y => exact Nat.lt_succ_of_lt ih
        | inr y => exact ih
    exact this t
  have e2 : xth z (xcZ m) = x := xg_at hx
  exact h (xcZ m) lt (by unfold EqX; rw [e2]; exact ⟨c, e⟩))
theorem ls_is (hE : EaI z) {q : Nat} (hq : q < xnM z) {i k : Int} (h : EqX z q i k) : lsW i k z.2.1 = some q := by
  obtain ⟨x, l, hx, hl, he⟩ := xg_ex (L := z.2.1) hq
  have e2 : xth z q = x := he
  obtain ⟨a, b, c⟩ := h
  rw [e2] at a b c
  have r := ls_un hE hx a
  rw [b, c, hl] at r
  exact r
theorem sm_type (hA : AnC N E A B V σ s z L) (hE : EaI z) {i k r r2 : Int32} (h1 : ∀ T, (fIC σ (E 1) 217 = 0 → AxL E A σ z T) → (erC E σ ∧ r.toInt = -2) ∨ (¬ erC E σ ∧ ((r.toInt = -1 ∧ ∀ q, q < xnM z → ¬ EqX z q i.toInt k.toInt) ∨ ∃ q, q < xnM z ∧ EqX z q i.toInt k.toInt ∧ r.toInt = (T.1 q).1))) (h2 : (r2 = -2 ∧ ∀ T, ¬ OkP N s z L T) ∨ ∃ T, OkP N s z L T ∧ r2.toInt = tyW T z.2.1 i.toInt k.toInt) : r = r2 := by
  apply Int32.toInt_inj.mp
  rcases hA with ⟨e, n⟩ | ⟨e, T, hT, hX, _⟩
  · rcases h1 ⟨fun _ => (0, 0, 0, 0), fun _ => (0, 0)⟩ (fun q => absurd q e) with ⟨_, h1⟩ | ⟨h1, _⟩
    · rcases h2 with ⟨h2, _⟩ | ⟨U, h2, _⟩
      · rw [h1, h2]
        decide
      · exact absurd h2 (n U)
    · exact absurd e h1
  · rcases h2 with ⟨_, h2⟩ | ⟨U, hU, h2⟩
    · exact absurd hT (h2 T)
    · obtain rfl := okp_un hT hU
      rw [h2]
      unfold tyW
      rcases h1 _ (fun _ => hX) with ⟨h1, _⟩ | ⟨_, ⟨h1, h3⟩ | ⟨q, hq, h1, h3⟩⟩
      · exact absurd h1 e
      · rw [lsx_no h3, h1]
      · rw [ls_is hE hq h1, h3]
theorem sm_constant (hA : AnC N E A B V σ s z L) (hE : EaI z) {i k : Int32} {r r2 : Int64} (h1 : ∀ T, (fIC σ (E 1) 217 = 0 → AxL E A σ z T) → (erC E σ ∧ r = Int64.ofInt (-1234567890123)) ∨ (¬ erC E σ ∧ ((r = Int64.ofInt (-1234567890123) ∧ ∀ q, q < xnM z → ¬ EqX z q i.toInt k.toInt) ∨ ∃ q, q < xnM z ∧ EqX z q i.toInt k.toInt ∧ r = if (T.1 q).2.1 = 0 then Int64.ofInt (-1234567890123) else (T.1 q).2.2.1))) (h2 : (r2 = NTW ∧ ∀ T, ¬ OkP N s z L T) ∨ ∃ T, OkP N s z L T ∧ r2 = coA T z.2.1 i.toInt k.toInt) : r = r2 := by
  rcases hA with ⟨e, n⟩ | ⟨e, T, hT, hX, _⟩
  · rcases h1 ⟨fun _ => (0, 0, 0, 0), fun _ => (0, 0)⟩ (fun q => absurd q e) with ⟨_, h1⟩ | ⟨h1, _⟩
    · rcases h2 with ⟨h2, _⟩ | ⟨U, h2, _⟩
      · rw [h1, h2]
        rfl
      · exact absurd h2 (n U)
    · exact absurd e h1
  · rcases h2 with ⟨_, h2⟩ | ⟨U, hU, h2⟩
    · exact absurd hT (h2 T)
    · obtain rfl := okp_un hT hU
      rw [h2]
      unfold coA
      rcases h1 _ (fun _ => hX) with ⟨h1, _⟩ | ⟨_, ⟨h1, h3⟩ | ⟨q, hq, h1, h3⟩⟩
      · exact absurd h1 e
      · rw [lsx_no h3, h1]
        rfl
      · rw [ls_is hE hq h1, h3]
        rfl
theorem sm_ends (hA : AnC N E A B V σ s z L) (hK : TkI z) (hC : ∀ T, OkP N s z L T → ∀ j, j < snM z → SkD z j → ∃ x ∈ GlW N s z L T, x.1 = j) {i r r2 : Int32} (h1 : (fIC σ (E 1) 217 = 0 → StL E B σ z) → (erC E σ ∧ r.toInt = -2) ∨ (¬ erC E σ ∧ ((r.toInt = -1 ∧ ∀ q, q < snM z → ¬ EqS z q i.toInt) ∨ ∃ q, q < snM z ∧ EqS z q i.toInt ∧ ((¬ (fIC σ (B q) 282).toInt = 0 ∧ r.toInt = 1) ∨ ((fIC σ (B q) 282).toInt = 0 ∧ r.toInt = 0))))) (h2 : (r2 = -2 ∧ ∀ T, ¬ OkP N s z L T) ∨ ∃ T, OkP N s z L T ∧ EnW z (GlW N s z L T) i.toInt r2) : r = r2 := by
  apply Int32.toInt_inj.mp
  rcases hA with ⟨e, n⟩ | ⟨e, T, hT, _, hX, hG⟩
  · rcases h1 (fun q => absurd q e) with ⟨_, h1⟩ | ⟨h1, _⟩
    · rcases h2 with ⟨h2, _⟩ | ⟨U, h2, _⟩
      · rw [h1, h2]
        decide
      · exact absurd h2 (n U)
    · exact absurd e h1
  · rcases h2 with ⟨_, h2⟩ | ⟨U, hU, h2⟩
    · exact absurd hT (h2 T)
    · obtain rfl := okp_un hT hU
      rcases h1 (fun _ => hX.1) with ⟨h1, _⟩ | ⟨_, ⟨h1, h3⟩ | ⟨q, hq, ⟨h1, h4⟩, h3⟩⟩
      · exact absurd h1 e
      · rcases h2 with ⟨x, hx, h5, _⟩ | ⟨_, h2⟩
        · exact absurd h5 (h3 x.1 (hG x hx).1)
        · rw [h1, h2]
          decide
      · rcases h2 with ⟨x, hx, ⟨h5, x2⟩, h6⟩ | ⟨h2, _⟩
        · obtain ⟨x1, x3, _⟩ := hG x hx
          have x3 := x3 x2
          have xq : x.1 = q := hK x.1 q x1 hq x2 h4 (by rw [h5, h1])
          rw [xq] at x3
          rw [x3] at h3
          rw [h6]
          cases hb : x.2.2 with
          | false =>
            rw [hb] at h3
            rcases h3 with ⟨h3, _⟩ | ⟨_, h3⟩
            · exact absurd rfl h3
            · rw [h3]
              decide
          | true =>
            rw [hb] at h3
            rcases h3 with ⟨_, h3⟩ | ⟨h3, _⟩
            · rw [h3]
              decide
            · exact absurd h3 (by decide)
        · obtain ⟨x, hx, h5⟩ := hC U hT q hq h4
          exact absurd (by rw [h5]; exact h1) (h2 x hx)
theorem sm_assigned (hA : AnC N E A B V σ s z L) (hK : TkI z) (hC : ∀ T, OkP N s z L T → ∀ j, j < snM z → SkD z j → ∃ x ∈ GlW N s z L T, x.1 = j) {i k r r2 : Int32} (h1 : (fIC σ (E 1) 217 = 0 → KnL E B V σ z) → (erC E σ ∧ r.toInt = -2) ∨ (¬ erC E σ ∧ ((r.toInt = -1 ∧ ((∀ q, q < snM z → ¬ EqS z q i.toInt) ∨ ∃ q, q < snM z ∧ EqS z q i.toInt ∧ ¬ ∃ p ∈ knS z q, p.1 = k.toInt)) ∨ ∃ q, q < snM z ∧ EqS z q i.toInt ∧ (∃ p ∈ knS z q, p.1 = k.toInt) ∧ ((hasQ (fLC σ (B q) 285) k.toInt = true ∧ r.toInt = 1) ∨ (hasQ (fLC σ (B q) 285) k.toInt = false ∧ r.toInt = 0))))) (h2 : (r2 = -2 ∧ ∀ T, ¬ OkP N s z L T) ∨ ∃ T, OkP N s z L T ∧ AsW z (GlW N s z L T) i.toInt k r2) : r = r2 := by
  apply Int32.toInt_inj.mp
  rcases hA with ⟨e, n⟩ | ⟨e, T, hT, _, hX, hG⟩
  · rcases h1 (fun q => absurd q e) with ⟨_, h1⟩ | ⟨h1, _⟩
    · rcases h2 with ⟨h2, _⟩ | ⟨U, h2, _⟩
      · rw [h1, h2]
        decide
      · exact absurd h2 (n U)
    · exact absurd e h1
  · rcases h2 with ⟨_, h2⟩ | ⟨U, hU, h2⟩
    · exact absurd hT (h2 T)
    · obtain rfl := okp_un hT hU
      have same : ∀ x ∈ GlW N s z L U, (fiS z x.1 = i.toInt ∧ SkD z x.1) → ∀ q, q < snM z → EqS z q i.toInt → x.1 = q := fun x hx ⟨h5, x2⟩ q hq ⟨h6, h7⟩ => by
        have x1 := (hG x hx).1
        exact hK x.1 q x1 hq x2 h7 (by rw [h5, h6])
      rcases h1 (fun _ => hX) with ⟨h1, _⟩ | ⟨_, ⟨h1, h3⟩ | ⟨q, hq, h4, h5, h3⟩⟩
      · exact absurd h1 e
      · rcases h2 with ⟨x, hx, h5, h6, _⟩ | ⟨_, h2⟩
        · rcases h3 with h3 | ⟨q, hq, h4, h3⟩
          · exact absurd h5 (h3 x.1 (hG x hx).1)
          · rw [same x hx h5 q hq h4] at h6
            exact absurd h6 h3
        · rw [h1, h2]
          decide
      · rcases h2 with ⟨x, hx, h6, h7, h8⟩ | ⟨h2, _⟩
        · have xq := same x hx h6 q hq h4
          obtain ⟨_, _, x4⟩ := hG x hx
          rw [xq] at x4
          rw [x4] at h3
          obtain ⟨p, hp, pe⟩ := h5
          have b := (hX.2.2 q hq).2 h4.2 p hp
          have b60 := hX.2.1.2.2
          have bq := bit_q (b := x.2.1) (v := k) (k := k.toInt) rfl (by omega) (by omega)
          rcases h8 with ⟨h8, h9⟩ | ⟨h8, h9⟩
          · rcases h3 with ⟨_, h3⟩ | ⟨h3, _⟩
            · rw [h3, h9]
              decide
            · rw [bq.mp h8] at h3
              cases h3
          · rcases h3 with ⟨h3, _⟩ | ⟨_, h3⟩
            · exact absurd (bq.mpr h3) h8
            · rw [h3, h9]
              decide
        · obtain ⟨x, hx, h6⟩ := hC U hT q hq h4.2
          exact absurd (by rw [h6]; exact h5) (h2 x hx (by rw [h6]; exact h4.1))
end

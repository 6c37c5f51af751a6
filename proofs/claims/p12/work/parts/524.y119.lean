/-! what the class's judge leaves is what its answers need -/
abbrev anF : List Nat := [999, 902, 1, 2, 60, 62, 64, 212, 213, 214, 270, 271, 274]
theorem LiC.f9 {M : List Nat} {σ τ : CsC} {a n : Nat} {A : Nat → Nat} (h : LiC σ a n A) (f : FrE M σ τ) (hM : anF.all (fun k => !M.elem k) = true) (ha : a < cnC σ) (hr : RoC σ a) : LiC τ a n A := by
  have q := f.2 (nel hM rfl) a ha
  refine ⟨by rw [(q.1 2 (nel hM rfl)).1]; exact h.1, fun i hi => ⟨?_, Nat.lt_of_lt_of_le (h.2 i hi).2 f.1⟩⟩
  have e := (h.2 i hi).1
  unfold elC at e ⊢
  rw [(q.1 1 (nel hM rfl)).2.2]
  cases hc : fRC σ a 1 with
  | none => rw [hc] at e; exact e
  | some r =>
    rw [hc] at e
    dsimp only at e ⊢
    rw [(f.2 (nel hM rfl) r (hr (by have := h.1; omega) r hc)).2.2.2 (nel hM rfl)]
    exact e
theorem an_of {N : Int → Int} {E A B V : Nat → Nat} {M : List Nat} {σ τ : CsC} {ρ : RS} {s : SpC} {z : ZS} {L : List Nat} {J : Nat → Nat} (hR : RdA N ρ s z) (hL : L.length = (zMs z.1).length) (hJ : ∀ i j, L[i]? = some j → J i = j) (P : PrD N z L 0 (0, 0, []) (psM z)) (hZ : ZD N E A B V σ z) (hF : FrE M σ τ) (hM : anF.all (fun k => !M.elem k) = true) (hbx : snM z ≤ 100000 ∧ xnM z ≤ 100000) (h214 : RoC σ (E 214)) (h212 : RoC σ (E 212)) (hJd : JdC N E A B σ τ z (msM N koY kiY z.1) (zMs z.1).length J (V1W N s) (2 * snM z)) : AnC N E A B V τ s z L := by
  obtain ⟨g0, hg, hJd⟩ := hJd
  have pk := fun T => pok_iff (T := T) hR hL hJ P hg
  rcases hJd with ⟨he, hn⟩ | ⟨he, T, hT, hS, hB, _⟩
  · exact Or.inl ⟨he, fun T hT => hn T ((pk T).1.mpr hT)⟩
  · have hO := (pk T).1.mp hT
    obtain ⟨l1, l2⟩ := (pk T).2 hO
    have e1 := (hF.2 (nel hM rfl) (E 1) hZ.1.2.2.2.1.2.1).1
    refine Or.inr ⟨he, T, hO, ⟨⟨hS.2.2.2.1.1, hS.2.2.2.1.2, fun q hq => ?_, hbx.2⟩, fun q hq => (hS.2.1 q hq).1.1⟩, ⟨⟨?_, ?_, fun j hj => ?_, hbx.1⟩, ⟨?_, ?_, hZ.2.2.2.2.2.2.2.2.2.1⟩, fun j hj => ⟨?_, fun hk => ?_⟩⟩, fun x hx => ?_⟩
    · have x := (hZ.2.2.2.2.1.1 q hq).1
      have f := (hF.2 (nel hM rfl) (A q) (hZ.2.2.2.1.1.2 q hq).2).1
      refine ⟨(hS.2.1 q hq).1.2.1.1, ?_, ?_⟩
      · rw [(f 62 (nel hM rfl)).1]
        exact x.1.1.2.2.1
      · rw [(f 64 (nel hM rfl)).1]
        exact x.2.2.1
    · rw [(e1 214 (nel hM rfl)).2.2]
      exact hZ.1.2.1.2.2.2
    · exact (hZ.2.2.2.1.2.1).f9 hF hM hZ.1.2.2.2.2.1.2.2.2 h214
    · have x := (hZ.2.2.2.2.2.1.1 j hj).1.1
      have f := (hF.2 (nel hM rfl) (B j) (hZ.2.2.2.1.2.1.2 j hj).2).1
      refine ⟨?_, ?_⟩
      · rw [(f 270 (nel hM rfl)).1]
        exact x.1
      · rw [(f 271 (nel hM rfl)).1]
        exact x.2.1
    · rw [(e1 212 (nel hM rfl)).2.2]
      exact hZ.1.2.1.2.1
    · exact (hZ.2.2.2.1.2.2.1).f9 hF hM hZ.1.2.2.2.2.1.2.1 h212
    · have x := (hZ.2.2.2.2.2.1.1 j hj).1.2.1
      have f := (hF.2 (nel hM rfl) (B j) (hZ.2.2.2.1.2.1.2 j hj).2).1
      rw [(f 274 (nel hM rfl)).2.1]
      exact x
    · obtain ⟨⟨hs, hz, hft⟩, _⟩ := hR
      have w := a8_all (N := N) (f := 11) (s := s) (by rw [← hz]; exact hft) hs
      rw [← hz] at w
      exact (w j hj hk).1
    · obtain ⟨⟨_, x1⟩, x2⟩ := l1 x hx
      obtain ⟨_, x3⟩ := l2 x hx
      obtain ⟨b1, b2⟩ := hB x.1 x1
      refine ⟨x1, fun hk => ?_, by rw [b2, x3]⟩
      rw [b1, x2 ⟨hk.2.2.1, hk.2.2.2.1, hk.2.2.2.2⟩]

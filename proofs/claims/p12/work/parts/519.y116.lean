/-! what the reference answers: ends, assigned, means -/
def EnW (z : ZS) (G : List (Nat × Int64 × Bool)) (i : Int) (r : Int32) : Prop := (∃ x ∈ G, (fiS z x.1 = i ∧ SkD z x.1) ∧ r = if x.2.2 = true then 1 else 0) ∨ ((∀ x ∈ G, ¬ fiS z x.1 = i) ∧ r = -1)
def AsW (z : ZS) (G : List (Nat × Int64 × Bool)) (i : Int) (k r : Int32) : Prop := (∃ x ∈ G, (fiS z x.1 = i ∧ SkD z x.1) ∧ (∃ p ∈ knS z x.1, p.1 = k.toInt) ∧ ((bitR x.2.1 k ∧ r = 1) ∨ (¬ bitR x.2.1 k ∧ r = 0))) ∨ ((∀ x ∈ G, fiS z x.1 = i → ¬ ∃ p ∈ knS z x.1, p.1 = k.toInt) ∧ r = -1)
section
variable {N : Int → Int} {ρ σ τ : RS} {s : SpC} {z : ZS} {L : List Nat} {T : TbT}
theorem en_an (h : JgQ N ρ s z L T) (hf : FlO N z T (msM N koY kiY z.1) (V1W N s) (2 * snM z) L 0) (P : PrD N z L 0 (0, 0, []) (psM z)) {i r : Int32} (hr : (¬ (tokR ρ i ∧ ¬ aI ρ 109 i.toNatClampNeg = 0) ∧ r = -1) ∨ ((tokR ρ i ∧ ¬ aI ρ 109 i.toNatClampNeg = 0) ∧ r = if aI ρ 111 i.toNatClampNeg = 0 then 0 else 1)) : EnW z (GlW N s z L T) i.toInt r := by
  obtain ⟨A, B⟩ := st_at h hf P (i := i)
  rcases hr with ⟨n, q⟩ | ⟨t, q⟩
  · exact Or.inr ⟨fun x hx e => n (A.mpr ⟨x, hx, e⟩), q⟩
  · obtain ⟨x, hx, e⟩ := A.mp t
    obtain ⟨b1, b2⟩ := B x hx e
    refine Or.inl ⟨x, hx, ⟨e, (h.2.2.2 x hx).1.2⟩, ?_⟩
    rw [q]
    by_cases c : x.2.2 = true
    · rw [if_pos c, if_neg (b2.mpr c)]
    · rw [if_neg c, if_pos (Classical.byContradiction (fun n => c (b2.mp n)))]
theorem RdA.en (h : RdA N σ s z) {k : Nat} (hk : k < vnW z) : (aI σ 48 k).toInt = enW z k := by
  obtain ⟨_, R, _⟩ := h
  have v := R.vs
  obtain ⟨⟨_, _, E, _⟩, _⟩ := R
  exact ((E k (by show k < (gI σ 42).toInt.toNat; omega)).2 (fun ⟨p, hp, _⟩ => absurd hp List.not_mem_nil)).2
theorem as_an (h : JgQ N ρ s z L T) (hf : FlO N z T (msM N koY kiY z.1) (V1W N s) (2 * snM z) L 0) (P : PrD N z L 0 (0, 0, []) (psM z)) {i k r : Int32} (hr : (¬ (tokR ρ i ∧ ¬ aI ρ 109 i.toNatClampNeg = 0 ∧ 0 ≤ k ∧ k < gI ρ 42 ∧ aI ρ 43 k.toNatClampNeg < i ∧ i ≤ aI ρ 48 k.toNatClampNeg) ∧ r = -1) ∨ ((tokR ρ i ∧ ¬ aI ρ 109 i.toNatClampNeg = 0 ∧ 0 ≤ k ∧ k < gI ρ 42 ∧ aI ρ 43 k.toNatClampNeg < i ∧ i ≤ aI ρ 48 k.toNatClampNeg) ∧ ((bitR (aL ρ 110 i.toNatClampNeg) k ∧ r = 1) ∨ (¬ bitR (aL ρ 110 i.toNatClampNeg) k ∧ r = 0)))) : AsW z (GlW N s z L T) i.toInt k r := by
  obtain ⟨A, B⟩ := st_at h hf P (i := i)
  obtain ⟨_, ⟨σ0, hR, _, ⟨_, e42⟩, eA⟩, _, h1⟩ := h
  have vs := hR.1.2.1.vs
  have kz : k.toNatClampNeg = k.toInt.toNat := rfl
  have key : ∀ x ∈ GlW N s z L T, fiS z x.1 = i.toInt → ((∃ p ∈ knS z x.1, p.1 = k.toInt) ↔ (0 ≤ k ∧ k < gI ρ 42 ∧ aI ρ 43 k.toNatClampNeg < i ∧ i ≤ aI ρ 48 k.toNatClampNeg)) := fun x hx e => by
    obtain ⟨⟨k1, k2⟩, _⟩ := h1 x hx
    have a8 := by
      have q := hR.1.1
      obtain ⟨q1, q2, q3⟩ := q
      have w := a8_all (N := N) (f := 11) (s := s) (by rw [← q2]; exact q3) q1
      rw [← q2] at w
      exact w x.1 k1 k2
    rw [e42, eA 43 (by decide) (by decide), eA 48 (by decide) (by decide)]
    simp only [Int32.le_iff_toInt_le, Int32.lt_iff_toInt_lt]
    have z0 : (0 : Int32).toInt = 0 := rfl
    rw [z0, vs.1]
    constructor
    · rintro ⟨p, p1, p2⟩
      have b := a8.1 p p1
      have hk : k.toNatClampNeg < vnW z := by omega
      have c := (a8.2 k.toNatClampNeg hk).mp ⟨p, p1, by omega⟩
      rw [vs.2.2 _ hk, e] at c
      rw [hR.1.en hk]
      exact ⟨by omega, by omega, c.1, c.2⟩
    · rintro ⟨b1, b2, b3, b4⟩
      have hk : k.toNatClampNeg < vnW z := by omega
      rw [hR.1.en hk] at b4
      obtain ⟨p, p1, p2⟩ := (a8.2 k.toNatClampNeg hk).mpr (by rw [vs.2.2 _ hk, e]; exact ⟨b3, b4⟩)
      exact ⟨p, p1, by omega⟩
  rcases hr with ⟨n, q⟩ | ⟨⟨t1, t2, t3⟩, q⟩
  · refine Or.inr ⟨fun x hx e y => n ?_, q⟩
    obtain ⟨a1, a2⟩ := A.mpr ⟨x, hx, e⟩
    exact ⟨a1, a2, (key x hx e).mp y⟩
  · obtain ⟨x, hx, e⟩ := A.mp ⟨t1, t2⟩
    obtain ⟨b1, _⟩ := B x hx e
    rw [b1] at q
    exact Or.inl ⟨x, hx, ⟨e, (h1 x hx).1.2⟩, (key x hx e).mpr t3, q⟩
theorem RfU.ends {w : Option Value} {i : Int32} (h : RfU N σ s z) (h91 : gI σ 91 = 0) (hL : L.length = (zMs z.1).length) (P : PrD N z L 0 (0, 0, []) (psM z)) (e : EvM 137 [.int i] σ w τ) : (gI τ 68 = 1 ∧ JuR N τ s z) ∧ ∃ r : Int32, w = some (.int r) ∧ ((r = -2 ∧ ∀ T, ¬ OkP N s z L T) ∨ ∃ T, OkP N s z L T ∧ EnW z (GlW N s z L T) i.toInt r) := by
  obtain ⟨j, r, rfl, q⟩ := (w_ends [.int i] σ trivial w τ e) trivial
  have J := h.jd h91 j
  refine ⟨J, r, rfl, ?_⟩
  rcases J.2.of hL P with ⟨a, b⟩ | ⟨a, T, b, c⟩
  · rcases q with ⟨_, q⟩ | ⟨q, _⟩
    · exact Or.inl ⟨q, b⟩
    · exact absurd q a
  · rcases q with ⟨q, _⟩ | ⟨_, q⟩
    · exact absurd a q
    · exact Or.inr ⟨T, b, en_an c b.2.2.2 P q⟩
theorem RfU.assigned {w : Option Value} {i k : Int32} (h : RfU N σ s z) (h91 : gI σ 91 = 0) (hL : L.length = (zMs z.1).length) (P : PrD N z L 0 (0, 0, []) (psM z)) (e : EvM 138 [.int i, .int k] σ w τ) : (gI τ 68 = 1 ∧ JuR N τ s z) ∧ ∃ r : Int32, w = some (.int r) ∧ ((r = -2 ∧ ∀ T, ¬ OkP N s z L T) ∨ ∃ T, OkP N s z L T ∧ AsW z (GlW N s z L T) i.toInt k r) := by
  obtain ⟨j, r, rfl, q⟩ := (w_assigned [.int i, .int k] σ trivial w τ e) trivial
  have J := h.jd h91 j
  refine ⟨J, r, rfl, ?_⟩
  rcases J.2.of hL P with ⟨a, b⟩ | ⟨a, T, b, c⟩
  · rcases q with ⟨_, q⟩ | ⟨q, _⟩
    · exact Or.inl ⟨q, b⟩
    · exact absurd q a
  · rcases q with ⟨q, _⟩ | ⟨_, q⟩
    · exact absurd a q
    · exact Or.inr ⟨T, b, as_an c b.2.2.2 P q⟩
theorem RfU.means {w : Option Value} {i : Int32} (h : RfU N σ s z) (h91 : gI σ 91 = 0) (hL : L.length = (zMs z.1).length) (P : PrD N z L 0 (0, 0, []) (psM z)) (e : EvM 133 [.int i] σ w τ) : ∃ r : Int32, w = some (.int r) ∧ ((¬ (tokR σ i ∧ aI σ 3 i.toNatClampNeg = 1) ∧ r = -1 ∧ τ = σ) ∨ ((tokR σ i ∧ aI σ 3 i.toNatClampNeg = 1) ∧ (gI τ 68 = 1 ∧ JuR N τ s z) ∧ ((r = -2 ∧ ∀ T, ¬ OkP N s z L T) ∨ ∃ T σ0, OkP N s z L T ∧ RdB N σ0 s z ∧ r.toInt = meZ (bmR σ0 z) (kdR σ0) T z.2.1 i.toNatClampNeg))) := by
  obtain ⟨r, rfl, q⟩ := (w_means [.int i] σ trivial w τ e) trivial
  refine ⟨r, rfl, ?_⟩
  rcases q with q | ⟨t, j, q⟩
  · exact Or.inl q
  · have J := h.jd h91 j
    refine Or.inr ⟨t, J, ?_⟩
    rcases J.2.of hL P with ⟨a, b⟩ | ⟨a, T, b, c⟩
    · rcases q with ⟨q, _⟩ | ⟨_, q⟩
      · exact absurd q a
      · exact Or.inl ⟨q, b⟩
    · rcases q with ⟨_, q⟩ | ⟨q, _⟩
      · obtain ⟨_, ⟨σ0, h1, h2, _⟩, _⟩ := c
        exact Or.inr ⟨T, σ0, b, h1, by rw [q]; exact h2 _⟩
      · exact absurd a q
end

/-! a program that was read, in the reference: all that judging asks -/
def CxR (N : Int → Int) (z : ZS) : CxT := CxM N z.1 (msM N koY kiY z.1)
def RdA (N : Int → Int) (σ : RS) (s : SpC) (z : ZS) : Prop := (Z0Y s ∧ z = prM N 11 (z0S s) ∧ zFt z.1 = 0) ∧ RdW N σ z ∧ (V4R σ ∧ (gI σ 18).toInt ≤ 4000) ∧ (WsT N σ z.1 ∧ WoK N σ koY kiY)
theorem pq_59 {k : Int} : ∀ l : List ItZ, pqZ 59 k l = -2 := by
  intro l
  induction l with
  | nil => rfl
  | cons x l ih =>
    cases x with
    | inl x => exact ih
    | inr y =>
      show (if sqZ 59 y.1 = true ∧ y.2.1 = k then (l.length : Int) else pqZ 59 k l) = -2
      rw [if_neg (fun q => by have := q.1; unfold sqZ at this; simp at this), ih]
section
variable {N : Int → Int} {σ : RS} {s : SpC} {z : ZS}
theorem RdA.pd (h : RdA N σ s z) : ∃ L : List Nat, L.length = (zMs z.1).length ∧ (∀ (q : (Nat → Nat) × (Nat → Nat)) (i j : Nat), L[i]? = some j → (jfM N 11 (z0S s) q).1 i = j) ∧ PrD N z L 0 (0, 0, []) (psM z) := by
  obtain ⟨⟨h1, rfl, h3⟩, _⟩ := h
  exact pr_d h3 ⟨h1.1, h1.2.2.1⟩
theorem RdA.ak (h : RdA N σ s z) : AkI z := by
  obtain ⟨⟨h1, rfl, h3⟩, _⟩ := h
  exact ak_all h3 h1
theorem RdA.iv (h : RdA N σ s z) : IvI z := by
  obtain ⟨⟨h1, rfl, h3⟩, _⟩ := h
  exact iv_all h3 h1
theorem RdA.rp (h : RdA N σ s z) : RpI z := by
  obtain ⟨⟨h1, rfl, h3⟩, _⟩ := h
  exact rp_all h3 h1
theorem RdA.dv (h : RdA N σ s z) : DvI z := by
  obtain ⟨⟨h1, rfl, h3⟩, _⟩ := h
  exact dv_all h3 h1
theorem RdA.sk (h : RdA N σ s z) : SkP z.2.1 [] := by
  obtain ⟨⟨h1, rfl, h3⟩, _⟩ := h
  exact sk_pr (N := N) (S := []) 11 (z0S s) rfl h3
theorem RdA.tm (h : RdA N σ s z) : TmI z.1 := by
  obtain ⟨⟨h1, rfl, h3⟩, _⟩ := h
  exact tm_all h3 h1
theorem RdA.kx (h : RdA N σ s z) {i : Nat} (hi : i < xnM z) : 0 ≤ (xth z i).1.1 ∧ (xth z i).1.1 ≤ 15 := by
  obtain ⟨⟨h1, rfl, h3⟩, _⟩ := h
  have h0 := h1.1
  exact ((xs_pr (N := N) (f := 11) (z := z0S s) (by show 0 ≤ zAt s; omega) rfl).2 i hi).1.2
theorem RdA.k0 (h : RdA N σ s z) {x : XrZ} {l : List ItZ} (hx : (.inl x :: l) <:+ z.2.1) : 0 ≤ x.1.1 ∧ x.1.1 ≤ 15 := by
  have q := h.kx (i := xcZ l) (by have := xc_suf hx; have e : xcZ (Sum.inl x :: l) = xcZ l + 1 := rfl; show xcZ l < xcZ z.2.1; omega)
  rw [show xth z (xcZ l) = x from xg_at hx] at q
  exact q
theorem RdA.nm (h : RdA N σ s z) : nT (gI σ 36) = (zMs z.1).length := by rw [h.2.1.ms.2.1, ml_len]
theorem stj_of (h : RdA N σ s z) (h91 : gI σ 91 = 0) : StJ (fun t => (aI σ 3 t).toInt) σ (CxR N z) N (t0T (CxR N z).1 (xgZ z.2.1)) z.2.1 (tnM z) (nT (gI σ 36)) (vnW z) (fun v => clW z v = 1) := by
  obtain ⟨L, hL, _, P⟩ := h.pd
  have A := h.ak
  have g18 := g18_of h.2.1
  have R := h.2.1
  have V := h.2.2.1.1
  have O := h.2.2.2.2
  have b18 := h.2.2.1.2
  refine ⟨⟨h.sk, g18, by omega⟩, ⟨fun hn x l hx => ⟨fun k => xtx_of R V h.2.2.2.1 O A h.rp hn hx (h.k0 hx).1 k, fun k => stx_of R h.iv hx (by have := h.k0 hx; omega)⟩, fun y l hy => ytx_of R A h.dv P hL hy⟩, fun Y hY => mtr_of R A V O hY, fun v hv Y hY h89 r hr => cl_ok R hY hv h89 hr, g42_of R, ⟨fun k hk => ?_, h91, g2_of R⟩, fun v => rfl, vv_of R, my_of h.tm⟩
  have q := R.1.2.2.2.2.2.1.1 59 (by omega) (by omega) k hk
  rw [pq_59] at q
  exact i32_lit q
/-- all that is asked ahead of flow -/
theorem RdA.rg (h : RdA N σ s z) : RgI z.2.1 := by
  obtain ⟨L, hL, _, P⟩ := h.pd
  exact rg_of h.sk (fun y l hy => ⟨((cor_all P).2 y l hy).1.1.2.1, ((cor_all P).2 y l hy).1.2.1⟩)
end

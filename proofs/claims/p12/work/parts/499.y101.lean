/-! a text is cut and read, in the reference: all that is known of it -/
theorem rda_of {N : Int → Int} {ρ T U : RS} {x : TxY} {s : SpC} {n : Nat} {b : Int32} (hok : okY x) (hx : (gI ρ 1).toInt = x.2 ∧ ∀ j, (aI ρ 0 j).toInt = x.1 j) (hZ : Z0Y s) (hT : TkS x s n) (hN : NwN N x n) (e1 : EvM 6 [] ρ none T) (hS : ShR (sI (sI T 14 0) 15 0) s) (e2 : EvM 37 [] T (some (.int b)) U) : (b = 0 ∧ FlR U (prlY 11 s)) ∨ (b = 1 ∧ RdA N U s (prM N 11 (z0S s)) ∧ FrP T U) := by
  obtain ⟨_, hL, hV⟩ := (show (none : Option Value) = none ∧ LxQ ρ T x ∧ ∃ n : Nat, (gI T 2).toInt = n + 1 ∧ TkT T x n from w_lexerT [] ρ trivial none T e1 x ⟨hok, hx.1, hx.2⟩)
  have tz := tz_of hok hL hV hT
  have nz := nmz_w hok hL hV hT hN
  have pre : ShR (sI (sI T 14 0) 15 0) (z0S s).1 ∧ Z0Y (z0S s).1 ∧ (z0S s).2.1 = [] ∧ tnM (z0S s) = 0 ∧ TlZ T (z0S s).1 ∧ NmZ N T := ⟨hS, hZ, rfl, rfl, tz.1, nz⟩
  have Z := w_parseZ [] T trivial _ U e2 N (z0S s) pre
  have Q := w_parseQ4 [] T trivial _ U e2 N (z0S s) ⟨pre, rp_z0 hZ⟩
  have lf : (prM N 11 (z0S s)).1 = prlY 11 s := lf_pr 11 (z0S s)
  rcases Z with ⟨w, f⟩ | ⟨w, hM, hMz⟩
  · rw [lf] at f
    exact Or.inl ⟨Value.int.inj (Option.some.inj w), f⟩
  · obtain ⟨r, w2, J⟩ := Q
    obtain rfl : b = 1 := Value.int.inj (Option.some.inj w)
    obtain rfl : (1 : Int32) = r := Value.int.inj (Option.some.inj w2)
    have J := J (by decide)
    have hft : zFt (prM N 11 (z0S s)).1 = 0 := hM.1.1.1
    have zk : zK (prM N 11 (z0S s)).1 = zK s := by
      rw [lf]
      exact zk_n (gn_prl 11 s)
    have W := ws_w hok hL hV hT hN (fun i hi h5 => (hS.2.2.1 i hi h5).1)
    exact Or.inr ⟨rfl, ⟨⟨hZ, rfl, hft⟩, ⟨hMz, hM, kv_all hft hZ⟩, ⟨J.v4, J.h4⟩, W.fr J.1 zk, (wok_w hok hL hV hT hN).fr J.1⟩, J.1⟩
/-- fields that other calls leave alone -/
def F9 (σ τ : RS) : Prop := (∀ k, k < 118 → ¬ k = 1 → ¬ k = 68 → gI τ k = gI σ k) ∧ (∀ k, k < 118 → ¬ k = 0 → aI τ k = aI σ k) ∧ ∀ k, k < 118 → aL τ k = aL σ k
theorem F9.rf {σ : RS} : F9 σ σ := ⟨fun _ _ _ _ => rfl, fun _ _ _ => rfl, fun _ _ => rfl⟩
theorem F9.tr {σ τ υ : RS} (h : F9 σ τ) (g : F9 τ υ) : F9 σ υ := ⟨fun k a b c => (g.1 k a b c).trans (h.1 k a b c), fun k a b => (g.2.1 k a b).trans (h.2.1 k a b), fun k a => (g.2.2 k a).trans (h.2.2 k a)⟩
section
variable {N : Int → Int} {σ τ : RS} {s : SpC} {z : ZS}
theorem F9.I (h : F9 σ τ) {k : Nat} (a : k < 118 ∧ ¬ k = 1 ∧ ¬ k = 68) : gI τ k = gI σ k := h.1 k a.1 a.2.1 a.2.2
theorem F9.A (h : F9 σ τ) {k : Nat} (a : k < 118 ∧ ¬ k = 0) : aI τ k = aI σ k := h.2.1 k a.1 a.2
theorem F9.l7 (h : F9 σ τ) : aL τ 7 = aL σ 7 := h.2.2 7 (by decide)
theorem MhR.f9 (h : MhR σ z.1) (f : F9 σ τ) : MhR τ z.1 := by
  obtain ⟨h1, h2, ⟨⟨v1, v2⟩, m1, m2, m3⟩⟩ := h
  unfold MhR ShR MvR VvR
  rw [f.I (k := 17) (by decide), f.I (k := 15) (by decide), f.I (k := 14) (by decide), f.I (k := 2) (by decide), f.A (k := 3) (by decide), f.A (k := 6) (by decide), f.A (k := 4) (by decide), f.I (k := 42) (by decide), f.I (k := 36) (by decide), f.A (k := 40) (by decide), f.A (k := 39) (by decide), vlR_c (f.A (k := 43) (by decide)) (f.A (k := 44) (by decide)) (f.A (k := 45) (by decide)) (f.A (k := 46) (by decide)), mlR_c (f.A (k := 37) (by decide)) (f.A (k := 38) (by decide)) (f.A (k := 39) (by decide)) (f.A (k := 40) (by decide)) (f.A (k := 44) (by decide))]
  exact ⟨h1, h2, ⟨⟨v1, v2⟩, m1, m2, m3⟩⟩
theorem MZ.f9 (h : MZ N σ z) (f : F9 σ τ) : MZ N τ z := by
  obtain ⟨h1, h2, h3, ⟨h4, h5⟩, h6, ⟨k1, k2, k3⟩, h8⟩ := h
  refine ⟨h1.fr (f.I (by decide)) (fun k a b j _ => by rw [f.A (by omega)]), ?_, ?_, ⟨?_, ?_⟩, ?_, ⟨fun a a1 a2 k hk => ?_, ?_, fun c x hx hth => ?_⟩, ?_⟩
  · rw [f.I (k := 49) (by decide)]
    exact h2
  · rw [f.A (k := 48) (by decide), f.I (k := 42) (by decide)]
    exact h3
  · unfold TlZ
    rw [f.I (k := 2) (by decide), f.A (k := 3) (by decide), f.A (k := 10) (by decide)]
    exact h4
  · unfold NmZ
    rw [f.I (k := 2) (by decide), f.A (k := 3) (by decide), f.l7, f.A (k := 8) (by decide), f.A (k := 5) (by decide)]
    exact h5
  · rw [f.I (k := 49) (by decide)]
    exact h6
  · rw [f.A (k := a) (by omega)]
    exact k1 a a1 a2 k hk
  · rw [f.A (k := 51) (by decide)]
    exact k2
  · have t := k3 c x hx hth
    unfold TcR at t ⊢
    rw [f.A (k := 51) (by decide), f.A (k := 60) (by decide), f.A (k := 61) (by decide)]
    exact t
  · rw [f.I (k := 18) (by decide)]
    exact h8
/-- what is known of it stands where these fields do -/
theorem RdA.f9 (h : RdA N σ s z) (f : F9 σ τ) : RdA N τ s z := by
  obtain ⟨h0, ⟨hMz, hM, hK⟩, ⟨hV, h18⟩, hW, hO⟩ := h
  refine ⟨h0, ⟨hMz.f9 f, hM.f9 f, hK⟩, ⟨?_, ?_⟩, ?_, ?_⟩
  · unfold V4R
    rw [f.I (k := 36) (by decide), f.I (k := 42) (by decide), f.A (k := 39) (by decide), f.A (k := 40) (by decide), f.A (k := 46) (by decide)]
    exact hV
  · rw [f.I (k := 18) (by decide)]
    exact h18
  · unfold WsT
    rw [f.I (k := 2) (by decide), f.A (k := 3) (by decide), f.A (k := 6) (by decide), f.A (k := 11) (by decide), f.2.2 9 (by decide)]
    exact hW
  · unfold WoK
    rw [f.I (k := 2) (by decide), f.A (k := 3) (by decide), f.A (k := 5) (by decide), f.l7]
    exact hO
end

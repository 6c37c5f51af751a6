/-! the reference between two calls: read; read and judged -/
def V1W (N : Int → Int) (s : SpC) : Nat → Int := fun M => ((jfM N 11 (z0S s) (fun _ => 0, fun _ => 0)).2 M : Int)
def RdB (N : Int → Int) (σ : RS) (s : SpC) (z : ZS) : Prop := RdA N σ s z ∧ ∀ m : Nat, m < nT (gI σ 36) → (aI σ 40 m).toInt = V1W N s m
theorem rdb_of {N : Int → Int} {ρ T U : RS} {x : TxY} {s : SpC} {n : Nat} {b : Int32} (hok : okY x) (hx : (gI ρ 1).toInt = x.2 ∧ ∀ j, (aI ρ 0 j).toInt = x.1 j) (hZ : Z0Y s) (hT : TkS x s n) (hN : NwN N x n) (e1 : EvM 6 [] ρ none T) (hS : ShR (sI (sI T 14 0) 15 0) s) (e2 : EvM 37 [] T (some (.int b)) U) : (b = 0 ∧ FlR U (prlY 11 s)) ∨ (b = 1 ∧ RdB N U s (prM N 11 (z0S s)) ∧ FrP T U) := by
  obtain ⟨_, hL, hV⟩ := (show (none : Option Value) = none ∧ LxQ ρ T x ∧ ∃ n : Nat, (gI T 2).toInt = n + 1 ∧ TkT T x n from w_lexerT [] ρ trivial none T e1 x ⟨hok, hx.1, hx.2⟩)
  have tz := tz_of hok hL hV hT
  have nz := nmz_w hok hL hV hT hN
  have pre : ShR (sI (sI T 14 0) 15 0) (z0S s).1 ∧ Z0Y (z0S s).1 ∧ (z0S s).2.1 = [] ∧ tnM (z0S s) = 0 ∧ TlZ T (z0S s).1 ∧ NmZ N T := ⟨hS, hZ, rfl, rfl, tz.1, nz⟩
  obtain ⟨r, w, K⟩ := w_parseK4 [] T trivial _ U e2 N (z0S s) (fun _ => 0, fun _ => 0) pre
  rcases rda_of hok hx hZ hT hN e1 hS e2 with h | ⟨rfl, h, f⟩
  · exact Or.inl h
  · obtain rfl : (1 : Int32) = r := Value.int.inj (Option.some.inj w)
    exact Or.inr ⟨rfl, ⟨h, fun m hm => K (by decide) m hm⟩, f⟩
theorem RdB.f9 {N : Int → Int} {σ τ : RS} {s : SpC} {z : ZS} (h : RdB N σ s z) (f : F9 σ τ) : RdB N τ s z := ⟨h.1.f9 f, by
  rw [f.I (k := 36) (by decide), f.A (k := 40) (by decide)]
  exact h.2⟩
section
variable {N : Int → Int} {z : ZS} {T : TbT} {ms : MfT} {V1 V2 : Nat → Int} {f : Nat}
theorem flo_cg : ∀ {L : List Nat} {k : Nat}, (∀ M, k ≤ M → M < k + L.length → V1 M = V2 M) → (FlO N z T ms V1 f L k ↔ FlO N z T ms V2 f L k) ∧ FlG N z T ms V1 f L k = FlG N z T ms V2 f L k := by
  intro L
  induction L with
  | nil => exact fun _ => ⟨Iff.rfl, rfl⟩
  | cons j L ih =>
    intro k h
    rw [List.length_cons] at h
    obtain ⟨a, b⟩ := ih (k := k + 1) (fun M h1 h2 => h M (by omega) (by omega))
    have e := h k (Nat.le_refl _) (by omega)
    rw [FlO, FlO, FlG, FlG, e, a, b]
    exact ⟨Iff.rfl, rfl⟩
end
/-- nothing is told of the program -/
def OkP (N : Int → Int) (s : SpC) (z : ZS) (L : List Nat) (T : TbT) : Prop := OkW N z (V1W N s) L T
def GlW (N : Int → Int) (s : SpC) (z : ZS) (L : List Nat) (T : TbT) : List (Nat × Int64 × Bool) := FlG N z T (msM N koY kiY z.1) (V1W N s) (2 * snM z) L 0
/-- all the fields of a program -/
def F8 (σ τ : RS) : Prop := F9 σ τ ∧ gI τ 68 = gI σ 68
theorem F8.rf {σ : RS} : F8 σ σ := ⟨F9.rf, rfl⟩
theorem F8.tr {σ τ υ : RS} (h : F8 σ τ) (g : F8 τ υ) : F8 σ υ := ⟨h.1.tr g.1, g.2.trans h.2⟩
/-- tables of a program that was judged, without an ERROR -/
def JgQ (N : Int → Int) (ρ : RS) (s : SpC) (z : ZS) (L : List Nat) (T : TbT) : Prop := ((gI ρ 74).toInt = (ycZ z.2.1 : Int) ∧ JtR ρ T z.2.1) ∧ (∃ σ0, RdB N σ0 s z ∧ (∀ q : Nat, (aI ρ 80 q).toInt = meZ (bmR σ0 z) (kdR σ0) T z.2.1 q) ∧ (gI ρ 2 = gI σ0 2 ∧ gI ρ 42 = gI σ0 42) ∧ ∀ k, k < 59 → ¬ k = 0 → aI ρ k = aI σ0 k) ∧ (∀ u : Nat, u < nT (gI ρ 2) → (∀ i, i < snM z → SkD z i → ¬ (fiS z i).toNat = u) → aI ρ 109 u = 0) ∧ ∀ x ∈ GlW N s z L T, (x.1 < snM z ∧ SkD z x.1) ∧ ¬ aI ρ 109 (fiS z x.1).toNat = 0 ∧ aL ρ 110 (fiS z x.1).toNat = x.2.1 ∧ (¬ aI ρ 111 (fiS z x.1).toNat = 0 ↔ x.2.2 = true)
theorem JtR.f8 {Y Z : RS} {T : TbT} {l : List ItZ} (h : JtR Y T l) (e : ∀ k, 75 ≤ k → k ≤ 85 → aI Z k = aI Y k) (e2 : ∀ k, 75 ≤ k → k ≤ 85 → aL Z k = aL Y k) : JtR Z T l := h.fr (fun _ _ => rfl) (fun p _ => ⟨by rw [e 75 (by decide) (by decide)], by rw [e 76 (by decide) (by decide)], by rw [e 77 (by decide) (by decide)], by rw [e 78 (by decide) (by decide)], by rw [e2 79 (by decide) (by decide)]⟩) (fun c _ => ⟨by rw [e 81 (by decide) (by decide)], by rw [e 82 (by decide) (by decide)], by rw [e 83 (by decide) (by decide)], by rw [e 84 (by decide) (by decide)], by rw [e2 85 (by decide) (by decide)]⟩)
theorem fla_0 {k : Nat} (h : k < 95) : flA k = false := by
  unfold flA
  simp only [Bool.or_eq_false_iff, beq_eq_false_iff_ne, ne_eq]
  omega
theorem flm_0 {k : Nat} (h : k < 96) : flM k = false := by
  unfold flM
  simp only [Bool.or_eq_false_iff, beq_eq_false_iff_ne, ne_eq]
  omega
/-- judged -/
theorem ju_of {N : Int → Int} {σ τ ρ : RS} {s : SpC} {z : ZS} {L : List Nat} (h : RdB N σ s z) (h91 : gI σ 91 = 0) (ev : EvM 82 [] σ none τ) (hF : F8 τ ρ) (hL : L.length = (zMs z.1).length) (P : PrD N z L 0 (0, 0, []) (psM z)) : (¬ gI ρ 66 = 0 ∧ ∀ T, ¬ OkP N s z L T) ∨ (gI ρ 66 = 0 ∧ ∃ T, OkP N s z L T ∧ JgQ N ρ s z L T) := by
  have nm := h.1.nm
  have cg := fun T => flo_cg (N := N) (z := z) (T := T) (ms := msM N koY kiY z.1) (V1 := V1R σ) (V2 := V1W N s) (f := 2 * snM z) (L := L) (k := 0) (fun M _ h2 => h.2 M (by omega))
  have iff : ∀ T, OkW N z (V1R σ) L T ↔ OkP N s z L T := fun T => by
    unfold OkP OkW
    rw [(cg T).1]
  have e66 : gI ρ 66 = gI τ 66 := hF.1.I (by decide)
  rcases rj_of h.1 h91 ev hL P with ⟨a, b⟩ | ⟨a, T, σ1, o, J, ff, g1, g2⟩
  · exact Or.inl ⟨by rw [e66]; exact a, fun T q => b T ((iff T).mpr q)⟩
  · have e2 : gI ρ 2 = gI σ1 2 := (hF.1.I (by decide)).trans (ff.1 2 rfl)
    have jI : ∀ k, k ≠ 66 → k ≠ 67 → k ≠ 69 → k ≠ 74 → k ≠ 89 → k ≠ 91 → gI σ1 k = gI (sI σ 68 1) k := J.1.1.1
    refine Or.inr ⟨by rw [e66]; exact a, T, (iff T).mp o, ⟨?_, ?_⟩, ⟨σ, h, fun q => ?_, ⟨?_, ?_⟩, fun k hk k0 => ?_⟩, fun u hu hn => ?_, fun x hx => ?_⟩
    · rw [hF.1.I (k := 74) (by decide), ff.1 74 rfl]
      exact J.2.2.1.1
    · exact JtR.f8 (JtR.f8 J.2.2.1.2 (fun k a b => ff.2.2.1 k (fla_0 (by omega))) (fun k a b => ff.2.2.2 k (flm_0 (by omega)))) (fun k a b => hF.1.A (by omega)) (fun k a b => hF.1.2.2 k (by omega))
    · rw [hF.1.A (k := 80) (by decide), ff.2.2.1 80 rfl]
      exact J.2.2.2.2.2.2.2 q
    · rw [e2]
      exact jI 2 (by decide) (by decide) (by decide) (by decide) (by decide) (by decide)
    · exact ((hF.1.I (by decide)).trans (ff.1 42 rfl)).trans (jI 42 (by decide) (by decide) (by decide) (by decide) (by decide) (by decide))
    · exact ((hF.1.A ⟨by omega, k0⟩).trans (ff.2.2.1 k (fla_0 (by omega)))).trans (J.1.1.2.2.1 k (bj_n (by omega)))
    · rw [hF.1.A (k := 109) (by decide)]
      have q := (g1 u (fun i _ hi => hn i hi)).1
      rw [q]
      show clfR _ (gI σ1 2).toInt.toNat u = 0
      unfold clfR
      have hu : u < (gI ρ 2).toInt.toNat := hu
      rw [if_pos (by rw [← e2]; exact hu)]
    · have hx : x ∈ FlG N z T (msM N koY kiY z.1) (V1R σ) (2 * snM z) L 0 := by rw [(cg T).2]; exact hx
      obtain ⟨⟨_, k1, k2⟩, k3⟩ := g2 x hx
      rw [hF.1.A (k := 109) (by decide), hF.1.A (k := 111) (by decide), hF.1.2.2 110 (by decide)]
      exact ⟨⟨k1, k2⟩, k3⟩

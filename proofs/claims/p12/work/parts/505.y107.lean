/-! what the reference answers of a program that was judged -/
def JuR (N : Int → Int) (ρ : RS) (s : SpC) (z : ZS) : Prop := ∃ σ0 τ0, RdB N σ0 s z ∧ gI σ0 91 = 0 ∧ EvM 82 [] σ0 none τ0 ∧ F8 τ0 ρ
def NTW : Int64 := Int64.ofInt (-1234567890123)
def tyW (T : TbT) (L : List ItZ) (i k : Int) : Int := match lsW i k L with
  | none => -1
  | some e => (T.1 e).1
def coA (T : TbT) (L : List ItZ) (i k : Int) : Int64 := match lsW i k L with
  | none => NTW
  | some e => if (T.1 e).2.1 = 0 then NTW else (T.1 e).2.2.1
theorem pos_2 {v : Int32} (h : 0 < v.toInt) : 0 < v := Int32.lt_iff_toInt_lt.mpr h
section
variable {N : Int → Int} {ρ : RS} {s : SpC} {z : ZS} {L : List Nat} {T : TbT}
theorem JuR.of (h : JuR N ρ s z) (hL : L.length = (zMs z.1).length) (P : PrD N z L 0 (0, 0, []) (psM z)) : (¬ gI ρ 66 = 0 ∧ ∀ T, ¬ OkP N s z L T) ∨ (gI ρ 66 = 0 ∧ ∃ T, OkP N s z L T ∧ JgQ N ρ s z L T) := by
  obtain ⟨σ0, τ0, h1, h2, h3, h4⟩ := h
  exact ju_of h1 h2 h3 h4 hL P
theorem xa_of (h : JgQ N ρ s z L T) {i k x : Int32} (hx : XaR ρ i k x) : (x < 0 ∧ lsW i.toInt k.toInt z.2.1 = none) ∨ (¬ x < 0 ∧ ∃ e, lsW i.toInt k.toInt z.2.1 = some e ∧ ShT (aI ρ 77 x.toNatClampNeg) (aI ρ 78 x.toNatClampNeg) (aL ρ 79 x.toNatClampNeg) (T.1 e)) := by
  obtain ⟨⟨h74, hJ⟩, _⟩ := h
  unfold XaR at hx
  rw [h74] at hx
  have q := xa_ls (i := i) (k := k) (r := x) hJ (by
    rcases hx with ⟨a, b⟩ | ⟨a, b, c, d⟩
    · exact Or.inl ⟨a, fun p hp => b p (by omega)⟩
    · exact Or.inr ⟨a, b, c, fun p e f => d p e (by omega)⟩)
  rcases q with ⟨a, b⟩ | ⟨a, b⟩
  · refine Or.inl ⟨?_, b⟩
    rw [a]
    decide
  · refine Or.inr ⟨fun q => ?_, b⟩
    have q := Int32.lt_iff_toInt_lt.mp q
    have q : x.toInt < 0 := q
    omega
theorem ty_an (h : JgQ N ρ s z L T) {i k x r : Int32} (hx : XaR ρ i k x) (hr : (x < 0 ∧ r = -1) ∨ (¬ x < 0 ∧ r = aI ρ 77 x.toNatClampNeg)) : r.toInt = tyW T z.2.1 i.toInt k.toInt := by
  unfold tyW
  rcases xa_of h hx with ⟨a, b⟩ | ⟨a, e, b, c⟩
  · rw [b]
    rcases hr with ⟨_, q⟩ | ⟨q, _⟩
    · rw [q]
      show (-1 : Int32).toInt = -1
      decide
    · exact absurd a q
  · rw [b]
    rcases hr with ⟨q, _⟩ | ⟨_, q⟩
    · exact absurd q a
    · rw [q]
      exact c.1
theorem co_an (h : JgQ N ρ s z L T) {i k x : Int32} {r : Int64} (hx : XaR ρ i k x) (hr : ((x < 0 ∨ aI ρ 78 x.toNatClampNeg = 0) ∧ r = Int64.ofInt (-1234567890123)) ∨ (¬ (x < 0 ∨ aI ρ 78 x.toNatClampNeg = 0) ∧ r = aL ρ 79 x.toNatClampNeg)) : r = coA T z.2.1 i.toInt k.toInt := by
  unfold coA
  rcases xa_of h hx with ⟨a, b⟩ | ⟨a, e, b, c1, c2, c3⟩
  · rw [b]
    rcases hr with ⟨_, q⟩ | ⟨q, _⟩
    · exact q
    · exact absurd (Or.inl a) q
  · rw [b]
    show r = if (T.1 e).2.1 = 0 then NTW else (T.1 e).2.2.1
    by_cases u : (T.1 e).2.1 = 0
    · rw [if_pos u]
      rcases hr with ⟨_, q⟩ | ⟨q, _⟩
      · exact q
      · exact absurd (Or.inr (Classical.byContradiction (fun v => (c2.mp v) u))) q
    · rw [if_neg u]
      rcases hr with ⟨q, _⟩ | ⟨_, q⟩
      · exact absurd (q.resolve_left a) (c2.mpr u)
      · rw [q]
        exact c3 u
/-- S's that have a STEP, by their tokens -/
theorem st_at (h : JgQ N ρ s z L T) (hf : FlO N z T (msM N koY kiY z.1) (V1W N s) (2 * snM z) L 0) (P : PrD N z L 0 (0, 0, []) (psM z)) {i : Int32} : ((tokR ρ i ∧ ¬ aI ρ 109 i.toNatClampNeg = 0) ↔ ∃ x ∈ GlW N s z L T, fiS z x.1 = i.toInt) ∧ ∀ x ∈ GlW N s z L T, fiS z x.1 = i.toInt → aL ρ 110 i.toNatClampNeg = x.2.1 ∧ (¬ aI ρ 111 i.toNatClampNeg = 0 ↔ x.2.2 = true) := by
  obtain ⟨_, ⟨σ0, hR, _, ⟨e2, _⟩, _⟩, h0, h1⟩ := h
  have R := hR.1.2.1
  have kb : ∀ j, j < snM z → SkD z j → 0 ≤ fiS z j ∧ fiS z j < zAt z.1 := by
    obtain ⟨⟨hs, hz, hft⟩, _⟩ := hR.1
    rw [hz] at hft ⊢
    exact (tki_pr (N := N) hft hs.1).2
  have cv := (cv_pr (N := N) (z := z) (T := T) (ms := msM N koY kiY z.1) (V1 := V1W N s) (Nat.le_refl _) L 0 (0, 0, []) (psM z) P (Nat.le_refl _)).2 hf
  have n0 : i.toNatClampNeg = i.toInt.toNat := rfl
  have bd : (0 : Int) < (gI ρ 2).toInt ∧ zAt z.1 + 1 ≤ (gI ρ 2).toInt := by
    obtain ⟨_, ⟨⟨_, ⟨a1, a2, a3, a4⟩, a5, _⟩, _⟩, _⟩ := R
    have a2 := Int32.le_iff_toInt_le.mp a2
    have a2 : 0 ≤ (gI σ0 14).toInt := a2
    have a3 := Int32.lt_iff_toInt_lt.mp a3
    rw [e2]
    omega
  refine ⟨⟨fun ⟨t, q⟩ => ?_, fun ⟨x, hx, q⟩ => ?_⟩, fun x hx q => ?_⟩
  · obtain ⟨t0, t1⟩ := t
    have t0 := Int32.le_iff_toInt_le.mp t0
    have t0 : 0 ≤ i.toInt := t0
    have t1 := Int32.lt_iff_toInt_lt.mp t1
    have tl : i.toInt < (gI ρ 2).toInt := by
      unfold tkcR at t1
      by_cases c : 0 < gI ρ 2
      · rw [if_pos c] at t1
        have e : (gI ρ 2 - 1).toInt = (gI ρ 2).toInt - 1 := by
          have b := (gI ρ 2).toInt_lt
          rw [Int32.toInt_sub]
          exact Int.bmod_eq_of_le (by have : (1 : Int32).toInt = 1 := rfl; omega) (by have : (1 : Int32).toInt = 1 := rfl; omega)
        omega
      · exact absurd (pos_2 bd.1) c
    have ex : ∃ j, j < snM z ∧ SkD z j ∧ (fiS z j).toNat = i.toNatClampNeg := Classical.byContradiction (fun n => q (h0 i.toNatClampNeg (by show i.toInt.toNat < (gI ρ 2).toInt.toNat; omega) (fun j hj hk e => n ⟨j, hj, hk, e⟩)))
    obtain ⟨j, hj, hk, e⟩ := ex
    obtain ⟨x, hx, hxj⟩ := cv j (Nat.zero_le _) hj hk
    refine ⟨x, hx, ?_⟩
    have b := kb j hj hk
    rw [hxj]
    rw [n0] at e
    omega
  · obtain ⟨⟨k1, k2⟩, k3, _⟩ := h1 x hx
    have b := kb x.1 k1 k2
    have en : (fiS z x.1).toNat = i.toNatClampNeg := by rw [q]; rfl
    rw [en] at k3
    refine ⟨⟨Int32.le_iff_toInt_le.mpr (by show (0 : Int) ≤ i.toInt; omega), Int32.lt_iff_toInt_lt.mpr ?_⟩, k3⟩
    unfold tkcR
    rw [if_pos (pos_2 bd.1)]
    have e : (gI ρ 2 - 1).toInt = (gI ρ 2).toInt - 1 := by
      have b := (gI ρ 2).toInt_lt
      rw [Int32.toInt_sub]
      exact Int.bmod_eq_of_le (by have : (1 : Int32).toInt = 1 := rfl; omega) (by have : (1 : Int32).toInt = 1 := rfl; omega)
    omega
  · obtain ⟨_, _, k4, k5⟩ := h1 x hx
    have en : (fiS z x.1).toNat = i.toNatClampNeg := by rw [q]; rfl
    rw [en] at k4 k5
    exact ⟨k4, k5⟩
end

/-! small premises of judging, out of what is read -/
section
variable {N : Int → Int} {σ : RS} {z : ZS} {ms : MfT}
theorem vv_of (R : RdW N σ z) {xs : Nat → XrZ} : VvT (CxM N z.1 ms) (t0T N xs) := fun v hv => by
  have hv : v < vnW z := hv
  have r := (R.vt (Nv := N) (ms := ms) (Y := sI σ 68 1) JfR.rf (v := (v : Int)) (Int.natCast_nonneg _) (by omega)).2.2.2
  exact ⟨r, fun q => absurd rfl q⟩
theorem g42_of (R : RdW N σ z) : (gI σ 42).toInt = (vnW z : Int) ∧ (CxM N z.1 ms).2.2.1 = vnW z := ⟨R.vs.1, rfl⟩
theorem g18_of (R : RdW N σ z) : (gI σ 18).toInt = (z.2.1.length : Int) := by
  obtain ⟨⟨_, pc2⟩, _, _, _, _, _, g18⟩ := R.1
  rw [(nt_pos g18).1, pc2]
theorem g2_of (R : RdW N σ z) : 0 ≤ (gI σ 2).toInt := by
  obtain ⟨_, ⟨⟨_, ⟨a1, a2, a3, a4⟩, a5, _⟩, _⟩, _⟩ := R
  have n14 := (nt_pos a2).1
  have a3 := Int32.lt_iff_toInt_lt.mp a3
  omega
/-- codes: what the text shows of them -/
theorem iy_of (R : RdW N σ z) {y : Int × Int × Int × Int × Int} {l : List ItZ} (hy : (.inr y :: l) <:+ z.2.1) : IcR id (sI σ 68 1) (.inr y :: l) := by
  obtain ⟨t, e⟩ := hy
  have h : IcR id σ z.2.1 := R.1.1.1
  rw [← e] at h
  have key : ∀ t : List ItZ, IcR id σ (t ++ (.inr y :: l)) → IcR id σ (.inr y :: l) := by
    intro t
    induction t with
    | nil => exact id
    | cons x t ih => exact fun q => ih q.2
  have k1 := key t h
  exact IcR.fr (σ := σ) (τ := sI σ 68 1) (fun _ _ _ _ _ => rfl) k1
/-- things' codes: 37 to 39, 41, 51 -/
theorem tc_of (R : RdW N σ z) {y : Int × Int × Int × Int × Int} {l : List ItZ} (hy : (.inr y :: l) <:+ z.2.1) (ht : thO y.1 = true) : TcR σ (tnM z) l.length y := R.1.2.2.2.2.2.1.2.2 l.length y (itN_at hy) ht
end

/-! a frame's variables end; a frame is left; a variable is told -/
theorem ZRx.lv {σ τ : RS} {z : ZS} {F K : List FrZ} {a : FrZ} {t : Int} (h : ZRx σ z F (a :: K)) (p : PcM id τ z) (hs : scF a.1 = true) (h0 : 0 ≤ t) (hm : tnM z ≤ 1000) (e42 : gI τ 42 = gI σ 42) (e49 : gI τ 49 = gI σ 49) (e62 : gI τ 62 = gI σ 62) (a47 : aI τ 47 = aI σ 47) (a48 : ∀ v, v < nT (gI σ 42) → (aI τ 48 v).toInt = if (aI σ 47 v).toInt = nuF a ∧ (aI σ 48 v).toInt < 0 then t else (aI σ 48 v).toInt) (a60 : aI τ 60 = aI σ 60) (a63 : aI τ 63 = aI σ 63) (a64 : aI τ 64 = aI σ 64) (a65 : aI τ 65 = aI σ 65) : ZRx τ (veM t a.2.2.2.2 z) F (a :: K) ∧ KnZ (fun v => (aI τ 47 v).toInt) K a.2.2.2.2 := by
  obtain ⟨h1, ⟨h2, h3⟩, ⟨h4, h5, i, b, h6, h7⟩, h8, h9, h10, h11, h12⟩ := h
  have sg : SgZ z (veM t a.2.2.2.2 z) := SgZ.e rfl
  have L := EnZ.lv (e' := fun v => (aI τ 48 v).toInt) h11 h10 hs h8 hm h0 a48
  have hk : (if scF a.1 = true then ∃ seg, z.2.2.2.1.1 = seg ++ a.2.2.2.2 ∧ (∀ p ∈ seg, 0 ≤ p.1 ∧ (aI σ 47 p.1.toNat).toInt = nuF a) ∧ KnZ (fun v => (aI σ 47 v).toInt) K a.2.2.2.2 else KnZ (fun v => (aI σ 47 v).toInt) K z.2.2.2.1.1) := h10
  rw [if_pos hs] at hk
  obtain ⟨seg, hk1, hk2, hk3⟩ := hk
  refine ⟨⟨p.z rfl, ⟨by rw [e49]; exact h2, by rw [e62]; exact h3⟩, ⟨FxR.g (z := z) (z' := veM t a.2.2.2.2 z) List.suffix_rfl sg h4 h5 h7 h6 (fun k _ => by rw [a60]) (fun j _ => ⟨by rw [a63], by rw [a64], by rw [a65]⟩), h5, i, b, h6, AcZ.g sg h6 h7⟩, h8, AcZ.g sg (Nat.le_refl _) h9, ?_, ?_, ?_⟩, by rw [a47]; exact L.2⟩
  · rw [a47]
    show (if scF a.1 = true then ∃ seg, a.2.2.2.2 = seg ++ a.2.2.2.2 ∧ (∀ p ∈ seg, 0 ≤ p.1 ∧ (aI σ 47 p.1.toNat).toInt = nuF a) ∧ KnZ (fun v => (aI σ 47 v).toInt) K a.2.2.2.2 else _)
    rw [if_pos hs]
    exact ⟨[], rfl, fun _ q => (by cases q), L.2⟩
  · rw [e42]
    exact L.1
  · intro q hq
    rw [e42]
    refine h12 q ?_
    rw [hk1]
    exact List.mem_append.mpr (Or.inr hq)
/-- a frame that is no row's is left -/
theorem ZRx.po {σ τ : RS} {z : ZS} {F : List FrZ} {a : FrZ} (h : ZR σ z (a :: F)) (p : PcM id τ z) (h9 : ¬ 9 ≤ a.1 ∨ a.1 = 12) (hk : KnZ (fun v => (aI σ 47 v).toInt) F z.2.2.2.1.1) (e42 : gI τ 42 = gI σ 42) (e49 : gI τ 49 = gI σ 49) (e62 : nT (gI τ 62) + 1 = nT (gI σ 62)) (a47 : aI τ 47 = aI σ 47) (a48 : aI τ 48 = aI σ 48) (a60 : aI τ 60 = aI σ 60) (a63 : aI τ 63 = aI σ 63) (a64 : aI τ 64 = aI σ 64) (a65 : aI τ 65 = aI σ 65) : ZR τ (unM a.2.1 z) F := by
  obtain ⟨h1, ⟨h2, h3⟩, ⟨h4, h5, i, b, h6, h7⟩, h8, h9', h10, h11, h12⟩ := h
  have sg : SgZ z (unM a.2.1 z) := SgZ.e rfl
  obtain ⟨_, g1, g2, g3, g4, g5, g6, g7, g8, g9⟩ := h9'
  have hb : a.2.1 ≤ snM z := by omega
  have ft : FtZ F (tnM z) := h8.2.2.m (by have := h8.1; omega)
  refine ⟨p.z rfl, ⟨by rw [e49]; exact h2, by rw [List.length_cons] at h3; omega⟩, ⟨FxR.g (z := z) (z' := unM a.2.1 z) List.suffix_rfl sg h4.2.2 ft g9 hb (fun k _ => by rw [a60]) (fun j _ => ⟨by rw [a63], by rw [a64], by rw [a65]⟩), ft, _, _, hb, AcZ.g sg hb g9⟩, ft, (AcZ.g sg hb g9).m hb, ?_, ?_, ?_⟩
  · rw [a47]
    exact hk
  · rw [a48, e42]
    exact h11
  · rw [e42]
    exact h12
/-- a variable is told in the frame on top -/
theorem ZRx.va {σ τ : RS} {z : ZS} {F K : List FrZ} {N : Int → Int} {ty f g : Int} (h : ZRx σ z F K) (p : PcM id τ z) (hv : (zVs z.1).length = nT (gI σ 42)) (hsc : ∃ a ∈ K, scF a.1 = true) (e42 : nT (gI τ 42) = nT (gI σ 42) + 1) (e49 : gI τ 49 = gI σ 49) (e62 : gI τ 62 = gI σ 62) (a47 : ∀ v, v < nT (gI σ 42) → aI τ 47 v = aI σ 47 v) (n47 : (aI τ 47 (nT (gI σ 42))).toInt = sfF K) (a48 : ∀ v, v < nT (gI σ 42) → aI τ 48 v = aI σ 48 v) (n48 : (aI τ 48 (nT (gI σ 42))).toInt = -2) (a60 : aI τ 60 = aI σ 60) (a63 : aI τ 63 = aI σ 63) (a64 : aI τ 64 = aI σ 64) (a65 : aI τ 65 = aI σ 65) : ZRx τ (dcM N ty f g z) F K := by
  obtain ⟨h1, ⟨h2, h3⟩, ⟨h4, h5, i, b, h6, h7⟩, h8, h9, h10, h11, h12⟩ := h
  have sg : SgZ z (dcM N ty f g z) := SgZ.e rfl
  have k1 : KnZ (fun v => (aI τ 47 v).toInt) K z.2.2.2.1.1 := KnZ.w (n := nT (gI σ 42)) h10 h12 (fun v hv => by show (aI τ 47 v).toInt = (aI σ 47 v).toInt; rw [a47 v hv])
  refine ⟨p.z rfl, ⟨by rw [e49]; exact h2, by rw [e62]; exact h3⟩, ⟨FxR.g (z := z) (z' := dcM N ty f g z) List.suffix_rfl sg h4 h5 h7 h6 (fun k _ => by rw [a60]) (fun j _ => ⟨by rw [a63], by rw [a64], by rw [a65]⟩), h5, i, b, h6, AcZ.g sg h6 h7⟩, h8, AcZ.g sg (Nat.le_refl _) h9, ?_, ?_, ?_⟩
  · show KnZ _ K ((((zVs z.1).length : Int), zAt z.1) :: z.2.2.2.1.1)
    rw [hv]
    exact k1.va hsc n47
  · show EnZ _ ((((zVs z.1).length : Int), zAt z.1) :: z.2.2.2.1.1) z.2.2.2.2.1 _
    rw [hv, e42]
    exact EnZ.va (e := fun v => (aI σ 48 v).toInt) h11 (fun v hv => by show (aI τ 48 v).toInt = (aI σ 48 v).toInt; rw [a48 v hv]) n48
  · intro q hq
    have hq : q ∈ ((((zVs z.1).length : Int), zAt z.1) :: z.2.2.2.1.1) := hq
    rw [e42]
    rcases List.mem_cons.mp hq with rfl | hq
    · show ((zVs z.1).length : Int) < _
      omega
    · have := h12 q hq
      omega

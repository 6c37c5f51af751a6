/-! the law's start: the class's first states -/
def st0C (cp sp : Nat) : CsC := (((0, 0), (cp, sp)), (fun _ => (0, 0, 0)), ((fun _ _ => 0), (fun _ _ => 0), (fun _ _ => none)), ((fun _ _ => 0), (fun _ _ => 0), (fun _ _ => none)))
theorem st0C_hi {cp sp : Nat} : HIC (st0C cp sp) := ⟨fun a ha => absurd ha (Nat.not_lt_zero _), fun a ha => absurd ha (Nat.not_lt_zero _)⟩
/-- the object alone, under construction -/
def st1C (cp sp : Nat) : CsC := nOC (st0C cp sp) 62 13 0
theorem st1C_hi {cp sp : Nat} : HIC (st1C cp sp) := st0C_hi.nO (by decide) (by decide)
theorem st1C_raw {cp sp : Nat} : RawC (st1C cp sp) 0 12 := ⟨Nat.zero_lt_one, rfl, by decide⟩
theorem st1C_zr {cp sp : Nat} : ZrC (st1C cp sp) 0 := fun k => ⟨rfl, rfl⟩
set_option maxRecDepth 100000 in
theorem st1C_pre : P_X11_init [.inr (.inr (some 0))] (st1C 62 23848) := ⟨0, rfl, st1C_hi, st1C_raw, st1C_zr, Nat.le_refl _, Nat.le_refl _⟩
theorem st1C_w {ad : Nat → Nat} {kA : Nat → ClassId} {cp sp : Nat} : CwC ad kA (st1C cp sp) = [(ad 0, .inr (12, [.null, .null, .null, .null, .null, .null, .null, .null, .null, .int 0, .int 0, .int 0, .int 0]))] := by
  show [(ad 0, entC ad kA (st1C cp sp) 0)] = _
  rw [entC_ob (RawC.ob st1C_raw)]
  rfl
/-- more room -/
def reR (σ : CsC) (cp sp : Nat) : CsC := ((σ.1.1, (cp, sp)), σ.2)
theorem reR_hi {σ : CsC} {cp sp : Nat} (h : HIC σ) : HIC (reR σ cp sp) := h
theorem reR_w {ad : Nat → Nat} {kA : Nat → ClassId} {σ : CsC} {cp sp : Nat} : CwC ad kA (reR σ cp sp) = CwC ad kA σ := rfl
theorem reR_gp {σ : CsC} {cp sp a : Nat} : gpC (reR σ cp sp) a = gpC σ a := rfl
theorem W2C.new {w : Option AvC} {τ : CsC} (h : U_ini11 [.inr (.inr (some 0))] (st1C 62 23848) w τ) : W2C (reR τ 150000 5000000) 0 ∧ DsC (reR τ 150000 5000000) 0 ∧ DlC (reR τ 150000 5000000) 0 := ⟨(h () trivial).1, (h () trivial).2.1, (h () trivial).2.2.2.1⟩
/-- the empty text -/
def tx0 : TxY := (fun _ => 0, 0)
theorem tx0_e : okY tx0 ∧ EndY tx0 0 := ⟨⟨fun _ => ⟨by show (0 : Int) ≤ 0; decide, by show (0 : Int) ≤ 255; decide⟩, by decide, by decide⟩, fun j hj => absurd hj (Nat.not_lt_zero _), rfl⟩
/-- what the empty text is read from -/
def sp0 : SpC := ((0, 0, 0), ([], []), (fun _ => 84), ((fun _ => 0), (fun _ => none), (fun _ => none), 0, []))
theorem sp0_t : TkS tx0 sp0 0 := ⟨by decide, fun j hj => absurd hj (Nat.not_lt_zero _), rfl, Or.inl ⟨rfl, Or.inl (by show (0 : Int) ≤ atY tx0 0; rw [tx0_e.2.2]; decide)⟩⟩
theorem sp0_p : (prlY 11 sp0).2.1 = ([], []) := by
  have e1 : zFt sp0 = 0 := rfl
  have e2 : codY sp0 = 84 := by unfold codY; rw [if_pos e1]; rfl
  have e3 : prlY 11 sp0 = sp0 := by
    show (if zFt sp0 = 0 then (if codY sp0 = 84 then sp0 else prlY 10 (mthY sp0)) else sp0) = sp0
    rw [if_pos e1, if_pos e2]
  rw [e3]
  rfl
theorem nT_z : nT 0 = 0 := rfl
theorem RlRq.new : RlRq S1n ([], []) := by
  refine ⟨⟨?_, ?_, ?_⟩, ?_, ?_, ?_⟩
  · rw [S1n_z (by decide)]; rfl
  · rw [S1n_z (by decide)]; decide
  · rw [S1n_z (by decide)]; decide
  · rw [S1n_z (by decide)]; rfl
  · rw [S1n_z (by decide)]; decide
  · rw [S1n_z (by decide)]; decide
theorem JpC.new {w : Option AvC} {τ : CsC} (h : U_ini11 [.inr (.inr (some 0))] (st1C 62 23848) w τ) (H : HIC τ) (ty : TyC τ 0 12) : JpC 0 (reR τ 150000 5000000) S1n := by
  obtain ⟨P, -, eP, tP⟩ := cg363 H.1 ty
  obtain ⟨t, -, et, tt⟩ := cg210 H.1 tP
  obtain ⟨a0, -, e0, -⟩ := cg300 H.1 tt
  obtain ⟨a1, -, e1, -⟩ := cg301 H.1 tt
  obtain ⟨a2, -, e2, -⟩ := cg302 H.1 tt
  have hz := (h () trivial).2.2.1 P t eP et
  have hl := (h () trivial).2.2.2.2 P
  obtain ⟨la, lb, hLf⟩ := LfT.mk H tP
  have z1 := hl 211 eP (Or.inl rfl) la hLf.1.1
  have z2 := hl 212 eP (Or.inr rfl) lb hLf.1.2
  refine ⟨tx0, 0, sp0, tx0_e.1, ⟨?_, fun j hj => absurd hj (by show ¬ (j : Int) < 0; omega)⟩, tx0_e.2, ⟨P, t, eP, et, a0, a1, a2, ⟨e0, e1, e2⟩, ?_, fun j hj => absurd hj (Nat.not_lt_zero _)⟩, ⟨Or.inr ⟨?_, rfl⟩, fun j hj => absurd hj (Nat.not_lt_zero _)⟩, ⟨⟨rfl, rfl, rfl, rfl⟩, sp0_t⟩, ?_, ?_⟩
  · rw [S1n_z (by decide)]; rfl
  · show (fIC τ t 305).toInt = _
    rw [hz]; rfl
  · rw [S1n_z (by decide)]; rfl
  · rw [sp0_p]
    refine ⟨P, la, lb, eP, hLf, ⟨?_, ?_⟩, ⟨trivial, Or.inl rfl⟩, trivial, Or.inl rfl⟩
    · show (fIC τ la 2).toInt = 0
      rw [z1]; rfl
    · show (fIC τ lb 2).toInt = 0
      rw [z2]; rfl
  · rw [sp0_p]
    exact RlRq.new
theorem IvL.new {w : Option AvC} {τ : CsC} (h : Q_X11_init [.inr (.inr (some 0))] (st1C 62 23848) w τ) : w = none ∧ IvL 0 0 (reR τ 150000 5000000) ∧ (fIC τ 0 369 = 0 ∧ fIC τ 0 370 = 0) := by
  obtain ⟨rfl, hi, e, t, hg, h1, h2, h8, h9⟩ := h
  have h1 : cnC τ = 62 := h1
  have h2 : slC τ = 23848 := h2
  obtain ⟨x, -, e3, -, hz⟩ := cg369 hi.1 t
  have hz : (fIC τ 0 369).toInt ≤ 2500 := by rw [e3]; exact hz
  have hG := gsC_le (σ := τ) (cnC τ)
  have e1 : gsC (reR τ 150000 5000000) (cnC τ) = gsC τ (cnC τ) := gsC_eq _ (fun _ _ => rfl)
  refine ⟨rfl, ⟨reR_hi hi, t, ⟨⟨Nat.le_refl _, Nat.le_refl _⟩, rfl, ⟨?_, ?_⟩, ?_⟩, ⟨rfl, rfl⟩, ?_, ?_⟩, h8, h9⟩
  · show cnC τ ≤ 150000; omega
  · show slC τ ≤ 5000000; omega
  · show 150000 ≤ 1000000; omega
  · show (cnC τ : Int) + 8 * (fIC τ 0 369).toInt ≤ _; omega
  · show slC τ + 4 * gsC (reR τ 150000 5000000) (cnC τ) ≤ 2000000 + 22 * cnC τ; omega
theorem NoU.new : NoU S1n := Or.inl ⟨S1n_z (by decide), ⟨⟨by rw [S1n_z (by decide)]; rfl, by rw [S1n_z (by decide)]; rfl⟩, by rw [S1n_z (by decide)]; rfl, by rw [S1n_z (by decide)]; rfl⟩⟩
theorem RfA.new : RfA tx0 S1n := fun N s n hZ hT _ => by
  obtain rfl := tk_0 hT rfl
  exact Or.inr ⟨NoU.new, em_of hZ hT rfl⟩
theorem reR_sm {σ : CsC} {cp sp : Nat} : cnC (reR σ cp sp) = cnC σ ∧ (reR σ cp sp).2 = σ.2 := ⟨rfl, rfl⟩
theorem JqD.new {L9 : Nat} {w : Option AvC} {τ : CsC} (c : EvF L9 200 [.inr (.inr (some 0))] (st1C 62 23848) w τ) (H : HIC τ) (ty : TyC τ 0 12) : JqD 0 (reR τ 150000 5000000) S1n := by
  have h := (wz_cini L9 _ _ _ _ c (fun _ => 0, fun _ => 0, fun _ => 0, fun _ => 0, fun _ => 0, z0S sp0) ⟨_, rfl, Nat.zero_lt_one⟩).2
  obtain ⟨P, P', h1, h2, lo, hi, h3⟩ := PpC.new h H.1 ty
  exact ⟨tx0, tx0_e.1, ⟨by rw [S1n_z (by decide)]; rfl, fun j hj => absurd hj (by show ¬ (j : Int) < 0; omega)⟩, RfA.new, P, P', h1, h2, PgA.new (s := sp0) rfl ⟨rfl, rfl, rfl, rfl⟩ sp0_t h3⟩

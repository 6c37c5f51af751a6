/-! Method() -/
/-- objects below c, but p0, stay -/
def PmX (p0 c : Nat) (σ τ : CsC) : Prop := cnC σ ≤ cnC τ ∧ (∀ a, a < c → a ≠ p0 → ∀ j, fIC τ a j = fIC σ a j ∧ fLC τ a j = fLC σ a j ∧ fRC τ a j = fRC σ a j) ∧ (∀ a, a < c → eIC τ a = eIC σ a ∧ eLC τ a = eLC σ a ∧ eRC τ a = eRC σ a)
theorem PmX.tr {p0 c : Nat} {σ τ υ : CsC} (h : PmX p0 c σ τ) (g : PmX p0 c τ υ) : PmX p0 c σ υ := ⟨Nat.le_trans h.1 g.1, fun a ha hn j => by
  have p := h.2.1 a ha hn j
  have q := g.2.1 a ha hn j
  exact ⟨q.1.trans p.1, q.2.1.trans p.2.1, q.2.2.trans p.2.2⟩, fun a ha => by
  have p := h.2.2 a ha
  have q := g.2.2 a ha
  exact ⟨q.1.trans p.1, q.2.1.trans p.2.1, q.2.2.trans p.2.2⟩⟩
theorem PmX.pI {p0 c k : Nat} {v : Int32} {σ : CsC} : PmX p0 c σ (pIC σ p0 k v) := ⟨Nat.le_refl _, fun a _ hn j => ⟨u2C_na hn, rfl, rfl⟩, fun _ _ => ⟨rfl, rfl, rfl⟩⟩
theorem PmX.pL {p0 c k : Nat} {v : Int64} {σ : CsC} : PmX p0 c σ (pLC σ p0 k v) := ⟨Nat.le_refl _, fun a _ hn j => ⟨rfl, u2C_na hn, rfl⟩, fun _ _ => ⟨rfl, rfl, rfl⟩⟩
theorem PmX.pR {p0 c k : Nat} {v : Option Nat} {σ : CsC} : PmX p0 c σ (pRC σ p0 k v) := ⟨Nat.le_refl _, fun a _ hn j => ⟨rfl, rfl, u2C_na hn⟩, fun _ _ => ⟨rfl, rfl, rfl⟩⟩
theorem PmX.nO {p0 c t N g : Nat} {σ : CsC} (hc : c ≤ cnC σ) : PmX p0 c σ (nOC σ t N g) := ⟨Nat.le_succ _, fun a ha _ j => nO_a (by omega), fun _ _ => ⟨rfl, rfl, rfl⟩⟩
theorem PmX.nA {p0 c t N g : Nat} {σ : CsC} (hc : c ≤ cnC σ) : PmX p0 c σ (nAC σ t N g) := ⟨Nat.le_succ _, fun a _ _ j => ⟨rfl, rfl, rfl⟩, fun a ha => by
  have nb : a ≠ cnC σ := by omega
  refine ⟨?_, ?_, ?_⟩
  · show u1C σ.2.2.2.1 (cnC σ) (fun _ => 0) a = _
    rw [u1C_ne nb]
    rfl
  · show u1C σ.2.2.2.2.1 (cnC σ) (fun _ => 0) a = _
    rw [u1C_ne nb]
    rfl
  · show u1C σ.2.2.2.2.2 (cnC σ) (fun _ => none) a = _
    rw [u1C_ne nb]
    rfl⟩
theorem PmX.is {p0 c p1 : Nat} {x1 x2 x3 : Int32} {x4 : Option Nat} {x5 : Int64} {σ τ : CsC} (h : InS p1 x1 x2 x3 x4 x5 σ τ) (hc : c ≤ p1) : PmX p0 c σ τ := ⟨Nat.le_of_eq h.2.2.1.symm, fun a ha _ j => h.1 a (by omega) j, fun a _ => by
  obtain ⟨q1, q2, q3⟩ := h.2.1
  rw [q1, q2, q3]
  exact ⟨rfl, rfl, rfl⟩⟩
theorem PmX.we {p0 c : Nat} {σ τ υ : CsC} (h : PmX p0 c σ τ) (g : WeC τ υ) : PmX p0 c σ υ := by
  unfold PmX
  rw [we_c g, we_i g, we_l g, we_r g, we_ei g, we_el g, we_er g]
  exact h
def InM (p0 : Nat) (t : Int32) (k : Int64) (ty fv : Int32) (σ τ : CsC) : Prop := PmX p0 (cnC σ) σ τ ∧ (fIC τ p0 180 = t ∧ fLC τ p0 181 = k ∧ fIC τ p0 182 = ty ∧ fIC τ p0 184 = fv ∧ fIC τ p0 185 = fIC σ p0 185) ∧ ∃ r, (cnC σ ≤ r ∧ r < cnC τ) ∧ fRC τ p0 183 = some r
abbrev Pz_Method : ((Int → Int) × (Nat → Nat) × (Nat → Nat) × (Nat → Nat) × (Nat → Nat) × ZS) → CpC := fun y As σ => match y with
  | (N, E, A, B, V, z) => ∃ (p0 : Nat) (p1 : Int32) (p2 : Int64) (p3 : Int32) (p4 : Int32), As = [.inr (.inr (some p0)), .inl p1, .inr (.inl p2), .inl p3, .inl p4] ∧ (p0 < cnC σ)
abbrev Qz_Method : ((Int → Int) × (Nat → Nat) × (Nat → Nat) × (Nat → Nat) × (Nat → Nat) × ZS) → CqC := fun y As σ w τ => match y, As with
  | (N, E, A, B, V, z), [.inr (.inr (some p0)), .inl p1, .inr (.inl p2), .inl p3, .inl p4] => w = none ∧ InM p0 p1 p2 p3 p4 σ τ
  | _, _ => True
abbrev Uz_Method : CqC := fun As σ w τ => ∀ y, Pz_Method y As σ → Qz_Method y As σ w τ
set_option maxHeartbeats 4000000 in
theorem pz_Method (y : (Int → Int) × (Nat → Nat) × (Nat → Nat) × (Nat → Nat) × (Nat → Nat) × ZS) : PbC KX5_init [(178, TrP, EqC 178)] [(178, Uz_Statement)] (fun As σ => Pz_Method y As σ ∧ cnC σ ≤ 1000000 ∧ ∃ w τ, uqC quL 111 As σ w τ) (Qz_Method y) := by
  obtain ⟨N, E, A, B, V, z⟩ := y
  rintro As σ ⟨⟨p0, p1, p2, p3, p4, rfl, hlt⟩, hcn, _, _, hQ⟩ K hB hW n_
  change K n_ 0 [(0, .inr (.inr (some p0))), (1, .inl p1), (2, .inr (.inl p2)), (4, .inl p3), (5, .inl p4)] [] σ
  refine hB _ _ _ _ _ (fun m51 hm51 => ?_)
  dsimp only [ucgo, ucwp, ucsC, uqC, uoC, ctC, rfd, KX5_init, KX5_init_0, lkC, s1C, s2C, dlC, kyC, Nat.beq, Nat.ble, rcd, rno, rsw, Nat.reduceAdd, Nat.reduceBEq, Nat.reduceDiv, List.drop, List.take, List.reverse, List.reverseAux, Int.toNat, Option.toList, List.append, List.cons_append, List.nil_append]
  have c52 : (Int32.ofInt 6).toInt = 6 := by decide
  intro y1_53 y2_53
  generalize hs53 : nAC σ 100 (Int32.ofInt 6).toNatClampNeg 7 = s53
  have hP53 : PmX p0 (cnC σ) σ s53 := PmX.tr (show PmX p0 (cnC σ) σ σ from ⟨Nat.le_refl _, fun _ _ _ _ => ⟨rfl, rfl, rfl⟩, fun _ _ => ⟨rfl, rfl, rfl⟩⟩) (by rw [← hs53]; exact PmX.nA (Nat.le_refl _))
  have hc53 : cnC σ < cnC s53 := by rw [← hs53]; exact Nat.lt_succ_self _
  intro a54 e54 ob54 fk54
  cases e54
  clear fk54 ob54
  generalize hs54 : pRC s53 p0 183 (some (cnC σ)) = s54
  have hP54 : PmX p0 (cnC σ) σ s54 := PmX.tr hP53 (by rw [← hs54]; exact PmX.pR)
  have hc54 : cnC σ < cnC s54 := by rw [← hs54]; exact hc53
  generalize hs55 : nOC s54 59 (nfC 9) 0 = s55
  have hP55 : PmX p0 (cnC σ) σ s55 := PmX.tr hP54 (by rw [← hs55]; exact PmX.nO hP54.1)
  have hc55 : cnC σ < cnC s55 := by rw [← hs55]; exact Nat.lt_succ_of_lt hc54
  have c56 : (Int32.ofInt 92).toInt = 92 := by decide
  have c57 : (Int32.ofInt 0).toInt = 0 := by decide
  have c58 : (Int32.ofInt 0).toInt = 0 := by decide
  intro w59 τ59 o59 q59
  obtain ⟨rfl, hi59⟩ := q59 (N, E, A, B, V, z) ⟨_, _, _, _, _, _, rfl⟩
  have hP59 : PmX p0 (cnC σ) σ τ59 := PmX.tr hP55 (PmX.is hi59 hP54.1)
  have hc59 : cnC σ < cnC τ59 := by rw [hi59.2.2.1]; exact hc55
  try dsimp only [Option.toList, List.cons_append, List.nil_append, s1C, s2C, dlC, kyC, Nat.beq, lkC, rcd, rno, rsw]
  intro a60 e60 ob60 fk60
  cases e60
  clear fk60 ob60
  generalize hs60 : pRC τ59 p0 186 (some (cnC s54)) = s60
  have hP60 : PmX p0 (cnC σ) σ s60 := PmX.tr hP59 (by rw [← hs60]; exact PmX.pR)
  have hc60 : cnC σ < cnC s60 := by rw [← hs60]; exact hc59
  intro a61 e61 ob61 fk61
  cases e61
  clear fk61 ob61
  generalize hs61 : pIC s60 p0 180 p1 = s61
  have hP61 : PmX p0 (cnC σ) σ s61 := PmX.tr hP60 (by rw [← hs61]; exact PmX.pI)
  have hc61 : cnC σ < cnC s61 := by rw [← hs61]; exact hc60
  intro a62 e62 ob62 fk62
  cases e62
  clear fk62 ob62
  generalize hs62 : pLC s61 p0 181 p2 = s62
  have hP62 : PmX p0 (cnC σ) σ s62 := PmX.tr hP61 (by rw [← hs62]; exact PmX.pL)
  have hc62 : cnC σ < cnC s62 := by rw [← hs62]; exact hc61
  intro a63 e63 ob63 fk63
  cases e63
  clear fk63 ob63
  generalize hs63 : pIC s62 p0 182 p3 = s63
  have hP63 : PmX p0 (cnC σ) σ s63 := PmX.tr hP62 (by rw [← hs63]; exact PmX.pI)
  have hc63 : cnC σ < cnC s63 := by rw [← hs63]; exact hc62
  intro a64 e64 ob64 fk64
  cases e64
  clear fk64 ob64
  generalize hs64 : pIC s63 p0 184 p4 = s64
  have hP64 : PmX p0 (cnC σ) σ s64 := PmX.tr hP63 (by rw [← hs64]; exact PmX.pI)
  have hc64 : cnC σ < cnC s64 := by rw [← hs64]; exact hc63
  try dsimp only [Qz_Method]
  intro τ hwe
  have e180 : fIC τ p0 180 = p1 := (by
    rw [we_i hwe]
    rw [← hs64]
    rw [pI_n (by decide)]
    rw [← hs63]
    rw [pI_n (by decide)]
    rw [← hs62]
    show fIC s61 p0 180 = _
    rw [← hs61]
    rw [pI_e])
  have e181 : fLC τ p0 181 = p2 := (by
    rw [we_l hwe]
    rw [← hs64]
    show fLC s63 p0 181 = _
    rw [← hs63]
    show fLC s62 p0 181 = _
    rw [← hs62]
    rw [pL_e])
  have e182 : fIC τ p0 182 = p3 := (by
    rw [we_i hwe]
    rw [← hs64]
    rw [pI_n (by decide)]
    rw [← hs63]
    rw [pI_e])
  have e184 : fIC τ p0 184 = p4 := (by
    rw [we_i hwe]
    rw [← hs64]
    rw [pI_e])
  have e185 : fIC τ p0 185 = fIC σ p0 185 := (by
    rw [we_i hwe]
    rw [← hs64]
    rw [pI_n (by decide)]
    rw [← hs63]
    rw [pI_n (by decide)]
    rw [← hs62]
    show fIC s61 p0 185 = _
    rw [← hs61]
    rw [pI_n (by decide)]
    rw [← hs60]
    show fIC τ59 p0 185 = _
    rw [(hi59.1 p0 (by have := hP54.1; omega) 185).1]
    rw [← hs55, (nO_a (by have := hP54.1; omega)).1]
    rw [← hs54]
    show fIC s53 p0 185 = _
    rw [← hs53]
    show fIC σ p0 185 = _
    rfl)
  have e183 : fRC τ p0 183 = some (cnC σ) := (by
    rw [we_r hwe]
    rw [← hs64]
    show fRC s63 p0 183 = _
    rw [← hs63]
    show fRC s62 p0 183 = _
    rw [← hs62]
    show fRC s61 p0 183 = _
    rw [← hs61]
    show fRC s60 p0 183 = _
    rw [← hs60]
    rw [pR_n (by decide)]
    rw [(hi59.1 p0 (by have := hP54.1; omega) 183).2.2]
    rw [← hs55, (nO_a (by have := hP54.1; omega)).2.2]
    rw [← hs54]
    rw [pR_e])
  have hPe := PmX.we hP64 hwe
  exact ⟨rfl, hPe, ⟨e180, e181, e182, e184, e185⟩, cnC σ, ⟨Nat.le_refl _, by rw [we_c hwe]; exact hc64⟩, e183⟩
theorem wz_Method : ∀ (L : Nat) (As : List AvC) (σ : CsC) (w : Option AvC) (τ : CsC), EvF L 111 As σ w τ → Uz_Method As σ w τ := by
  intro L
  cases L with
  | zero => exact fun _ _ _ _ h => h.elim
  | succ L => exact fun As σ w τ h y hy => EvF.us (cs := [178]) (pz_Method y) rfl (List.forall_mem_cons.2 ⟨wz_Statement L, fun _ h => absurd h List.not_mem_nil⟩) h hy

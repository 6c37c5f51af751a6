/-! params -/
/-- one param's type is told -/
def ApX (p0 r n : Nat) (σ τ : CsC) : Prop := (fIC τ p0 185).toInt = (n : Int) + 1 ∧ (∀ a k, k ≠ 185 → fIC τ a k = fIC σ a k) ∧ (fLC τ = fLC σ ∧ fRC τ = fRC σ) ∧ (∀ b, b ≠ r → eIC τ b = eIC σ b) ∧ (eLC τ = eLC σ ∧ eRC τ = eRC σ) ∧ cnC τ = cnC σ
theorem ZC.ap {N : Int → Int} {E A B V : Nat → Nat} {σ τ : CsC} {z z' : ZS} {p0 r n : Nat} (h : ZC N E A B V σ z) (f : ApX p0 r n σ τ) (hr : r ≠ E 302) (e : z'.2 = z.2) (e1 : z'.1.1 = z.1.1) (e2 : zVs z'.1 = zVs z.1) (e3 : zK z'.1 = zK z.1) (e4 : (zMs z'.1).length = (zMs z.1).length) : ZC N E A B V τ z' := by
  obtain ⟨s, rz⟩ := z
  obtain ⟨s', rz'⟩ := z'
  cases e
  obtain ⟨h1, ⟨⟨h2, h3⟩, h4, h5, h6⟩, ⟨h7, h8⟩, ⟨l1, l2, l3, l4⟩, ⟨x1, x2⟩, ⟨t1, t2⟩, v1, v2, v3, v4⟩ := h
  obtain ⟨f0, f1, ⟨f2, f4⟩, f5, ⟨f6, f7⟩, hc⟩ := f
  have hc : cnC σ ≤ cnC τ := Nat.le_of_eq hc.symm
  have e1 : s'.1 = s.1 := e1
  have e2 : zVs s' = zVs s := e2
  have ev : ∀ v, vth s' v = vth s v := fun v => by unfold vth; rw [e2]
  refine ⟨h1.cg (fun a k ha hk => by rw [f4]) hc, ⟨⟨?_, ?_⟩, ?_, ?_, h6⟩, ⟨fun j => ?_, fun j => ?_⟩, ⟨l1.cg (by rw [f4]) f7 (f1 _ 2 (by decide)) hc, l2.cg (by rw [f4]) f7 (f1 _ 2 (by decide)) hc, ?_, ?_⟩, ⟨fun i hi => ⟨(x1 i hi).1.cg (fun k hk => ⟨f1 _ k (by omega), by rw [f2], by rw [f4]⟩), (x1 i hi).2⟩, fun i hi => ⟨(x2 i hi).1, ChC.cg (fun a ha => by rw [f4]) (x2 i hi).2⟩⟩, ⟨fun j hj => ⟨(t1 j hj).1.cg (fun k hk => ⟨f1 _ k (by omega), by rw [f2], by rw [f4]⟩), (t1 j hj).2⟩, t2⟩, fun v hv => ?_, fun q hq => ?_, v3, ?_⟩
  · rw [f1 _ 242 (by decide)]
    show _ = s'.1.1
    rw [e1]
    exact h2
  · rw [f1 _ 243 (by decide)]
    show _ = s'.1.2.1
    rw [e1]
    exact h3
  · rw [f2]; exact h4
  · rw [f4]; exact h5
  · show _ = zK s' j
    rw [f5 _ (fun q => hr q.symm), show zK s' = zK s from e3]
    exact h7 j
  · rw [f6]; exact h8 j
  · show LiC τ (E 212) (zVs s').length V
    rw [e2]
    exact l3.cg (by rw [f4]) f7 (f1 _ 2 (by decide)) hc
  · show LiC τ (E 211) (zMs s').length _
    rw [show (zMs s').length = (zMs s).length from e4]
    exact l4.cg (by rw [f4]) f7 (f1 _ 2 (by decide)) hc
  · have hv : v < (zVs s').length := hv
    rw [e2] at hv
    show VrC τ (vth s' v) _ _
    rw [ev]
    exact (v1 v hv).cg (fun k hk => f1 _ k (by omega))
  · have q2 := v2 q hq
    refine ⟨q2.1, ?_, ?_⟩
    · show q.1 < ((zVs s').length : Int)
      rw [e2]
      exact q2.2.1
    · show q.2 = (vth s' q.1.toNat).1
      rw [ev]
      exact q2.2.2
  · show (zVs s').length ≤ 60 ∧ ∀ i j, i < j → j < (zVs s').length → V i < V j
    rw [e2]
    exact v4
theorem FzC.ap {n m : Nat} {E A A' B B' V V' : Nat → Nat} {y z z' : ZS} {σ τ υ : CsC} {p0 r k : Nat} (h : FzC n m E A A' B B' V V' y z σ τ) (f : ApX p0 r k τ υ) (hr : r ≠ E 303) (e : z'.2 = z.2) (e1 : z'.1.1 = z.1.1) (e2 : zVs z'.1 = zVs z.1) : FzC n m E A A' B B' V V' y z' σ υ := by
  obtain ⟨s, rz⟩ := z
  obtain ⟨s', rz'⟩ := z'
  cases e
  obtain ⟨p1, p2, p3, p6, ⟨p7, p8⟩, p9, p10⟩ := h
  obtain ⟨f0, f1, ⟨f2, f4⟩, f5, ⟨f6, f7⟩, hc⟩ := f
  have e1 : s'.1 = s.1 := e1
  have e2 : zVs s' = zVs s := e2
  refine ⟨by rw [hc]; exact p1, fun o ho k hk => ⟨(f1 o k (fun q => by rw [q] at hk; cases hk)).trans (p2 o ho k hk).1, by rw [f2]; exact (p2 o ho k hk).2.1, by rw [f4]; exact (p2 o ho k hk).2.2⟩, p3, p6, ⟨?_, fun v hv => ⟨(p8 v hv).1, ?_⟩⟩, ?_, fun j hj => by rw [f5 _ (fun q => hr q.symm)]; exact p10 j hj⟩
  · show _ ≤ (zVs s').length
    rw [e2]
    exact p7
  · show vth s' v = _
    rw [show vth s' v = vth s v by unfold vth; rw [e2]]
    exact (p8 v hv).2
  · show _ ≤ s'.1.1
    rw [e1]
    exact p9
abbrev Pz_addParam : ((Int → Int) × (Nat → Nat) × (Nat → Nat) × (Nat → Nat) × (Nat → Nat) × ZS × Nat × Nat) → CpC := fun y As σ => match y with
  | (N, E, A, B, V, z, r, n) => ∃ (p0 : Nat) (p1 : Int32), As = [.inr (.inr (some p0)), .inl p1] ∧ (fRC σ p0 183 = some r) ∧ ((fIC σ p0 185).toInt = (n : Int) ∧ n < 6)
abbrev Qz_addParam : ((Int → Int) × (Nat → Nat) × (Nat → Nat) × (Nat → Nat) × (Nat → Nat) × ZS × Nat × Nat) → CqC := fun y As σ w τ => match y, As with
  | (N, E, A, B, V, z, r, n), [.inr (.inr (some p0)), .inl p1] => w = none ∧ ApX p0 r n σ τ
  | _, _ => True
abbrev Uz_addParam : CqC := fun As σ w τ => ∀ y, Pz_addParam y As σ → Qz_addParam y As σ w τ
set_option maxHeartbeats 4000000 in
theorem pz_addParam (y : (Int → Int) × (Nat → Nat) × (Nat → Nat) × (Nat → Nat) × (Nat → Nat) × ZS × Nat × Nat) : PbC KX5_addParam [] [] (fun As σ => Pz_addParam y As σ ∧ cnC σ ≤ 1000000 ∧ ∃ w τ, uqC quL 112 As σ w τ) (Qz_addParam y) := by
  obtain ⟨N, E, A, B, V, z, r, n⟩ := y
  rintro As σ ⟨⟨p0, p1, rfl, hr, hc⟩, hcn, _, _, hQ⟩ K hB hW n_
  change K n_ 0 [(0, .inr (.inr (some p0))), (1, .inl p1)] [] σ
  refine hB _ _ _ _ _ (fun m51 hm51 => ?_)
  dsimp only [ucgo, ucwp, ucsC, uqC, uoC, ctC, rfd, KX5_addParam, KX5_addParam_0, KX5_addParam_9, KX5_addParam_29, lkC, s1C, s2C, dlC, kyC, Nat.beq, Nat.ble, rcd, rno, rsw, Nat.reduceAdd, Nat.reduceBEq, Nat.reduceDiv, List.drop, List.take, List.reverse, List.reverseAux, Int.toNat, Option.toList, List.append, List.cons_append, List.nil_append, zg183, zg185]
  intro a52 e52 ob52
  cases e52
  have f53 : (fIC σ p0 185).toInt = (n : Int) := hc.1
  have c54 : (Int32.ofInt 6).toInt = 6 := by decide
  refine ⟨fun h55 => ?_, fun h55 => ?_⟩
  · have g55 := leI (x := (Int32.ofInt 6)) (y := (fIC σ p0 185)) h55
    exfalso
    omega
  · have g55 := nleI (x := (Int32.ofInt 6)) (y := (fIC σ p0 185)) h55
    refine hB _ _ _ _ _ (fun m56 hm56 => ?_)
    dsimp only [ucgo, ucwp, ucsC, uqC, uoC, ctC, rfd, KX5_addParam, KX5_addParam_0, KX5_addParam_9, KX5_addParam_29, lkC, s1C, s2C, dlC, kyC, Nat.beq, Nat.ble, rcd, rno, rsw, Nat.reduceAdd, Nat.reduceBEq, Nat.reduceDiv, List.drop, List.take, List.reverse, List.reverseAux, Int.toNat, Option.toList, List.append, List.cons_append, List.nil_append, zg183, zg185]
    intro a57 e57 ob57
    cases e57
    intro a58 e58 ob58
    cases e58
    have f59 : (fIC σ p0 185).toInt = (n : Int) := hc.1
    intro a60 e60 t60 v60
    obtain rfl : r = a60 := Option.some.inj (hr.symm.trans e60)
    generalize hs60 : qIC σ r (upd (eIC σ r) (fIC σ p0 185).toNatClampNeg p1) = s60
    intro a61 e61 ob61
    cases e61
    have f62 : (fIC s60 p0 185).toInt = (n : Int) := (by rw [← hs60]; exact hc.1)
    have c63 : (Int32.ofInt 1).toInt = 1 := by decide
    have u64 := tiC (fIC s60 p0 185)
    have a64 : ((fIC s60 p0 185) + (Int32.ofInt 1)).toInt = (n : Int) + 1 := addC (by omega) (by omega) (by omega)
    intro a65 e65 ob65 fk65
    cases e65
    clear fk65 ob65
    generalize hs65 : pIC s60 p0 185 ((fIC s60 p0 185) + (Int32.ofInt 1)) = s65
    refine hB _ _ _ _ _ (fun m66 hm66 => ?_)
    dsimp only [ucgo, ucwp, ucsC, uqC, uoC, ctC, rfd, KX5_addParam, KX5_addParam_0, KX5_addParam_9, KX5_addParam_29, lkC, s1C, s2C, dlC, kyC, Nat.beq, Nat.ble, rcd, rno, rsw, Nat.reduceAdd, Nat.reduceBEq, Nat.reduceDiv, List.drop, List.take, List.reverse, List.reverseAux, Int.toNat, Option.toList, List.append, List.cons_append, List.nil_append, zg183, zg185]
    try dsimp only [Qz_addParam]
    intro τ hwe
    refine ⟨rfl, ?_, fun a k hk => ?_, ⟨?_, ?_⟩, fun b hb => ?_, ⟨?_, ?_⟩, ?_⟩
    · rw [we_i hwe, ← hs65, pI_e]
      omega
    · rw [we_i hwe, ← hs65, fI_pI (Or.inl hk), ← hs60]
      rfl
    · rw [we_l hwe, ← hs65, ← hs60]; rfl
    · rw [we_r hwe, ← hs65, ← hs60]; rfl
    · rw [we_ei hwe, ← hs65, ← hs60]
      show u1C (eIC σ) r _ b = _
      rw [u1C_ne hb]
    · rw [we_el hwe, ← hs65, ← hs60]; rfl
    · rw [we_er hwe, ← hs65, ← hs60]; rfl
    · rw [we_c hwe, ← hs65, ← hs60]; rfl
theorem wz_addParam : ∀ (L : Nat) (As : List AvC) (σ : CsC) (w : Option AvC) (τ : CsC), EvF L 112 As σ w τ → Uz_addParam As σ w τ := by
  intro L
  cases L with
  | zero => exact fun _ _ _ _ h => h.elim
  | succ L => exact fun As σ w τ h y hy => EvF.us (cs := []) (pz_addParam y) rfl (fun _ h => absurd h List.not_mem_nil) h hy

/-! the class's flow: SURELY assigned, whole exps, jumps -/
/-- where exps start -/
def SxS (z : ZS) : Prop := ∀ k, k < xnM z → (0 ≤ (xth z k).2.2.1.1 ∧ (xth z k).2.2.1.1 ≤ (k : Int)) ∧ (¬ (xth z k).1.1 = 10 → (xth z k).2.1.2.1 < 64)
theorem bx_n {z : ZS} {T : TbT} {x : Int} {m : Int64} {w : WzS} (h : x < 0) : bxW z T x m w = (m, m, [], w.2.2.2) := if_pos h
theorem bx_k {z : ZS} {T : TbT} {k : Nat} {m : Int64} {w : WzS} : bxW z T (k : Int) m w = bxL z T ((k : Int) + 1 - (xth z k).2.2.1.1).toNat (xth z k).2.2.1.1.toNat (m, m, [], w.2.2.2) := by
  unfold bxW
  rw [if_neg (by omega), Int.toNat_natCast]
abbrev Pz_behindExp : ((Int → Int) × (Nat → Nat) × (Nat → Nat) × (Nat → Nat) × (Nat → Nat) × ZS × TbT × MfT × Nat × WzS × Int) → CpC := fun y As σ => match y with
  | (N, E, A, B, V, z, T, ms, nm, u, x) => ∃ (p1 : Option Nat) (p2 : Int64), As = [.inr (.inr (some (E 4))), .inr (.inr p1), .inr (.inl p2)] ∧ (SsC E A B σ z T ms nm) ∧ (PfC E σ) ∧ (WzC E σ u) ∧ (p1 = opA A x) ∧ (x < (xnM z : Int)) ∧ (SxS z)
abbrev Qz_behindExp : ((Int → Int) × (Nat → Nat) × (Nat → Nat) × (Nat → Nat) × (Nat → Nat) × ZS × TbT × MfT × Nat × WzS × Int) → CqC := fun y As σ w τ => match y, As with
  | (N, E, A, B, V, z, T, ms, nm, u, x), [_, .inr (.inr p1), .inr (.inl p2)] => ∃ r, w = some (.inr (.inl r)) ∧ r = noW (bxW z T x p2 u) ∧ WzC E τ (bxW z T x p2 u)
  | _, _ => True
abbrev Uz_behindExp : CqC := fun As σ w τ => ∀ y, Pz_behindExp y As σ → Qz_behindExp y As σ w τ
set_option maxHeartbeats 4000000 in
theorem pz_behindExp (y : (Int → Int) × (Nat → Nat) × (Nat → Nat) × (Nat → Nat) × (Nat → Nat) × ZS × TbT × MfT × Nat × WzS × Int) : PbC KX2_behindExp [(234, TrP, EqC 234), (235, TrP, EqC 235), (40, TrP, EqC 40)] [(40, Uz_pass)] (fun As σ => Pz_behindExp y As σ ∧ cnC σ ≤ 1000000 ∧ ∃ w τ, uqC quL 39 As σ w τ) (Qz_behindExp y) := by
  obtain ⟨N, E, A, B, V, z, T, ms, nm, u, x⟩ := y
  rintro As σ ⟨⟨p1, p2, rfl, hSs, hPf, hWh, hx, hx2, hsx⟩, hcn, _, _, hQ⟩ K hB hW n_
  have L25 : ∀ (n : Nat) (s0 : CsC) (i : Int32) (kx : Nat) (w9 : WzS), (x = (kx : Int)) → (kx < xnM z) → (FrE [91, 92, 94, 217, 218, 285, 286, 287, 288, 901] σ s0) → (WzC E s0 w9) → (0 ≤ i.toInt) → (i.toInt ≤ (kx : Int) + 1) → (bxW z T x p2 u = bxL z T ((kx : Int) + 1 - i.toInt).toNat i.toInt.toNat w9) →  K n 25 [(0, .inr (.inr (some (E 4)))), (1, .inr (.inr (some (A kx)))), (2, .inr (.inl p2)), (4, .inl i)] [] s0 := by
    intro n
    induction n using Nat.strongRecOn with
    | _ n ih =>
      intro s0 i kx w9 hkx hlx hF0 hw9 h1 h2 heq
      have hSs_0 := SsC.fr hSs hF0 rfl
      have hPf_0 := PfC.fr hPf hF0 rfl
      have okx_0 := hSs_0.2.1 kx hlx
      refine hB _ _ _ _ _ (fun m51 hm51 => ?_)
      dsimp only [ucgo, ucwp, ucsC, uqC, uoC, ctC, rfd, KX2_behindExp, KX2_behindExp_0, KX2_behindExp_19, KX2_behindExp_25, KX2_behindExp_34, KX2_behindExp_49, KX2_behindExp_74, lkC, s1C, s2C, dlC, kyC, Nat.beq, Nat.ble, rcd, rno, rsw, Nat.reduceAdd, Nat.reduceBEq, Nat.reduceDiv, List.drop, List.take, List.reverse, List.reverseAux, Int.toNat, Option.toList, List.append, List.cons_append, List.nil_append, zg63, zg65, zg90, zg91, zg92, zg213]
      intro a52 e52 ob52
      cases e52
      have f53 : (fIC s0 (A kx) 65).toInt = (kx : Int) := okx_0.1.2.1.2.2.2.1
      refine ⟨fun h54 => ?_, fun h54 => ?_⟩
      · have g54 := ltI (x := (fIC s0 (A kx) 65)) (y := i) h54
        refine hB _ _ _ _ _ (fun m55 hm55 => ?_)
        dsimp only [ucgo, ucwp, ucsC, uqC, uoC, ctC, rfd, KX2_behindExp, KX2_behindExp_0, KX2_behindExp_19, KX2_behindExp_25, KX2_behindExp_34, KX2_behindExp_49, KX2_behindExp_74, lkC, s1C, s2C, dlC, kyC, Nat.beq, Nat.ble, rcd, rno, rsw, Nat.reduceAdd, Nat.reduceBEq, Nat.reduceDiv, List.drop, List.take, List.reverse, List.reverseAux, Int.toNat, Option.toList, List.append, List.cons_append, List.nil_append, zg63, zg65, zg90, zg91, zg92, zg213]
        intro a56 e56 ob56
        cases e56
        have f57 : (fLC s0 (E 4) 91) = w9.1 := hw9.1.1
        intro a58 e58 ob58
        cases e58
        have f59 : (fLC s0 (E 4) 92) = w9.2.1 := hw9.1.2.1
        try dsimp only [Qz_behindExp]
        have hfin : bxW z T x p2 u = w9 := by rw [heq, show ((kx : Int) + 1 - i.toInt).toNat = 0 by omega, bxL]
        rw [hfin]
        exact ⟨_, rfl, by unfold noW; rw [f57, f59], hw9⟩
      · have g54 := nltI (x := (fIC s0 (A kx) 65)) (y := i) h54
        refine hB _ _ _ _ _ (fun m60 hm60 => ?_)
        dsimp only [ucgo, ucwp, ucsC, uqC, uoC, ctC, rfd, KX2_behindExp, KX2_behindExp_0, KX2_behindExp_19, KX2_behindExp_25, KX2_behindExp_34, KX2_behindExp_49, KX2_behindExp_74, lkC, s1C, s2C, dlC, kyC, Nat.beq, Nat.ble, rcd, rno, rsw, Nat.reduceAdd, Nat.reduceBEq, Nat.reduceDiv, List.drop, List.take, List.reverse, List.reverseAux, Int.toNat, Option.toList, List.append, List.cons_append, List.nil_append, zg63, zg65, zg90, zg91, zg92, zg213]
        intro a61 e61 ob61
        cases e61
        intro a63 e63 ob63
        obtain rfl : E 1 = a63 := Option.some.inj (hPf_0.1.symm.trans e63)
        rw [hSs_0.2.2.2.1.1]
        try dsimp only
        intro w65 τ65 o65 q65
        obtain ⟨r65, rfl, rfl, hr65a, hr65b, hr65, -⟩ := (show Q_Jx4a65c_size_8abf5 [.inr (.inr (some (E 213)))] s0 w65 τ65 from o65.1.1)
        have hs65_ : r65.toInt = (xnM z : Int) := by rw [← hr65]; exact hSs_0.2.2.2.1.2.1
        try dsimp only [Option.toList, List.cons_append, List.nil_append, s1C, s2C, dlC, kyC, Nat.beq, lkC, rcd, rno, rsw]
        refine ⟨fun h66 => ?_, fun h66 => ?_⟩
        · have g66 := leI (x := r65) (y := i) h66
          exfalso
          omega
        · have g66 := nleI (x := r65) (y := i) h66
          refine hB _ _ _ _ _ (fun m67 hm67 => ?_)
          dsimp only [ucgo, ucwp, ucsC, uqC, uoC, ctC, rfd, KX2_behindExp, KX2_behindExp_0, KX2_behindExp_19, KX2_behindExp_25, KX2_behindExp_34, KX2_behindExp_49, KX2_behindExp_74, lkC, s1C, s2C, dlC, kyC, Nat.beq, Nat.ble, rcd, rno, rsw, Nat.reduceAdd, Nat.reduceBEq, Nat.reduceDiv, List.drop, List.take, List.reverse, List.reverseAux, Int.toNat, Option.toList, List.append, List.cons_append, List.nil_append, zg63, zg65, zg90, zg91, zg92, zg213]
          intro a68 e68 ob68
          cases e68
          intro a70 e70 ob70
          obtain rfl : E 1 = a70 := Option.some.inj (hPf_0.1.symm.trans e70)
          rw [hSs_0.2.2.2.1.1]
          try dsimp only
          intro w72 τ72 o72 q72
          have hg72 : Q_Jx4a65c_get_915e3 [.inr (.inr (some (E 213))), .inl i] s0 w72 τ72 ∧ U_get [.inr (.inr (some (E 213))), .inl i] s0 w72 τ72 := o72.1.1
          obtain ⟨b72, rfl, rfl, -⟩ := hg72.1
          have he72 := hg72.2 b72 rfl
          obtain ⟨ki, hki⟩ : ∃ q, i.toInt.toNat = q := ⟨_, rfl⟩
          have hlki : ki < xnM z := by omega
          have hv72 := hSs_0.2.2.2.1.2.2 ki hlki
          obtain rfl : A ki = b72 := Option.some.inj (hv72.1.symm.trans (by rw [← hki, ← nT_toNat]; exact he72))
          have o73_0 := hSs_0.2.1 ki hlki
          try dsimp only [Option.toList, List.cons_append, List.nil_append, s1C, s2C, dlC, kyC, Nat.beq, lkC, rcd, rno, rsw]
          intro oc74
          intro w75 τ75 o75 q75
          obtain ⟨rfl, hWh75⟩ := q75 (N, E, A, B, V, z, T, ms, nm, w9, ki) ⟨_, rfl, hSs_0, hPf_0, hw9, hlki, rfl, (hsx ki hlki).2⟩
          rw [← hki] at hWh75
          have hF75 : FrE [91, 92, 94, 217, 218, 285, 286, 287, 288, 901] σ τ75 := hF0.tr (o75.2.mo rfl)
          have hSs_75 := SsC.fr hSs hF75 rfl
          have hPf_75 := PfC.fr hPf hF75 rfl
          have okx_75 := hSs_75.2.1 kx hlx
          have o73_75 := hSs_75.2.1 ki hlki
          try dsimp only [Option.toList, List.cons_append, List.nil_append, s1C, s2C, dlC, kyC, Nat.beq, lkC, rcd, rno, rsw]
          have c76 : (Int32.ofInt 1).toInt = 1 := by decide
          have u77 := tiC i
          have a77 : (i + (Int32.ofInt 1)).toInt = i.toInt + 1 := addC (by omega) (by omega) (by omega)
          exact hW _ 25 [(0, .inr (.inr (some (E 4)))), (1, .inr (.inr (some (A kx)))), (2, .inr (.inl p2)), (4, .inl (i + (Int32.ofInt 1)))] _ _ _ (List.forall_mem_cons.2 ⟨List.Mem.tail _ (List.Mem.head _), List.forall_mem_cons.2 ⟨List.Mem.tail _ (List.Mem.tail _ (List.Mem.head _)), List.forall_mem_cons.2 ⟨List.Mem.tail _ (List.Mem.tail _ (List.Mem.tail _ (List.Mem.head _))), List.forall_mem_cons.2 ⟨List.Mem.head _, fun _ h => absurd h List.not_mem_nil⟩⟩⟩⟩) (ih _ (by omega) τ75 (i + (Int32.ofInt 1)) kx (paW (xth z i.toInt.toNat) (T.1 i.toInt.toNat) w9) hkx hlx hF75 hWh75 (by omega) (by omega) (heq.trans (by rw [show ((kx : Int) + 1 - i.toInt).toNat = ((kx : Int) + 1 - ((i + (Int32.ofInt 1)) : Int32).toInt).toNat + 1 by omega, bxL, show i.toInt.toNat + 1 = ((i + (Int32.ofInt 1)) : Int32).toInt.toNat by omega])))
  change K n_ 0 [(0, .inr (.inr (some (E 4)))), (1, .inr (.inr p1)), (2, .inr (.inl p2))] [] σ
  refine hB _ _ _ _ _ (fun m78 hm78 => ?_)
  dsimp only [ucgo, ucwp, ucsC, uqC, uoC, ctC, rfd, KX2_behindExp, KX2_behindExp_0, KX2_behindExp_19, KX2_behindExp_25, KX2_behindExp_34, KX2_behindExp_49, KX2_behindExp_74, lkC, s1C, s2C, dlC, kyC, Nat.beq, Nat.ble, rcd, rno, rsw, Nat.reduceAdd, Nat.reduceBEq, Nat.reduceDiv, List.drop, List.take, List.reverse, List.reverseAux, Int.toNat, Option.toList, List.append, List.cons_append, List.nil_append, zg63, zg65, zg90, zg91, zg92, zg213]
  intro a79 e79 ob79 fk79
  cases e79
  clear fk79 ob79
  generalize hs79 : pLC σ (E 4) 91 p2 = s79
  have hWh79 := WzC.t hWh hs79
  have hF79 : FrE [91, 92, 94, 217, 218, 285, 286, 287, 288, 901] σ s79 := FrE.pL2 FrE.rf (by decide) hs79
  have hSs_79 := SsC.fr hSs hF79 rfl
  have hPf_79 := PfC.fr hPf hF79 rfl
  intro a80 e80 ob80 fk80
  cases e80
  clear fk80 ob80
  generalize hs80 : pLC s79 (E 4) 92 p2 = s80
  have hWh80 := WzC.f hWh79 hs80
  have hF80 : FrE [91, 92, 94, 217, 218, 285, 286, 287, 288, 901] σ s80 := FrE.pL2 hF79 (by decide) hs80
  have hSs_80 := SsC.fr hSs hF80 rfl
  have hPf_80 := PfC.fr hPf hF80 rfl
  have c81 : (Int32.ofInt 0).toInt = 0 := by decide
  intro a82 e82 ob82 fk82
  cases e82
  clear fk82 ob82
  generalize hs82 : pIC s80 (E 4) 94 (Int32.ofInt 0) = s82
  have hWh82 := WzC.z hWh80 hs82 (by omega)
  have hF82 : FrE [91, 92, 94, 217, 218, 285, 286, 287, 288, 901] σ s82 := FrE.pI2 hF80 (by decide) hs82
  have hSs_82 := SsC.fr hSs hF82 rfl
  have hPf_82 := PfC.fr hPf hF82 rfl
  refine ⟨fun h83 => ?_, fun b83 h83 => ?_⟩
  · have hxn := opA_nn (hx.symm.trans h83)
    refine hB _ _ _ _ _ (fun m84 hm84 => ?_)
    dsimp only [ucgo, ucwp, ucsC, uqC, uoC, ctC, rfd, KX2_behindExp, KX2_behindExp_0, KX2_behindExp_19, KX2_behindExp_25, KX2_behindExp_34, KX2_behindExp_49, KX2_behindExp_74, lkC, s1C, s2C, dlC, kyC, Nat.beq, Nat.ble, rcd, rno, rsw, Nat.reduceAdd, Nat.reduceBEq, Nat.reduceDiv, List.drop, List.take, List.reverse, List.reverseAux, Int.toNat, Option.toList, List.append, List.cons_append, List.nil_append, zg63, zg65, zg90, zg91, zg92, zg213]
    intro a85 e85 ob85
    cases e85
    have f86 : (fLC s82 (E 4) 91) = (((p2, u.2).1, p2, (p2, u.2).2.2).1, ((p2, u.2).1, p2, (p2, u.2).2.2).2.1, [], ((p2, u.2).1, p2, (p2, u.2).2.2).2.2.2).1 := hWh82.1.1
    intro a87 e87 ob87
    cases e87
    have f88 : (fLC s82 (E 4) 92) = (((p2, u.2).1, p2, (p2, u.2).2.2).1, ((p2, u.2).1, p2, (p2, u.2).2.2).2.1, [], ((p2, u.2).1, p2, (p2, u.2).2.2).2.2.2).2.1 := hWh82.1.2.1
    try dsimp only [Qz_behindExp]
    have hfin : bxW z T x p2 u = (((p2, u.2).1, p2, (p2, u.2).2.2).1, ((p2, u.2).1, p2, (p2, u.2).2.2).2.1, [], ((p2, u.2).1, p2, (p2, u.2).2.2).2.2.2) := bx_n hxn
    rw [hfin]
    exact ⟨_, rfl, by unfold noW; rw [f86, f88], hWh82⟩
  · obtain ⟨kx, hkx, hbx⟩ := opA_j (hx.symm.trans h83)
    have hlx : kx < xnM z := by omega
    have hpx : p1 = some (A kx) := h83.trans (congrArg some hbx)
    have hsk := hsx kx hlx
    have o89_82 := hSs_82.2.1 kx hlx
    refine hB _ _ _ _ _ (fun m90 hm90 => ?_)
    dsimp only [ucgo, ucwp, ucsC, uqC, uoC, ctC, rfd, KX2_behindExp, KX2_behindExp_0, KX2_behindExp_19, KX2_behindExp_25, KX2_behindExp_34, KX2_behindExp_49, KX2_behindExp_74, lkC, s1C, s2C, dlC, kyC, Nat.beq, Nat.ble, rcd, rno, rsw, Nat.reduceAdd, Nat.reduceBEq, Nat.reduceDiv, List.drop, List.take, List.reverse, List.reverseAux, Int.toNat, Option.toList, List.append, List.cons_append, List.nil_append, zg63, zg65, zg90, zg91, zg92, zg213]
    intro a91 e91 ob91
    obtain rfl : A kx = a91 := Option.some.inj (hpx.symm.trans e91)
    have f92 : (fIC s82 (A kx) 63).toInt = (xth z kx).2.2.1.1 := o89_82.1.2.1.2.2.1
    rw [hpx]
    exact hW _ 25 [(0, .inr (.inr (some (E 4)))), (1, .inr (.inr (some (A kx)))), (2, .inr (.inl p2)), (4, .inl (fIC s82 (A kx) 63))] _ _ _ (List.forall_mem_cons.2 ⟨List.Mem.tail _ (List.Mem.head _), List.forall_mem_cons.2 ⟨List.Mem.tail _ (List.Mem.tail _ (List.Mem.head _)), List.forall_mem_cons.2 ⟨List.Mem.tail _ (List.Mem.tail _ (List.Mem.tail _ (List.Mem.head _))), List.forall_mem_cons.2 ⟨List.Mem.head _, fun _ h => absurd h List.not_mem_nil⟩⟩⟩⟩) (L25 _ s82 (fIC s82 (A kx) 63) kx (((p2, u.2).1, p2, (p2, u.2).2.2).1, ((p2, u.2).1, p2, (p2, u.2).2.2).2.1, [], ((p2, u.2).1, p2, (p2, u.2).2.2).2.2.2) hkx hlx hF82 hWh82 (by omega) (by omega) (by rw [show bxW z T x p2 u = bxW z T x p2 u from rfl, hkx, bx_k, show ((fIC s82 (A kx) 63) : Int32).toInt.toNat = (xth z kx).2.2.1.1.toNat by omega, show ((kx : Int) + 1 - ((fIC s82 (A kx) 63) : Int32).toInt).toNat = ((kx : Int) + 1 - (xth z kx).2.2.1.1).toNat by omega]))
theorem wz_behindExp : ∀ (L : Nat) (As : List AvC) (σ : CsC) (w : Option AvC) (τ : CsC), EvF L 39 As σ w τ → Uz_behindExp As σ w τ := by
  intro L
  cases L with
  | zero => exact fun _ _ _ _ h => h.elim
  | succ L => exact fun As σ w τ h y hy => EvF.us (cs := [234, 235, 40]) (pz_behindExp y) rfl (List.forall_mem_cons.2 ⟨fun _ _ _ _ _ => trivial, List.forall_mem_cons.2 ⟨fun _ _ _ _ _ => trivial, List.forall_mem_cons.2 ⟨wz_pass L, fun _ h => absurd h List.not_mem_nil⟩⟩⟩) h hy

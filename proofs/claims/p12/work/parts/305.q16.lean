/-! S's within S's -/
theorem cd_z {N : Int → Int} {j n : Nat} {y : ZS} (h : zFt (cdM N j n y).1 = 0) : zFt y.1 = 0 := by
  have h1 : zFt (eM N n (xpM 0 y)).1 = 0 := GpY.z (gd_xp (c := 1) _) h
  rw [lf_e] at h1
  exact (gd_xp (c := 0) _).z ((gd_e _).z h1)
theorem cd_k {N : Int → Int} {j n : Nat} {y : ZS} : (cdM N j n y).2.2.2 = y.2.2.2 ∧ snM (cdM N j n y) = snM y := by
  have k : (eM N n (xpM 0 y)).2.2 = y.2.2 := ks_e (xpM 0 y)
  exact ⟨show (eM N n (xpM 0 y)).2.2.2 = y.2.2.2 by rw [k], show (eM N n (xpM 0 y)).2.2.1.1 = y.2.2.1.1 by rw [k]⟩
theorem pa_se {j : Nat} {v : Int} {X : ZS} : paS (seM j (sBd v) X) j = paS X j := by
  unfold paS
  rw [seM_e]
  rfl
theorem bd_eq {j : Nat} {v : Int} {jb : Nat} {a : Int} {X : ZS} (hv : v = (jb : Int)) (h : paS X j = a) : seM j (sBd v) (arM a X) = bdM j jb X := by
  subst h
  subst hv
  unfold bdM unM
  rw [pa_se]
  rfl
theorem blk_eq {j : Nat} {v t a : Int} {out : List (Int × Int)} {Q : ZS} (h : paS Q j = a) : arM a (veM t out (xpM 3 (seM j (sBd v) Q))) = xpM 3 (veM t out (unM j (seM j (sBd v) Q))) := by
  subst h
  unfold unM
  rw [pa_se]
  rfl
theorem ls_n {N : Int → Int} {n : Nat} {z : ZS} (h : zFt (stM N n z).1 = 0) : 1 ≤ n := Classical.byContradiction (fun q => by
  obtain rfl : n = 0 := by omega
  exact raiY_z (by decide) h)
theorem rw_n {N : Int → Int} {n js : Nat} {sw : Int} {z : ZS} (h : zFt (rwM N n sw js z).1.1 = 0) : 1 ≤ n := Classical.byContradiction (fun q => by
  obtain rfl : n = 0 := by omega
  exact raiY_z (by decide) h)
theorem st_s {N : Int → Int} {n : Nat} (h : 1 ≤ n) : stM N n = smM N n (stM N (n - 1)) (rwM N (n - 1)) := by
  cases n with
  | zero => omega
  | succ n => rfl
theorem rw_s {N : Int → Int} {n : Nat} (h : 1 ≤ n) : rwM N n = fun sw js z => rwlM N n (stM N n) sw js 501 (-1) (-1) z := by
  cases n with
  | zero => omega
  | succ n => rfl
abbrev Pz_readStatement : ((Int → Int) × (Nat → Nat) × (Nat → Nat) × (Nat → Nat) × (Nat → Nat) × ZS × Nat) → CpC := fun y As σ => match y with
  | (N, E, A, B, V, z, n) => ∃ (p1 : Int32), As = [.inr (.inr (some (E 0))), .inl p1] ∧ (ZC N E A B V σ z) ∧ (p1.toInt + (n : Int) = 21) ∧ (zFt (stM N n z).1 = 0)
abbrev Qz_readStatement : ((Int → Int) × (Nat → Nat) × (Nat → Nat) × (Nat → Nat) × (Nat → Nat) × ZS × Nat) → CqC := fun y As σ w τ => match y, As with
  | (N, E, A, B, V, z, n), [_, .inl p1] => SeQ N E A B V z (stM N n z) σ w τ
  | _, _ => True
abbrev Uz_readStatement : CqC := fun As σ w τ => ∀ y, Pz_readStatement y As σ → Qz_readStatement y As σ w τ
abbrev Pz_readInner : ((Int → Int) × (Nat → Nat) × (Nat → Nat) × (Nat → Nat) × (Nat → Nat) × ZS × Nat × Nat) → CpC := fun y As σ => match y with
  | (N, E, A, B, V, z, n, j) => ∃ (p1 : Nat) (p2 : Int32), As = [.inr (.inr (some (E 0))), .inr (.inr (some p1)), .inl p2] ∧ (ZC N E A B V σ z) ∧ (p2.toInt + (n : Int) = 21) ∧ (1 ≤ n) ∧ (j < snM z) ∧ (p1 = B j) ∧ (zFt (stM N (n - 1) (arM j z)).1 = 0)
abbrev Qz_readInner : ((Int → Int) × (Nat → Nat) × (Nat → Nat) × (Nat → Nat) × (Nat → Nat) × ZS × Nat × Nat) → CqC := fun y As σ w τ => match y, As with
  | (N, E, A, B, V, z, n, j), [_, .inr (.inr (some p1)), .inl p2] => ∃ A' B' V' : Nat → Nat, w = some (.inr (.inr (some (B' (snM z))))) ∧ ZC N E A' B' V' τ (arM z.2.2.2.1.2 (stM N (n - 1) (arM j z))) ∧ FzC (cnC σ) (xnM z) E A A' B B' V V' z (arM z.2.2.2.1.2 (stM N (n - 1) (arM j z))) σ τ ∧ snM z < snM (stM N (n - 1) (arM j z))
  | _, _ => True
abbrev Uz_readInner : CqC := fun As σ w τ => ∀ y, Pz_readInner y As σ → Qz_readInner y As σ w τ
abbrev Pz_readBlock : ((Int → Int) × (Nat → Nat) × (Nat → Nat) × (Nat → Nat) × (Nat → Nat) × ZS × Nat × Nat) → CpC := fun y As σ => match y with
  | (N, E, A, B, V, z, n, j) => ∃ (p1 : Nat) (p2 : Int32), As = [.inr (.inr (some (E 0))), .inr (.inr (some p1)), .inl p2] ∧ (ZC N E A B V σ z) ∧ (p2.toInt + (n : Int) = 21) ∧ (1 ≤ n) ∧ (j < snM z) ∧ (p1 = B j) ∧ ((reS z j).1.2.2.2 = z.2.2.2.1.2) ∧ (zFt (blkM (rwM N (n - 1)) j z.2.2.2.1.1 z).1 = 0)
abbrev Qz_readBlock : ((Int → Int) × (Nat → Nat) × (Nat → Nat) × (Nat → Nat) × (Nat → Nat) × ZS × Nat × Nat) → CqC := fun y As σ w τ => match y, As with
  | (N, E, A, B, V, z, n, j), [_, .inr (.inr (some p1)), .inl p2] => w = none ∧ ∃ A' B' V' : Nat → Nat, ZC N E A' B' V' τ (blkM (rwM N (n - 1)) j z.2.2.2.1.1 z) ∧ FzC (B j) (xnM z) E A A' B B' V V' z (blkM (rwM N (n - 1)) j z.2.2.2.1.1 z) σ τ
  | _, _ => True
abbrev Uz_readBlock : CqC := fun As σ w τ => ∀ y, Pz_readBlock y As σ → Qz_readBlock y As σ w τ
abbrev Pz_readBody : ((Int → Int) × (Nat → Nat) × (Nat → Nat) × (Nat → Nat) × (Nat → Nat) × ZS × Nat) → CpC := fun y As σ => match y with
  | (N, E, A, B, V, z, n) => ∃ (p1 : Int32), As = [.inr (.inr (some (E 0))), .inl p1] ∧ (ZC N E A B V σ z) ∧ (p1.toInt + (n : Int) = 21) ∧ (1 ≤ n) ∧ (zFt (boM (rwM N (n - 1)) n z.2.2.2.1.1 z).1 = 0)
abbrev Qz_readBody : ((Int → Int) × (Nat → Nat) × (Nat → Nat) × (Nat → Nat) × (Nat → Nat) × ZS × Nat) → CqC := fun y As σ w τ => match y, As with
  | (N, E, A, B, V, z, n), [_, .inl p1] => SeQ N E A B V z (boM (rwM N (n - 1)) n z.2.2.2.1.1 z) σ w τ
  | _, _ => True
abbrev Uz_readBody : CqC := fun As σ w τ => ∀ y, Pz_readBody y As σ → Qz_readBody y As σ w τ
abbrev Pz_readIf : ((Int → Int) × (Nat → Nat) × (Nat → Nat) × (Nat → Nat) × (Nat → Nat) × ZS × Nat) → CpC := fun y As σ => match y with
  | (N, E, A, B, V, z, n) => ∃ (p1 : Int32), As = [.inr (.inr (some (E 0))), .inl p1] ∧ (ZC N E A B V σ z) ∧ (p1.toInt + (n : Int) = 21) ∧ (1 ≤ n) ∧ (zFt (ifM N n (stM N (n - 1)) z).1 = 0)
abbrev Qz_readIf : ((Int → Int) × (Nat → Nat) × (Nat → Nat) × (Nat → Nat) × (Nat → Nat) × ZS × Nat) → CqC := fun y As σ w τ => match y, As with
  | (N, E, A, B, V, z, n), [_, .inl p1] => SeQ N E A B V z (ifM N n (stM N (n - 1)) z) σ w τ
  | _, _ => True
abbrev Uz_readIf : CqC := fun As σ w τ => ∀ y, Pz_readIf y As σ → Qz_readIf y As σ w τ
abbrev Pz_readWhile : ((Int → Int) × (Nat → Nat) × (Nat → Nat) × (Nat → Nat) × (Nat → Nat) × ZS × Nat) → CpC := fun y As σ => match y with
  | (N, E, A, B, V, z, n) => ∃ (p1 : Int32), As = [.inr (.inr (some (E 0))), .inl p1] ∧ (ZC N E A B V σ z) ∧ (p1.toInt + (n : Int) = 21) ∧ (1 ≤ n) ∧ (zFt (whM N n (stM N (n - 1)) z).1 = 0)
abbrev Qz_readWhile : ((Int → Int) × (Nat → Nat) × (Nat → Nat) × (Nat → Nat) × (Nat → Nat) × ZS × Nat) → CqC := fun y As σ w τ => match y, As with
  | (N, E, A, B, V, z, n), [_, .inl p1] => SeQ N E A B V z (whM N n (stM N (n - 1)) z) σ w τ
  | _, _ => True
abbrev Uz_readWhile : CqC := fun As σ w τ => ∀ y, Pz_readWhile y As σ → Qz_readWhile y As σ w τ
abbrev Pz_readDo : ((Int → Int) × (Nat → Nat) × (Nat → Nat) × (Nat → Nat) × (Nat → Nat) × ZS × Nat) → CpC := fun y As σ => match y with
  | (N, E, A, B, V, z, n) => ∃ (p1 : Int32), As = [.inr (.inr (some (E 0))), .inl p1] ∧ (ZC N E A B V σ z) ∧ (p1.toInt + (n : Int) = 21) ∧ (1 ≤ n) ∧ (zFt (doM N n (stM N (n - 1)) z).1 = 0)
abbrev Qz_readDo : ((Int → Int) × (Nat → Nat) × (Nat → Nat) × (Nat → Nat) × (Nat → Nat) × ZS × Nat) → CqC := fun y As σ w τ => match y, As with
  | (N, E, A, B, V, z, n), [_, .inl p1] => SeQ N E A B V z (doM N n (stM N (n - 1)) z) σ w τ
  | _, _ => True
abbrev Uz_readDo : CqC := fun As σ w τ => ∀ y, Pz_readDo y As σ → Qz_readDo y As σ w τ
abbrev Pz_readFor : ((Int → Int) × (Nat → Nat) × (Nat → Nat) × (Nat → Nat) × (Nat → Nat) × ZS × Nat) → CpC := fun y As σ => match y with
  | (N, E, A, B, V, z, n) => ∃ (p1 : Int32), As = [.inr (.inr (some (E 0))), .inl p1] ∧ (ZC N E A B V σ z) ∧ (p1.toInt + (n : Int) = 21) ∧ (1 ≤ n) ∧ (zFt (foM2 N n (stM N (n - 1)) z).1 = 0)
abbrev Qz_readFor : ((Int → Int) × (Nat → Nat) × (Nat → Nat) × (Nat → Nat) × (Nat → Nat) × ZS × Nat) → CqC := fun y As σ w τ => match y, As with
  | (N, E, A, B, V, z, n), [_, .inl p1] => SeQ N E A B V z (foM2 N n (stM N (n - 1)) z) σ w τ
  | _, _ => True
abbrev Uz_readFor : CqC := fun As σ w τ => ∀ y, Pz_readFor y As σ → Qz_readFor y As σ w τ
abbrev Pz_readSwitch : ((Int → Int) × (Nat → Nat) × (Nat → Nat) × (Nat → Nat) × (Nat → Nat) × ZS × Nat) → CpC := fun y As σ => match y with
  | (N, E, A, B, V, z, n) => ∃ (p1 : Int32), As = [.inr (.inr (some (E 0))), .inl p1] ∧ (ZC N E A B V σ z) ∧ (p1.toInt + (n : Int) = 21) ∧ (1 ≤ n) ∧ (zFt (swM N n (rwM N (n - 1)) z).1 = 0)
abbrev Qz_readSwitch : ((Int → Int) × (Nat → Nat) × (Nat → Nat) × (Nat → Nat) × (Nat → Nat) × ZS × Nat) → CqC := fun y As σ w τ => match y, As with
  | (N, E, A, B, V, z, n), [_, .inl p1] => SeQ N E A B V z (swM N n (rwM N (n - 1)) z) σ w τ
  | _, _ => True
abbrev Uz_readSwitch : CqC := fun As σ w τ => ∀ y, Pz_readSwitch y As σ → Qz_readSwitch y As σ w τ
abbrev Pz_readLabel : ((Int → Int) × (Nat → Nat) × (Nat → Nat) × (Nat → Nat) × (Nat → Nat) × ZS × Nat) → CpC := fun y As σ => match y with
  | (N, E, A, B, V, z, n) => ∃ (p1 : Int32), As = [.inr (.inr (some (E 0))), .inl p1] ∧ (ZC N E A B V σ z) ∧ (p1.toInt + (n : Int) = 21) ∧ (1 ≤ n) ∧ (zFt (laM n (stM N (n - 1)) z).1 = 0)
abbrev Qz_readLabel : ((Int → Int) × (Nat → Nat) × (Nat → Nat) × (Nat → Nat) × (Nat → Nat) × ZS × Nat) → CqC := fun y As σ w τ => match y, As with
  | (N, E, A, B, V, z, n), [_, .inl p1] => SeQ N E A B V z (laM n (stM N (n - 1)) z) σ w τ
  | _, _ => True
abbrev Uz_readLabel : CqC := fun As σ w τ => ∀ y, Pz_readLabel y As σ → Qz_readLabel y As σ w τ
abbrev Pz_readTry : ((Int → Int) × (Nat → Nat) × (Nat → Nat) × (Nat → Nat) × (Nat → Nat) × ZS × Nat) → CpC := fun y As σ => match y with
  | (N, E, A, B, V, z, n) => ∃ (p1 : Int32), As = [.inr (.inr (some (E 0))), .inl p1] ∧ (ZC N E A B V σ z) ∧ (p1.toInt + (n : Int) = 21) ∧ (1 ≤ n) ∧ (zFt (trM N n (rwM N (n - 1)) z).1 = 0)
abbrev Qz_readTry : ((Int → Int) × (Nat → Nat) × (Nat → Nat) × (Nat → Nat) × (Nat → Nat) × ZS × Nat) → CqC := fun y As σ w τ => match y, As with
  | (N, E, A, B, V, z, n), [_, .inl p1] => SeQ N E A B V z (trM N n (rwM N (n - 1)) z) σ w τ
  | _, _ => True
abbrev Uz_readTry : CqC := fun As σ w τ => ∀ y, Pz_readTry y As σ → Qz_readTry y As σ w τ
abbrev Pz_readSimple : ((Int → Int) × (Nat → Nat) × (Nat → Nat) × (Nat → Nat) × (Nat → Nat) × ZS × Nat) → CpC := fun y As σ => match y with
  | (N, E, A, B, V, z, n) => ∃ (p1 : Int32), As = [.inr (.inr (some (E 0))), .inl p1] ∧ (ZC N E A B V σ z) ∧ (p1.toInt + (n : Int) = 21) ∧ (1 ≤ n) ∧ (codY z.1 = 2 ∨ codY z.1 = 4 ∨ codY z.1 = 64 ∨ codY z.1 = 65 ∨ codY z.1 = 66 ∨ codY z.1 = 67) ∧ (zFt (smM N n (stM N (n - 1)) (rwM N (n - 1)) z).1 = 0)
abbrev Qz_readSimple : ((Int → Int) × (Nat → Nat) × (Nat → Nat) × (Nat → Nat) × (Nat → Nat) × ZS × Nat) → CqC := fun y As σ w τ => match y, As with
  | (N, E, A, B, V, z, n), [_, .inl p1] => SeQ N E A B V z (smM N n (stM N (n - 1)) (rwM N (n - 1)) z) σ w τ
  | _, _ => True
abbrev Uz_readSimple : CqC := fun As σ w τ => ∀ y, Pz_readSimple y As σ → Qz_readSimple y As σ w τ
abbrev Pz_readRowPart : ((Int → Int) × (Nat → Nat) × (Nat → Nat) × (Nat → Nat) × (Nat → Nat) × ZS × Nat × Int × Nat × Int) → CpC := fun y As σ => match y with
  | (N, E, A, B, V, z, n, sw, js, b) => ∃ (p1 : Int32) (p2 : Int32) (p3 : Int32), As = [.inr (.inr (some (E 0))), .inl p1, .inl p2, .inl p3] ∧ (ZC N E A B V σ z) ∧ (p1.toInt + (n : Int) = 21) ∧ (1 ≤ n) ∧ (p2.toInt = sw) ∧ (p3.toInt = b) ∧ ((sw = 0 ∨ sw = 1) ∧ (b = 0 ∨ b = 1)) ∧ (zFt (rpM N n (stM N n) sw js b z).1 = 0)
abbrev Qz_readRowPart : ((Int → Int) × (Nat → Nat) × (Nat → Nat) × (Nat → Nat) × (Nat → Nat) × ZS × Nat × Int × Nat × Int) → CqC := fun y As σ w τ => match y, As with
  | (N, E, A, B, V, z, n, sw, js, b), [_, .inl p1, .inl p2, .inl p3] => SeQ N E A B V z (rpM N n (stM N n) sw js b z) σ w τ
  | _, _ => True
abbrev Uz_readRowPart : CqC := fun As σ w τ => ∀ y, Pz_readRowPart y As σ → Qz_readRowPart y As σ w τ
abbrev Pz_readRow : ((Int → Int) × (Nat → Nat) × (Nat → Nat) × (Nat → Nat) × (Nat → Nat) × ZS × Nat × Int × Nat) → CpC := fun y As σ => match y with
  | (N, E, A, B, V, z, n, sw, js) => ∃ (p1 : Int32) (p2 : Int32), As = [.inr (.inr (some (E 0))), .inl p1, .inl p2] ∧ (ZC N E A B V σ z) ∧ (p1.toInt + (n : Int) = 21) ∧ (p2.toInt = sw) ∧ (sw = 0 ∨ sw = 1) ∧ (zFt ((rwM N n sw js z).1).1 = 0)
abbrev Qz_readRow : ((Int → Int) × (Nat → Nat) × (Nat → Nat) × (Nat → Nat) × (Nat → Nat) × ZS × Nat × Int × Nat) → CqC := fun y As σ w τ => match y, As with
  | (N, E, A, B, V, z, n, sw, js), [_, .inl p1, .inl p2] => ∃ A' B' V' : Nat → Nat, w = some (.inr (.inr (opA B' (rwM N n sw js z).2))) ∧ ZC N E A' B' V' τ (rwM N n sw js z).1 ∧ FzC (cnC σ) (xnM z) E A A' B B' V V' z (rwM N n sw js z).1 σ τ ∧ (rwM N n sw js z).2 < (snM (rwM N n sw js z).1 : Int)
  | _, _ => True
abbrev Uz_readRow : CqC := fun As σ w τ => ∀ y, Pz_readRow y As σ → Qz_readRow y As σ w τ
set_option maxHeartbeats 4000000 in
theorem pz_readInner (y : (Int → Int) × (Nat → Nat) × (Nat → Nat) × (Nat → Nat) × (Nat → Nat) × ZS × Nat × Nat) : PbC KX7_readInner [(149, TrP, EqC 149)] [(149, Uz_readStatement)] (fun As σ => Pz_readInner y As σ ∧ cnC σ ≤ 1000000 ∧ ∃ w τ, uqC quL 148 As σ w τ) (Qz_readInner y) := by
  obtain ⟨N, E, A, B, V, z, n, j⟩ := y
  rintro As σ ⟨⟨p1, p2, rfl, hZ, hd, hn, hj, hp1, hft⟩, hcn, _, _, hQ⟩ K hB hW n_
  have hH : HI0 σ ∧ TyC σ (E 0) 8 := hQ
  have hat := hZ.at0 hH
  subst hp1
  change K n_ 0 [(0, .inr (.inr (some (E 0)))), (1, .inr (.inr (some (B j)))), (2, .inl p2)] [] σ
  refine hB _ _ _ _ _ (fun m51 hm51 => ?_)
  dsimp only [ucgo, ucwp, ucsC, uqC, uoC, ctC, rfd, KX7_readInner, KX7_readInner_0, lkC, s1C, s2C, dlC, kyC, Nat.beq, Nat.ble, rcd, rno, rsw, Nat.reduceAdd, Nat.reduceBEq, Nat.reduceDiv, List.drop, List.take, List.reverse, List.reverseAux, Int.toNat, Option.toList, List.append, List.cons_append, List.nil_append, zg246]
  intro a52 e52 ob52
  cases e52
  intro a53 e53 ob53 fk53
  cases e53
  clear fk53 ob53
  generalize hs53 : pRC σ (E 0) 246 (some (B j)) = s53
  have hZ53 : ZC N E A B V s53 (arM ((j : Nat) : Int) z) := by rw [← hs53]; exact ZC.ar hZ (opA_k).symm (Int.ofNat_lt.mpr hj)
  have hF53 : FzC (cnC σ) (xnM z) E A A B B V V z (arM ((j : Nat) : Int) z) σ s53 := by rw [← hs53]; exact FzC.ar (FzC.rf (n := cnC σ) (m := xnM z) (E := E) (A := A) (B := B) (V := V) (z := z) (σ := σ))
  have hle53 : cnC σ ≤ cnC s53 := by rw [← hs53]; exact (Nat.le_refl (cnC σ))
  have c54 : (Int32.ofInt 1).toInt = 1 := by decide
  have u55 := tiC p2
  have a55 : (p2 + (Int32.ofInt 1)).toInt = p2.toInt + 1 := addC (by omega) (by omega) (by omega)
  intro w56 τ56 o56 q56
  obtain ⟨A56, B56, V56, rfl, hZ56, hf56, hs56⟩ : SeQ N E A B V (arM ((j : Nat) : Int) z) (stM N (n - 1) (arM ((j : Nat) : Int) z)) s53 w56 τ56 := q56 (N, E, A, B, V, (arM ((j : Nat) : Int) z), (n - 1)) ⟨_, rfl, hZ53, by omega, hft⟩
  have hF56 := FzC.tr hF53 (FzC.mo hf56 hle53 (hF53).2.2.1.1.1)
  have hle56 : cnC σ ≤ cnC τ56 := Nat.le_trans hle53 (hf56).1
  have hb56_j : B56 j = (B j) := (hf56.2.2.2.1.1.2 j hj).1.trans rfl
  have hl56_j : j < snM (stM N (n - 1) (arM ((j : Nat) : Int) z)) := Nat.lt_of_lt_of_le hj hf56.2.2.2.1.1.1
  try dsimp only [Option.toList, List.cons_append, List.nil_append, s1C, s2C, dlC, kyC, Nat.beq, lkC, rcd, rno, rsw]
  intro a57 e57 ob57 fk57
  cases e57
  clear fk57 ob57
  generalize hs57 : pRC τ56 (E 0) 246 (fRC σ (E 0) 246) = s57
  have hZ57 : ZC N E A56 B56 V56 s57 (arM z.2.2.2.1.2 (stM N (n - 1) (arM ((j : Nat) : Int) z))) := by rw [← hs57]; exact ZC.ar hZ56 (hZ.2.1.2.2.1.trans ((opA_c (fun i hi => (((FzC.rf (n := cnC σ) (m := xnM z) (E := E) (A := A) (B := B) (V := V) (z := z) (σ := σ))).2.2.2.1.1.2 i hi).1) hZ.2.1.2.2.2).trans (opA_c (fun i hi => (hF56.2.2.2.1.1.2 i hi).1) hZ.2.1.2.2.2).symm)) (by have := hZ.2.1.2.2.2; have := hF56.2.2.2.1.1.1; omega)
  have hF57 : FzC (cnC σ) (xnM z) E A A56 B B56 V V56 z (arM z.2.2.2.1.2 (stM N (n - 1) (arM ((j : Nat) : Int) z))) σ s57 := by rw [← hs57]; exact FzC.ar hF56
  have hle57 : cnC σ ≤ cnC s57 := by rw [← hs57]; exact hle56
  try dsimp only [Qz_readInner]
  exact ⟨_, _, _, rfl, hZ57, hF57, hs56⟩
set_option maxHeartbeats 4000000 in
theorem pz_readBlock (y : (Int → Int) × (Nat → Nat) × (Nat → Nat) × (Nat → Nat) × (Nat → Nat) × ZS × Nat × Nat) : PbC KX7_readBlock [(129, TrP, EqC 129), (145, TrP, EqC 145)] [(129, Uz_expect), (145, Uz_readRow)] (fun As σ => Pz_readBlock y As σ ∧ cnC σ ≤ 1000000 ∧ ∃ w τ, uqC quL 144 As σ w τ) (Qz_readBlock y) := by
  obtain ⟨N, E, A, B, V, z, n, j⟩ := y
  rintro As σ ⟨⟨p1, p2, rfl, hZ, hd, hn, hj, hp1, hpa, hft⟩, hcn, _, _, hQ⟩ K hB hW n_
  have hH : HI0 σ ∧ TyC σ (E 0) 8 := hQ
  have hat := hZ.at0 hH
  subst hp1
  have hr1 : zFt (rwM N (n - 1) 0 0 (xpM 2 (arM ((j : Nat) : Int) z))).1.1 = 0 := GpY.z (gd_xp (c := 3) _) hft
  have hx2 : zFt (xpM 2 (arM ((j : Nat) : Int) z)).1 = 0 := by
    have h9 := hr1
    rw [lf_rw] at h9
    exact (gd_rw _).z h9
  change K n_ 0 [(0, .inr (.inr (some (E 0)))), (1, .inr (.inr (some (B j)))), (2, .inl p2)] [] σ
  refine hB _ _ _ _ _ (fun m51 hm51 => ?_)
  dsimp only [ucgo, ucwp, ucsC, uqC, uoC, ctC, rfd, KX7_readBlock, KX7_readBlock_0, lkC, s1C, s2C, dlC, kyC, Nat.beq, Nat.ble, rcd, rno, rsw, Nat.reduceAdd, Nat.reduceBEq, Nat.reduceDiv, List.drop, List.take, List.reverse, List.reverseAux, Int.toNat, Option.toList, List.append, List.cons_append, List.nil_append, zg245, zg246]
  intro a52 e52 ob52
  cases e52
  intro a53 e53 ob53
  cases e53
  intro a54 e54 ob54 fk54
  cases e54
  clear fk54 ob54
  generalize hs54 : pRC σ (E 0) 246 (some (B j)) = s54
  have hZ54 : ZC N E A B V s54 (arM ((j : Nat) : Int) z) := by rw [← hs54]; exact ZC.ar hZ (opA_k).symm (Int.ofNat_lt.mpr hj)
  have hF54 : FzC (B j) (xnM z) E A A B B V V z (arM ((j : Nat) : Int) z) σ s54 := by rw [← hs54]; exact FzC.ar (FzC.rf (n := B j) (m := xnM z) (E := E) (A := A) (B := B) (V := V) (z := z) (σ := σ))
  have hle54 : cnC σ ≤ cnC s54 := by rw [← hs54]; exact (Nat.le_refl (cnC σ))
  have c55 : (Int32.ofInt 2).toInt = 2 := by decide
  intro w56 τ56 o56 q56
  obtain ⟨rfl, hZ56, hf56⟩ := q56 (N, E, A, B, V, (arM ((j : Nat) : Int) z), 2) ⟨_, rfl, hZ54, by omega, hx2⟩
  have hF56 := FzC.tr hF54 (FzC.mo hf56 (Nat.le_trans (Nat.le_of_lt (hZ.2.2.2.1.2.1.2 j hj).2) hle54) (hF54).2.2.1.1.1)
  have hle56 : cnC σ ≤ cnC τ56 := Nat.le_trans hle54 (hf56).1
  have hb56_j : B j = (B j) := (hf56.2.2.2.1.1.2 j hj).1.trans rfl
  have hl56_j : j < snM (xpM 2 (arM ((j : Nat) : Int) z)) := Nat.lt_of_lt_of_le hj hf56.2.2.2.1.1.1
  try dsimp only [Option.toList, List.cons_append, List.nil_append, s1C, s2C, dlC, kyC, Nat.beq, lkC, rcd, rno, rsw]
  have c57 : (Int32.ofInt 1).toInt = 1 := by decide
  have u58 := tiC p2
  have a58 : (p2 + (Int32.ofInt 1)).toInt = p2.toInt + 1 := addC (by omega) (by omega) (by omega)
  have c59 : (Int32.ofInt 0).toInt = 0 := by decide
  intro w60 τ60 o60 q60
  obtain ⟨A60, B60, V60, rfl, hZ60, hf60, hs60⟩ : ∃ A' B' V' : Nat → Nat, w60 = some (.inr (.inr (opA B' (rwM N (n - 1) 0 0 (xpM 2 (arM ((j : Nat) : Int) z))).2))) ∧ ZC N E A' B' V' τ60 (rwM N (n - 1) 0 0 (xpM 2 (arM ((j : Nat) : Int) z))).1 ∧ FzC (cnC τ56) (xnM (xpM 2 (arM ((j : Nat) : Int) z))) E A A' B B' V V' (xpM 2 (arM ((j : Nat) : Int) z)) (rwM N (n - 1) 0 0 (xpM 2 (arM ((j : Nat) : Int) z))).1 τ56 τ60 ∧ (rwM N (n - 1) 0 0 (xpM 2 (arM ((j : Nat) : Int) z))).2 < (snM (rwM N (n - 1) 0 0 (xpM 2 (arM ((j : Nat) : Int) z))).1 : Int) := q60 (N, E, A, B, V, (xpM 2 (arM ((j : Nat) : Int) z)), (n - 1), 0, 0) ⟨_, _, rfl, hZ56, by omega, by omega, by omega, hr1⟩
  have hF60 := FzC.tr hF56 (FzC.mo hf60 (Nat.le_trans (Nat.le_of_lt (hZ.2.2.2.1.2.1.2 j hj).2) hle56) (hF56).2.2.1.1.1)
  have hle60 : cnC σ ≤ cnC τ60 := Nat.le_trans hle56 (hf60).1
  have hb60_j : B60 j = (B j) := (hf60.2.2.2.1.1.2 j hl56_j).1.trans hb56_j
  have hl60_j : j < snM (rwM N (n - 1) 0 0 (xpM 2 (arM ((j : Nat) : Int) z))).1 := Nat.lt_of_lt_of_le hl56_j hf60.2.2.2.1.1.1
  have hqp : (reS (rwM N (n - 1) 0 0 (xpM 2 (arM ((j : Nat) : Int) z))).1 j).1 = (reS z j).1 := (hf60.2.2.2.1.1.2 j hj).2.1
  try dsimp only [Option.toList, List.cons_append, List.nil_append, s1C, s2C, dlC, kyC, Nat.beq, lkC, rcd, rno, rsw]
  intro a61 e61 ob61 fk61
  cases e61
  clear fk61 ob61
  generalize hs61 : pRC τ60 (B j) 276 (opA B60 (rwM N (n - 1) 0 0 (xpM 2 (arM ((j : Nat) : Int) z))).2) = s61
  have hx61 : SfE (B j) τ60 s61 := by rw [← hs61]; exact SfE.pR (by decide)
  have hZ61 : ZC N E A60 B60 V60 s61 (seM (j) (sBd (rwM N (n - 1) 0 0 (xpM 2 (arM ((j : Nat) : Int) z))).2) (rwM N (n - 1) 0 0 (xpM 2 (arM ((j : Nat) : Int) z))).1) := by rw [← hs61]; exact ZC.s276 hZ60 hl60_j hb60_j rfl hs60
  have hF61 : FzC (B j) (xnM z) E A A60 B B60 V V60 z (seM (j) (sBd (rwM N (n - 1) 0 0 (xpM 2 (arM ((j : Nat) : Int) z))).2) (rwM N (n - 1) 0 0 (xpM 2 (arM ((j : Nat) : Int) z))).1) σ s61 := FzC.se hF60 (Nat.le_refl _) hx61 (fun _ => ⟨rfl, rfl⟩)
  have hle61 : cnC σ ≤ cnC s61 := by rw [hx61.2.2]; exact hle60
  have c62 : (Int32.ofInt 3).toInt = 3 := by decide
  intro w63 τ63 o63 q63
  obtain ⟨rfl, hZ63, hf63⟩ := q63 (N, E, A60, B60, V60, (seM (j) (sBd (rwM N (n - 1) 0 0 (xpM 2 (arM ((j : Nat) : Int) z))).2) (rwM N (n - 1) 0 0 (xpM 2 (arM ((j : Nat) : Int) z))).1), 3) ⟨_, rfl, hZ61, by omega, hft⟩
  have hF63 := FzC.tr hF61 (FzC.mo hf63 (Nat.le_trans (Nat.le_of_lt (hZ.2.2.2.1.2.1.2 j hj).2) hle61) (hF61).2.2.1.1.1)
  have hle63 : cnC σ ≤ cnC τ63 := Nat.le_trans hle61 (hf63).1
  have hb63_j : B60 j = (B j) := (hf63.2.2.2.1.1.2 j (show j < snM (seM (j) (sBd (rwM N (n - 1) 0 0 (xpM 2 (arM ((j : Nat) : Int) z))).2) (rwM N (n - 1) 0 0 (xpM 2 (arM ((j : Nat) : Int) z))).1) from hl60_j)).1.trans hb60_j
  have hl63_j : j < snM (xpM 3 (seM (j) (sBd (rwM N (n - 1) 0 0 (xpM 2 (arM ((j : Nat) : Int) z))).2) (rwM N (n - 1) 0 0 (xpM 2 (arM ((j : Nat) : Int) z))).1)) := Nat.lt_of_lt_of_le (show j < snM (seM (j) (sBd (rwM N (n - 1) 0 0 (xpM 2 (arM ((j : Nat) : Int) z))).2) (rwM N (n - 1) 0 0 (xpM 2 (arM ((j : Nat) : Int) z))).1) from hl60_j) hf63.2.2.2.1.1.1
  try dsimp only [Option.toList, List.cons_append, List.nil_append, s1C, s2C, dlC, kyC, Nat.beq, lkC, rcd, rno, rsw]
  intro a64 e64 ob64 fk64
  cases e64
  clear fk64 ob64
  generalize hs64 : pLC τ63 (E 0) 245 (fLC σ (E 0) 245) = s64
  have hZ64 : ZC N E A60 B60 V60 s64 (veM (zAt (rwM N (n - 1) 0 0 (xpM 2 (arM ((j : Nat) : Int) z))).1.1) z.2.2.2.1.1 (xpM 3 (seM (j) (sBd (rwM N (n - 1) 0 0 (xpM 2 (arM ((j : Nat) : Int) z))).2) (rwM N (n - 1) 0 0 (xpM 2 (arM ((j : Nat) : Int) z))).1))) := by
    rw [← hs64]
    exact ZC.kn hZ63 ⟨rfl, rfl, rfl⟩ ⟨rfl, rfl⟩ hZ.2.1.2.1 (fun q hq => by
      have a := hZ.2.2.2.2.2.2.2.1 q hq
      have b := hF63.2.2.2.2.1
      exact ⟨a.1, by omega, by rw [(b.2 q.1.toNat (by omega)).2]; exact a.2.2⟩) hZ.2.2.2.2.2.2.2.2.1
  have hF64 : FzC (B j) (xnM z) E A A60 B B60 V V60 z (veM (zAt (rwM N (n - 1) 0 0 (xpM 2 (arM ((j : Nat) : Int) z))).1.1) z.2.2.2.1.1 (xpM 3 (seM (j) (sBd (rwM N (n - 1) 0 0 (xpM 2 (arM ((j : Nat) : Int) z))).2) (rwM N (n - 1) 0 0 (xpM 2 (arM ((j : Nat) : Int) z))).1))) σ s64 := by rw [← hs64]; exact FzC.kn hF63 ⟨rfl, rfl, rfl⟩
  have hle64 : cnC σ ≤ cnC s64 := by rw [← hs64]; exact hle63
  intro a65 e65 ob65 fk65
  cases e65
  clear fk65 ob65
  generalize hs65 : pRC s64 (E 0) 246 (fRC σ (E 0) 246) = s65
  have hZ65 : ZC N E A60 B60 V60 s65 (arM z.2.2.2.1.2 (veM (zAt (rwM N (n - 1) 0 0 (xpM 2 (arM ((j : Nat) : Int) z))).1.1) z.2.2.2.1.1 (xpM 3 (seM (j) (sBd (rwM N (n - 1) 0 0 (xpM 2 (arM ((j : Nat) : Int) z))).2) (rwM N (n - 1) 0 0 (xpM 2 (arM ((j : Nat) : Int) z))).1)))) := by rw [← hs65]; exact ZC.ar hZ64 (hZ.2.1.2.2.1.trans ((opA_c (fun i hi => (((FzC.rf (n := B j) (m := xnM z) (E := E) (A := A) (B := B) (V := V) (z := z) (σ := σ))).2.2.2.1.1.2 i hi).1) hZ.2.1.2.2.2).trans (opA_c (fun i hi => (hF64.2.2.2.1.1.2 i hi).1) hZ.2.1.2.2.2).symm)) (by have := hZ.2.1.2.2.2; have := hF64.2.2.2.1.1.1; omega)
  have hF65 : FzC (B j) (xnM z) E A A60 B B60 V V60 z (arM z.2.2.2.1.2 (veM (zAt (rwM N (n - 1) 0 0 (xpM 2 (arM ((j : Nat) : Int) z))).1.1) z.2.2.2.1.1 (xpM 3 (seM (j) (sBd (rwM N (n - 1) 0 0 (xpM 2 (arM ((j : Nat) : Int) z))).2) (rwM N (n - 1) 0 0 (xpM 2 (arM ((j : Nat) : Int) z))).1)))) σ s65 := by rw [← hs65]; exact FzC.ar hF64
  have hle65 : cnC σ ≤ cnC s65 := by rw [← hs65]; exact hle64
  try dsimp only [Qz_readBlock]
  intro τ hwe
  have hez : (arM z.2.2.2.1.2 (veM (zAt (rwM N (n - 1) 0 0 (xpM 2 (arM ((j : Nat) : Int) z))).1.1) z.2.2.2.1.1 (xpM 3 (seM (j) (sBd (rwM N (n - 1) 0 0 (xpM 2 (arM ((j : Nat) : Int) z))).2) (rwM N (n - 1) 0 0 (xpM 2 (arM ((j : Nat) : Int) z))).1)))) = blkM (rwM N (n - 1)) j z.2.2.2.1.1 z := blk_eq (by
    unfold paS
    rw [hqp]
    exact hpa)
  rw [← hez]
  exact ⟨rfl, _, _, _, ZC.we hZ65 hwe, FzC.we hF65 hwe⟩
set_option maxHeartbeats 4000000 in
theorem pz_readBody (y : (Int → Int) × (Nat → Nat) × (Nat → Nat) × (Nat → Nat) × (Nat → Nat) × ZS × Nat) : PbC KX7_readBody [(142, TrP, EqC 142), (144, TrP, EqC 144)] [(142, Uz_begin), (144, Uz_readBlock)] (fun As σ => Pz_readBody y As σ ∧ cnC σ ≤ 1000000 ∧ ∃ w τ, uqC quL 143 As σ w τ) (Qz_readBody y) := by
  obtain ⟨N, E, A, B, V, z, n⟩ := y
  rintro As σ ⟨⟨p1, rfl, hZ, hd, hn, hft⟩, hcn, _, _, hQ⟩ K hB hW n_
  have hH : HI0 σ ∧ TyC σ (E 0) 8 := hQ
  have hat := hZ.at0 hH
  change K n_ 0 [(0, .inr (.inr (some (E 0)))), (1, .inl p1)] [] σ
  refine hB _ _ _ _ _ (fun m51 hm51 => ?_)
  dsimp only [ucgo, ucwp, ucsC, uqC, uoC, ctC, rfd, KX7_readBody, KX7_readBody_0, lkC, s1C, s2C, dlC, kyC, Nat.beq, Nat.ble, rcd, rno, rsw, Nat.reduceAdd, Nat.reduceBEq, Nat.reduceDiv, List.drop, List.take, List.reverse, List.reverseAux, Int.toNat, Option.toList, List.append, List.cons_append, List.nil_append]
  have c52 : (Int32.ofInt 92).toInt = 92 := by decide
  intro w53 τ53 o53 q53
  obtain ⟨rfl, hZ53, hf53⟩ := q53 (N, E, A, B, V, z, 92, (lvN n)) ⟨_, _, rfl, hZ, by omega, by unfold lvN; omega⟩
  have hF53 := FzC.tr (FzC.rf (n := cnC σ) (m := xnM z) (E := E) (A := A) (B := B) (V := V) (z := z) (σ := σ)) (FzC.mo hf53 (Nat.le_refl (cnC σ)) ((FzC.rf (n := cnC σ) (m := xnM z) (E := E) (A := A) (B := B) (V := V) (z := z) (σ := σ))).2.2.1.1.1)
  have hle53 : cnC σ ≤ cnC τ53 := Nat.le_trans (Nat.le_refl (cnC σ)) (hf53).1
  have hb53 : (upA B (snM z) (cnC σ)) (snM z) = cnC σ := upA_e
  have hl53 : snM z < snM (beM 92 (lvN n) z) := Nat.lt_succ_self _
  have ho53 : cnC σ ≤ cnC σ := (Nat.le_refl (cnC σ))
  have hh53 : (reS (beM 92 (lvN n) z) (snM z)).1 = (92, zAt z.1, (lvN n), z.2.2.2.1.2) ∧ (reS (beM 92 (lvN n) z) (snM z)).2.1 = z.2.2.2.1.1 := by rw [beM_e]; exact ⟨rfl, rfl⟩
  try dsimp only [Option.toList, List.cons_append, List.nil_append, s1C, s2C, dlC, kyC, Nat.beq, lkC, rcd, rno, rsw]
  intro w54 τ54 o54 q54
  obtain ⟨rfl, A54, B54, V54, hZ54, hf54⟩ := q54 (N, E, A, (upA B (snM z) (cnC σ)), V, (beM 92 (lvN n) z), n, snM z) ⟨_, _, rfl, hZ53, by omega, by omega, hl53, hb53.symm, (congrArg (fun x : Int × Int × Int × Int => x.2.2.2) hh53.1), hft⟩
  rw [hb53] at hf54
  have hF54 := FzC.tr hF53 (FzC.mo hf54 ho53 (hF53).2.2.1.1.1)
  have hle54 : cnC σ ≤ cnC τ54 := Nat.le_trans hle53 hf54.1
  have hb54_J : B54 (snM z) = (cnC σ) := (hf54.2.2.2.1.1.2 (snM z) hl53).1.trans hb53
  have hl54_J : snM z < snM (blkM (rwM N (n - 1)) (snM z) (beM 92 (lvN n) z).2.2.2.1.1 (beM 92 (lvN n) z)) := Nat.lt_of_lt_of_le hl53 hf54.2.2.2.1.1.1
  have hh54_J : (reS (blkM (rwM N (n - 1)) (snM z) (beM 92 (lvN n) z).2.2.2.1.1 (beM 92 (lvN n) z)) (snM z)).1 = (92, zAt z.1, (lvN n), z.2.2.2.1.2) ∧ (reS (blkM (rwM N (n - 1)) (snM z) (beM 92 (lvN n) z).2.2.2.1.1 (beM 92 (lvN n) z)) (snM z)).2.1 = z.2.2.2.1.1 := ⟨(hf54.2.2.2.1.1.2 (snM z) hl53).2.1.trans hh53.1, (hf54.2.2.2.1.1.2 (snM z) hl53).2.2.trans hh53.2⟩
  try dsimp only [Option.toList, List.cons_append, List.nil_append, s1C, s2C, dlC, kyC, Nat.beq, lkC, rcd, rno, rsw]
  try dsimp only [Qz_readBody]
  exact ⟨_, _, _, by rw [hb54_J], hZ54, hF54, hl54_J⟩

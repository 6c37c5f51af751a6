/-! readProgram -/
theorem me_eq {N : Int → Int} {z : ZS} (h9 : zFt (mthY z.1) = 0) : meM N z = coM 54 (zMs (accM z).1).length 0 (zAt (accM z).1) (boM (rwM N 20) 21 [] (paM N (accM (me0M (codY z.1 - 50) (accM z))))) := by
  have e1 : (50 ≤ codY z.1 ∧ codY z.1 ≤ 54) ∨ codY z.1 = 55 := Classical.byContradiction (fun q => by
    have h8 := (gd_acc _).z ((gd_me2 _).z ((gd_me3 _).z h9))
    unfold me1Y at h8
    rw [if_neg q] at h8
    exact raiY_z (by decide) h8)
  have e2 : me1M z = z := if_pos e1
  have e2y : me1Y z.1 = z.1 := if_pos e1
  have h2 : zFt (me2Y (accM z).1) = 0 := by
    have h8 := (gd_me3 _).z h9
    rw [e2y] at h8
    exact h8
  have hy : zFt (accM z).1 = 0 := (gd_me2 _).z h2
  have e80 : codY (accM z).1 = 80 := Classical.byContradiction (fun q => by
    have h8 := h2
    unfold me2Y at h8
    rw [if_neg q] at h8
    exact raiY_z (by decide) h8)
  have e10 : ¬ 10 ≤ (zMs (accM z).1).length := fun q => by
    have h8 := h2
    unfold me2Y at h8
    rw [if_pos e80, if_pos q] at h8
    exact raiY_z (by decide) h8
  have e3 : me2M (accM z) = accM z := by
    unfold me2M
    rw [if_pos e80, if_neg e10]
  unfold meM
  rw [e2, e3]
  unfold me3M
  rw [if_pos hy]
theorem me_rs {N : Int → Int} {z : ZS} (h9 : zFt (mthY z.1) = 0) : meM N (rsM z) = meM N z := by
  rw [me_eq (z := rsM z) h9, me_eq h9]
  rfl
/-- nothing is laid yet -/
def z0S (s : SpC) : ZS := (s, [], (0, fun _ => ((0, 0, 0, 0), [], (0, 0, 0, 0, 0, 0, 0))), ([], -1), (fun _ => -2, fun _ => 0, 0))
/-- bodies and first variables of methods -/
def jfM (N : Int → Int) : Nat → ZS → (Nat → Nat) × (Nat → Nat) → (Nat → Nat) × (Nat → Nat)
  | 0, _, q => q
  | f + 1, z, q => if zFt z.1 = 0 then (if codY z.1 = 84 then q else jfM N f (meM N z) (upA q.1 (zMs z.1).length (snM z), upA q.2 (zMs z.1).length (zVs z.1).length)) else q
def enE (p0 p1 t l1 l2 l3 l4 r2 r3 r4 : Nat) : Nat → Nat := fun k => if k = 0 then p0 else if k = 1 then p1 else if k = 2 then t else if k = 211 then l1 else if k = 212 then l2 else if k = 213 then l3 else if k = 214 then l4 else if k = 302 then r2 else if k = 303 then r3 else if k = 304 then r4 else 0
theorem ZC.z0 {N : Int → Int} {E A B V : Nat → Nat} {σ : CsC} {s : SpC} (hE : EnC E σ) (h0 : Z0Y s) (h1 : (fIC σ (E 0) 242).toInt = 0) (h2 : (fIC σ (E 0) 243).toInt = 0) (h3 : ∀ j, (eIC σ (E 302) j).toInt = zK s j) (h4 : ∀ j : Nat, (eLC σ (E 304) j).toInt = N j) (hl : ∀ k, k = 211 ∨ k = 212 ∨ k = 213 ∨ k = 214 → (fIC σ (E k) 2).toInt = 0) : ZC N E A B V (prS (E 0) σ) (rsM (z0S s)) := by
  obtain ⟨q1, q2, q3, q4⟩ := h0
  have e3 : (zMs (rsM (z0S s)).1).length = 0 := by show (zMs s).length = 0; rw [q3]; rfl
  have e4 : (zVs (rsM (z0S s)).1).length = 0 := by show (zVs s).length = 0; rw [q4]; rfl
  unfold ZC LiC
  rw [e3, e4]
  refine ⟨hE, ⟨⟨h1.trans q1.symm, h2.trans q2.symm⟩, ?_, ?_, show (-1 : Int) < ((0 : Nat) : Int) by decide⟩, ⟨h3, h4⟩, ⟨⟨hl 213 (by decide), fun i hi => absurd hi (Nat.not_lt_zero _)⟩, ⟨hl 214 (by decide), fun i hi => absurd hi (Nat.not_lt_zero _)⟩, ⟨hl 212 (by decide), fun i hi => absurd hi (Nat.not_lt_zero _)⟩, ⟨hl 211 (by decide), fun i hi => absurd hi (Nat.not_lt_zero _)⟩⟩, ⟨fun i hi => absurd hi (Nat.not_lt_zero _), fun i hi => absurd hi (Nat.not_lt_zero _)⟩, ⟨fun i hi => absurd hi (Nat.not_lt_zero _), fun i j _ hj => absurd hj (Nat.not_lt_zero _)⟩, fun i hi => absurd hi (Nat.not_lt_zero _), fun q hq => absurd hq List.not_mem_nil, List.Pairwise.nil, Nat.zero_le _, fun i j _ hj => absurd hj (Nat.not_lt_zero _)⟩
  · show KbC (u2C (fLC σ) (E 0) 245 _ (E 0) 245) []
    rw [u2C_eq]
    exact KbC.nil
  · show u2C (fRC σ) (E 0) 246 none (E 0) 246 = _
    rw [u2C_eq]
    exact (opA_n (show (-1 : Int) < 0 by decide)).symm
theorem TkS.cu {τ : CsC} {t p2 n : Nat} {x : TxY} {s : SpC} (h : CuC τ t p2 x n) (hk : ∀ a, fRC τ t 302 = some a → ∀ j, zK s j = (eIC τ a j).toInt) (hl : ∀ a, fRC τ t 300 = some a → ∀ j, zL s j = (eIC τ a j).toInt) : TkS x s n := by
  obtain ⟨hn, a0, a1, a2, a3, ⟨⟨f0, f1, f2, f3, f7⟩, -, -, hr⟩, hq, hc⟩ := h
  refine ⟨hn, fun j hj => ?_, ?_, ?_⟩
  · rw [hk a2 f2, hl a0 f0]
    have q := hr j hj
    exact ⟨q.2.2.1, q.1, q.2.2.2.1, q.2.2.2.2⟩
  · rw [hl a0 f0]; exact hq
  · rw [hk a2 f2]; exact hc
abbrev Pz_readProgram : ((Int → Int) × (Nat → Nat) × (Nat → Nat) × (Nat → Nat) × (Nat → Nat) × ZS × TxY) → CpC := fun y As σ => match y with
  | (N, E, A, B, V, z, x) => ∃ (p0 : Nat) (p1 : Nat) (p2 : Nat) (p3 : Int32), As = [.inr (.inr (some p0)), .inr (.inr (some p1)), .inr (.inr (some p2)), .inl p3] ∧ (TyC σ p1 7) ∧ (TyC σ p2 101) ∧ (cnC σ < 1000000) ∧ (alC σ p2 = 2500) ∧ (x.2 = p3.toInt ∧ (∀ j : Nat, (j : Int) < x.2 → (eIC σ p2 j &&& 255).toInt = x.1 j) ∧ okY x) ∧ (∀ t, fRC σ p1 210 = some t → WdC σ t) ∧ (∀ s n, Z0Y s → TkS x s n → zFt (prlY 11 s) = 0)
abbrev Qz_readProgram : ((Int → Int) × (Nat → Nat) × (Nat → Nat) × (Nat → Nat) × (Nat → Nat) × ZS × TxY) → CqC := fun y As σ w τ => match y, As with
  | (N, E, A, B, V, z, x), [.inr (.inr (some p0)), .inr (.inr (some p1)), .inr (.inr (some p2)), .inl p3] => w = some (.inl 0) ∧ ∃ (s : SpC) (n : Nat) (N : Int → Int) (E A B V : Nat → Nat), (Z0Y s ∧ TkS x s n ∧ ∀ k : Nat, k < n → ∃ v : Int64, v.toInt = N (k : Int) ∧ WoC x (atY x k) v) ∧ (E 0 = p0 ∧ E 1 = p1) ∧ ZC N E A B V (prS (E 0) τ) (rsM (prM N 11 (z0S s))) ∧ MhC N E B (jfM N 11 (z0S s) (fun _ => 0, fun _ => 0)).1 (jfM N 11 (z0S s) (fun _ => 0, fun _ => 0)).2 τ (rsM (prM N 11 (z0S s)))
  | _, _ => True
abbrev Uz_readProgram : CqC := fun As σ w τ => ∀ y, Pz_readProgram y As σ → Qz_readProgram y As σ w τ
set_option maxHeartbeats 4000000 in
theorem pz_readProgram (y : (Int → Int) × (Nat → Nat) × (Nat → Nat) × (Nat → Nat) × (Nat → Nat) × ZS × TxY) : PbC KX7_readProgram [(117, TrP, EqC 117), (188, TrP, EqC 188), (125, TrP, EqC 125), (134, TrP, EqC 134)] [(188, Uz_cutText), (125, Uz_code0), (134, Uz_readMethod)] (fun As σ => Pz_readProgram y As σ ∧ cnC σ ≤ 1000000 ∧ ∃ w τ, uqC quL 123 As σ w τ) (Qz_readProgram y) := by
  obtain ⟨N, E, A, B, V, z, x⟩ := y
  rintro As σ ⟨⟨p0, p1, p2, p3, rfl, ht1, ht2, hlt, hal, hx, hwd, hno⟩, hcn, _, _, hQ⟩ K hB hW n_
  have hH : HI0 σ ∧ TyC σ p0 8 := hQ
  obtain ⟨t, -, et, tt⟩ := cg210 hH.1 ht1
  have L42 : ∀ (N : Int → Int) (s : SpC) (n9 : Nat) (_ : Unit), Z0Y s → TkS x s n9 → (∀ k : Nat, k < n9 → ∃ v : Int64, v.toInt = N (k : Int) ∧ WoC x (atY x k) v) → ∀ (k : Nat) (υ : CsC) (E A B V J F : Nat → Nat) (v : ZS) (i : Int32) (j : Nat), ZC N E A B V (prS (E 0) υ) (rsM v) → MhC N E B J F υ (rsM v) → (E 0 = p0 ∧ E 1 = p1) → i.toInt = (j : Int) → j ≤ 11 → prM N (11 - j) v = prM N 11 (z0S s) → jfM N (11 - j) v (J, F) = jfM N 11 (z0S s) (fun _ => 0, fun _ => 0) → K k 42 [(0, .inr (.inr (some (E 0)))), (4, .inl i)] [] υ := by
    intro N s n9 _ hz htk hWN k
    have hfX : zFt (prM N 11 (z0S s)).1 = 0 := by rw [lf_pr]; exact hno s n9 hz htk
    induction k using Nat.strongRecOn with
    | _ k ih =>
      intro υ E A B V J F v i j hP hM hEp hij hj hPX hJF
      have hR := hP.r1
      have hz0 : zFt v.1 = 0 := by
        by_cases q9 : j = 11
        · have h9 := hfX
          rw [← hPX, q9] at h9
          exact h9
        · by_cases q8 : zFt v.1 = 0
          · exact q8
          · have h9 := hfX
            rw [← hPX, show 11 - j = (10 - j) + 1 by omega, prM, if_neg q8] at h9
            exact h9
      have hzr : zFt (rsM v).1 = 0 := hz0
      refine hB _ _ _ _ _ (fun m51 hm51 => ?_)
      dsimp only [ucgo, ucwp, ucsC, uqC, uoC, ctC, rfd, KX7_readProgram, KX7_readProgram_0, KX7_readProgram_42, KX7_readProgram_49, KX7_readProgram_56, KX7_readProgram_65, KX7_readProgram_75, lkC, s1C, s2C, dlC, kyC, Nat.beq, Nat.ble, rcd, rno, rsw, Nat.reduceAdd, Nat.reduceBEq, Nat.reduceDiv, List.drop, List.take, List.reverse, List.reverseAux, Int.toNat, Option.toList, List.append, List.cons_append, List.nil_append, zg210, zg240, zg241, zg243]
      have c52 : (Int32.ofInt 10).toInt = 10 := by decide
      refine ⟨fun h53 => ?_, fun h53 => ?_⟩
      · have g53 := ltI (x := (Int32.ofInt 10)) (y := i) h53
        refine hB _ _ _ _ _ (fun m54 hm54 => ?_)
        dsimp only [ucgo, ucwp, ucsC, uqC, uoC, ctC, rfd, KX7_readProgram, KX7_readProgram_0, KX7_readProgram_42, KX7_readProgram_49, KX7_readProgram_56, KX7_readProgram_65, KX7_readProgram_75, lkC, s1C, s2C, dlC, kyC, Nat.beq, Nat.ble, rcd, rno, rsw, Nat.reduceAdd, Nat.reduceBEq, Nat.reduceDiv, List.drop, List.take, List.reverse, List.reverseAux, Int.toNat, Option.toList, List.append, List.cons_append, List.nil_append, zg210, zg240, zg241, zg243]
        intro a55 e55 ob55
        cases e55
        have f56 : (fIC υ (E 0) 243).toInt = zFt (rsM v).1 := hR.2.1.1.2
        try dsimp only [Qz_readProgram]
        have hvX : v = prM N 11 (z0S s) := by
          by_cases q9 : j = 11
          · rw [← hPX, q9]; rfl
          · have h84 : codY v.1 = 84 := by omega
            rw [← hPX, show 11 - j = (10 - j) + 1 by omega, prM, if_pos hz0, if_pos h84]
        have hjX : (J, F) = jfM N 11 (z0S s) (fun _ => 0, fun _ => 0) := by
          by_cases q9 : j = 11
          · rw [← hJF, q9]; rfl
          · have h84 : codY v.1 = 84 := by omega
            rw [← hJF, show 11 - j = (10 - j) + 1 by omega, jfM, if_pos hz0, if_pos h84]
        have hf0 : fIC υ (E 0) 243 = 0 := Int32.toInt_inj.mp (by have q : (fIC υ (E 0) 243).toInt = zFt v.1 := hR.2.1.1.2; rw [q, hz0]; rfl)
        refine ⟨by rw [hf0], s, n9, N, E, A, B, V, ⟨hz, htk, hWN⟩, hEp, ?_, ?_⟩
        · rw [← hvX]; exact hP
        · rw [← hvX, ← hjX]; exact hM
      · have g53 := nltI (x := (Int32.ofInt 10)) (y := i) h53
        refine hB _ _ _ _ _ (fun m57 hm57 => ?_)
        dsimp only [ucgo, ucwp, ucsC, uqC, uoC, ctC, rfd, KX7_readProgram, KX7_readProgram_0, KX7_readProgram_42, KX7_readProgram_49, KX7_readProgram_56, KX7_readProgram_65, KX7_readProgram_75, lkC, s1C, s2C, dlC, kyC, Nat.beq, Nat.ble, rcd, rno, rsw, Nat.reduceAdd, Nat.reduceBEq, Nat.reduceDiv, List.drop, List.take, List.reverse, List.reverseAux, Int.toNat, Option.toList, List.append, List.cons_append, List.nil_append, zg210, zg240, zg241, zg243]
        intro a58 e58 ob58
        cases e58
        have f59 : (fIC υ (E 0) 243).toInt = zFt (rsM v).1 := hR.2.1.1.2
        refine ⟨fun h60 => ?_, fun h60 => ?_⟩
        · have g60 := (neI (x := (fIC υ (E 0) 243)) (y := 0) h60 : ¬ ((fIC υ (E 0) 243) : Int32).toInt = (0 : Int32).toInt)
          have z0_ : (0 : Int32).toInt = 0 := rfl
          refine hB _ _ _ _ _ (fun m61 hm61 => ?_)
          dsimp only [ucgo, ucwp, ucsC, uqC, uoC, ctC, rfd, KX7_readProgram, KX7_readProgram_0, KX7_readProgram_42, KX7_readProgram_49, KX7_readProgram_56, KX7_readProgram_65, KX7_readProgram_75, lkC, s1C, s2C, dlC, kyC, Nat.beq, Nat.ble, rcd, rno, rsw, Nat.reduceAdd, Nat.reduceBEq, Nat.reduceDiv, List.drop, List.take, List.reverse, List.reverseAux, Int.toNat, Option.toList, List.append, List.cons_append, List.nil_append, zg210, zg240, zg241, zg243]
          intro a62 e62 ob62
          cases e62
          have f63 : (fIC υ (E 0) 243).toInt = zFt (rsM v).1 := hR.2.1.1.2
          try dsimp only [Qz_readProgram]
          have hvX : v = prM N 11 (z0S s) := by
            by_cases q9 : j = 11
            · rw [← hPX, q9]; rfl
            · have h84 : codY v.1 = 84 := by omega
              rw [← hPX, show 11 - j = (10 - j) + 1 by omega, prM, if_pos hz0, if_pos h84]
          have hjX : (J, F) = jfM N 11 (z0S s) (fun _ => 0, fun _ => 0) := by
            by_cases q9 : j = 11
            · rw [← hJF, q9]; rfl
            · have h84 : codY v.1 = 84 := by omega
              rw [← hJF, show 11 - j = (10 - j) + 1 by omega, jfM, if_pos hz0, if_pos h84]
          have hf0 : fIC υ (E 0) 243 = 0 := Int32.toInt_inj.mp (by have q : (fIC υ (E 0) 243).toInt = zFt v.1 := hR.2.1.1.2; rw [q, hz0]; rfl)
          refine ⟨by rw [hf0], s, n9, N, E, A, B, V, ⟨hz, htk, hWN⟩, hEp, ?_, ?_⟩
          · rw [← hvX]; exact hP
          · rw [← hvX, ← hjX]; exact hM
        · have g60 := (eqI (x := (fIC υ (E 0) 243)) (y := 0) h60 : ((fIC υ (E 0) 243) : Int32).toInt = (0 : Int32).toInt)
          have z0_ : (0 : Int32).toInt = 0 := rfl
          refine hB _ _ _ _ _ (fun m64 hm64 => ?_)
          dsimp only [ucgo, ucwp, ucsC, uqC, uoC, ctC, rfd, KX7_readProgram, KX7_readProgram_0, KX7_readProgram_42, KX7_readProgram_49, KX7_readProgram_56, KX7_readProgram_65, KX7_readProgram_75, lkC, s1C, s2C, dlC, kyC, Nat.beq, Nat.ble, rcd, rno, rsw, Nat.reduceAdd, Nat.reduceBEq, Nat.reduceDiv, List.drop, List.take, List.reverse, List.reverseAux, Int.toNat, Option.toList, List.append, List.cons_append, List.nil_append, zg210, zg240, zg241, zg243]
          intro w65 τ65 o65 q65
          obtain ⟨c65, rfl, hc65, rfl⟩ := q65 (N, E, A, B, V, rsM v) ⟨rfl, hP⟩
          have hc65 : c65.toInt = codY v.1 := hc65
          try dsimp only [Option.toList, List.cons_append, List.nil_append, s1C, s2C, dlC, kyC, Nat.beq, lkC, rcd, rno, rsw]
          have c66 : (Int32.ofInt 84).toInt = 84 := by decide
          refine ⟨fun h67 => ?_, fun h67 => ?_⟩
          · have g67 := (eqI (x := c65) (y := (Int32.ofInt 84)) h67 : (c65 : Int32).toInt = ((Int32.ofInt 84) : Int32).toInt)
            refine hB _ _ _ _ _ (fun m68 hm68 => ?_)
            dsimp only [ucgo, ucwp, ucsC, uqC, uoC, ctC, rfd, KX7_readProgram, KX7_readProgram_0, KX7_readProgram_42, KX7_readProgram_49, KX7_readProgram_56, KX7_readProgram_65, KX7_readProgram_75, lkC, s1C, s2C, dlC, kyC, Nat.beq, Nat.ble, rcd, rno, rsw, Nat.reduceAdd, Nat.reduceBEq, Nat.reduceDiv, List.drop, List.take, List.reverse, List.reverseAux, Int.toNat, Option.toList, List.append, List.cons_append, List.nil_append, zg210, zg240, zg241, zg243]
            intro a69 e69 ob69
            cases e69
            have f70 : (fIC υ (E 0) 243).toInt = zFt (rsM v).1 := hR.2.1.1.2
            try dsimp only [Qz_readProgram]
            have hvX : v = prM N 11 (z0S s) := by
              by_cases q9 : j = 11
              · rw [← hPX, q9]; rfl
              · have h84 : codY v.1 = 84 := by omega
                rw [← hPX, show 11 - j = (10 - j) + 1 by omega, prM, if_pos hz0, if_pos h84]
            have hjX : (J, F) = jfM N 11 (z0S s) (fun _ => 0, fun _ => 0) := by
              by_cases q9 : j = 11
              · rw [← hJF, q9]; rfl
              · have h84 : codY v.1 = 84 := by omega
                rw [← hJF, show 11 - j = (10 - j) + 1 by omega, jfM, if_pos hz0, if_pos h84]
            have hf0 : fIC υ (E 0) 243 = 0 := Int32.toInt_inj.mp (by have q : (fIC υ (E 0) 243).toInt = zFt v.1 := hR.2.1.1.2; rw [q, hz0]; rfl)
            refine ⟨by rw [hf0], s, n9, N, E, A, B, V, ⟨hz, htk, hWN⟩, hEp, ?_, ?_⟩
            · rw [← hvX]; exact hP
            · rw [← hvX, ← hjX]; exact hM
          · have g67 := (neI (x := c65) (y := (Int32.ofInt 84)) h67 : ¬ (c65 : Int32).toInt = ((Int32.ofInt 84) : Int32).toInt)
            refine hB _ _ _ _ _ (fun m71 hm71 => ?_)
            dsimp only [ucgo, ucwp, ucsC, uqC, uoC, ctC, rfd, KX7_readProgram, KX7_readProgram_0, KX7_readProgram_42, KX7_readProgram_49, KX7_readProgram_56, KX7_readProgram_65, KX7_readProgram_75, lkC, s1C, s2C, dlC, kyC, Nat.beq, Nat.ble, rcd, rno, rsw, Nat.reduceAdd, Nat.reduceBEq, Nat.reduceDiv, List.drop, List.take, List.reverse, List.reverseAux, Int.toNat, Option.toList, List.append, List.cons_append, List.nil_append, zg210, zg240, zg241, zg243]
            intro w72 τ72 o72 q72
            have hc84 : ¬ codY v.1 = 84 := by omega
            have hj9 : j < 11 := by omega
            have hst : prM N (11 - j) v = prM N (11 - (j + 1)) (meM N v) := by rw [show 11 - j = (11 - (j + 1)) + 1 by omega, prM, if_pos hz0, if_neg hc84]
            have hm0 : zFt (mthY v.1) = 0 := by
              have h9 := hfX
              rw [← hPX, hst, lf_pr, lf_me] at h9
              exact (gd_prl _ _).z h9
            have hmz : zFt (meM N v).1 = 0 := by rw [lf_me]; exact hm0
            obtain ⟨rfl, E2, A2, B2, V2, hE2, hZ2, hM2⟩ := q72 (N, E, A, B, V, rsM v, J, F) ⟨rfl, hP, rfl, hM, by rw [me_rs hm0]; exact hmz⟩
            rw [me_rs hm0] at hZ2 hM2
            try dsimp only [Option.toList, List.cons_append, List.nil_append, s1C, s2C, dlC, kyC, Nat.beq, lkC, rcd, rno, rsw]
            have c73 : (Int32.ofInt 1).toInt = 1 := by decide
            have u74 := tiC i
            have a74 : (i + (Int32.ofInt 1)).toInt = i.toInt + 1 := addC (by omega) (by omega) (by omega)
            have e0 : E2 0 = E 0 := hE2 0 (by omega)
            have L := fun k9 (h9 : k9 < k) => ih k9 h9 τ72 E2 A2 B2 V2 (upA J (zMs v.1).length (snM v)) (upA F (zMs v.1).length (zVs v.1).length) (meM N v) (i + (Int32.ofInt 1)) (j + 1) hZ2 hM2 ⟨e0.trans hEp.1, (hE2 1 (by omega)).trans hEp.2⟩ (by omega) (by omega) (by rw [← hPX, hst]) (by rw [← hJF, show 11 - j = (11 - (j + 1)) + 1 by omega, jfM, if_pos hz0, if_neg hc84])
            rw [e0] at L
            exact hW _ 42 [(0, .inr (.inr (some (E 0)))), (4, .inl (i + (Int32.ofInt 1)))] _ _ _ (List.forall_mem_cons.2 ⟨List.Mem.tail _ (List.Mem.head _), List.forall_mem_cons.2 ⟨List.Mem.head _, fun _ h => absurd h List.not_mem_nil⟩⟩) (L _ (by omega))
  change K n_ 0 [(0, .inr (.inr (some p0))), (1, .inr (.inr (some p1))), (2, .inr (.inr (some p2))), (3, .inl p3)] [] σ
  refine hB _ _ _ _ _ (fun m51 hm51 => ?_)
  dsimp only [ucgo, ucwp, ucsC, uqC, uoC, ctC, rfd, KX7_readProgram, KX7_readProgram_0, KX7_readProgram_42, KX7_readProgram_49, KX7_readProgram_56, KX7_readProgram_65, KX7_readProgram_75, lkC, s1C, s2C, dlC, kyC, Nat.beq, Nat.ble, rcd, rno, rsw, Nat.reduceAdd, Nat.reduceBEq, Nat.reduceDiv, List.drop, List.take, List.reverse, List.reverseAux, Int.toNat, Option.toList, List.append, List.cons_append, List.nil_append, zg210, zg240, zg241, zg243]
  intro a52 e52 ob52 fk52
  cases e52
  clear fk52 ob52
  generalize hs52 : pRC σ p0 240 (some p1) = s52
  intro a53 e53 ob53
  cases e53
  intro a54 e54 ob54 fk54
  cases e54
  clear fk54 ob54
  generalize hs54 : pRC s52 p0 241 (fRC s52 p1 210) = s54
  have e240 : fRC s54 p0 240 = some p1 := by rw [← hs54, pR_k (show (240 : Nat) ≠ 241 by decide), ← hs52]; exact pR_e
  have e241 : fRC s54 p0 241 = some t := by rw [← hs54, pR_e]; exact (by rw [← hs52]; exact (pR_k (show (210 : Nat) ≠ 240 by decide)).trans et)
  have hTy : ∀ a c, TyC σ a c → c ≠ 2 → TyC s54 a c := fun a c h hc => by rw [← hs54, ← hs52]; exact ⟨h.1, h.2.1, fun q => absurd q hc⟩
  have hFs : (∀ a k, k ≠ 240 → k ≠ 241 → fRC s54 a k = fRC σ a k) ∧ (eIC s54 = eIC σ ∧ eLC s54 = eLC σ) ∧ cnC s54 = cnC σ ∧ (ghC s54 = ghC σ ∧ tgC s54 = tgC σ ∧ alC s54 p2 = alC σ p2) := by
    rw [← hs54, ← hs52]
    exact ⟨fun a k h1 h2 => (pR_k h2).trans (pR_k h1), ⟨rfl, rfl⟩, rfl, rfl, rfl, rfl⟩
  intro a55 e55 ob55
  cases e55
  rw [e240]
  try dsimp only
  intro w56 τ56 o56 q56
  obtain ⟨rfl, hC3, hE3, hz3⟩ : Q_X6_clear [.inr (.inr (some p1))] s54 w56 τ56 := o56.1.1.1
  have hc3 : cnC τ56 = cnC σ := (congrArg (fun z => z.1.1) (hE3.2.1.2.1 rfl)).trans hFs.2.2.1
  have t0 := (hTy p0 8 hH.2 (by decide))
  have t1 := (hTy p1 7 ht1 (by decide))
  have t2 := (hTy p2 101 ht2 (by decide))
  have t3 := (hTy t 10 tt (by decide))
  have e241b : fRC τ56 p0 241 = some t := (t0.mr hE3 rfl).trans e241
  have hb3 : ∀ j : Nat, (j : Int) < x.2 → (eIC τ56 p2 j &&& 255).toInt = x.1 j := fun j hj => by
    rw [(hE3.2.1.2.2 p2 t2.1 (by rw [t2.2.1]; rfl)).1, hFs.2.1.1]
    exact hx.2.1 j hj
  have hw3 : WdC τ56 t := fun c hc k hk => by
    have e : fRC σ t 306 = some c := by
      rw [← hFs.1 t 306 (by decide) (by decide), ← t3.mr hE3 (k := 306) rfl]
      exact hc
    obtain ⟨b, -, eb, tb, -, gb⟩ := cg306 hH.1 tt
    obtain rfl : b = c := Option.some.inj (eb.symm.trans e)
    have tb2 := hTy b 102 tb (by decide)
    rw [(hE3.2.1.2.2 b tb2.1 (by rw [tb2.2.1, hFs.2.2.2.1, gb]; rfl)).2, hFs.2.1.2]
    exact hwd t et b e k hk
  try dsimp only [Option.toList, List.cons_append, List.nil_append, s1C, s2C, dlC, kyC, Nat.beq, lkC, rcd, rno, rsw]
  intro a57 e57 ob57
  cases e57
  rw [e241b]
  try dsimp only
  intro w58 τ58 o58 q58
  obtain ⟨hQ4, hU4⟩ : Q_X9_cutText [.inr (.inr (some t)), .inr (.inr (some p2)), .inl p3] τ56 w58 τ58 ∧ U_cutText [.inr (.inr (some t)), .inr (.inr (some p2)), .inl p3] τ56 w58 τ58 := o58.1.1
  obtain ⟨rfl, hC4, hE4, -⟩ := hQ4
  obtain ⟨⟨nn, hcu⟩, -⟩ := hU4 x ⟨⟨by rw [hc3]; exact hlt, hx.1, hb3, hx.2.2⟩, hw3⟩
  have hal3 : alC τ56 p2 = 2500 := (t2.al hE3).trans (hFs.2.2.2.2.2.trans hal)
  obtain ⟨r9, -, er9, -, -, -⟩ := cg304 hC3.1 (t3.x hE3)
  have hwo := q58 (N, E, A, B, V, z, x, r9) ⟨_, _, _, rfl, ⟨hC3.1, t3.x hE3⟩, t2.x hE3, er9, ⟨hx.1, hb3, hx.2.2⟩, hal3, hw3, by rw [hc3]; exact hlt⟩ nn (by obtain ⟨-, _, _, _, _, hct, -⟩ := hcu; exact hct.2.1.2)
  have u0 := t0.x hE3
  have u1 := t1.x hE3
  have v0 := u0.x hE4
  have v1 := u1.x hE4
  have v3 := (t3.x hE3).x hE4
  obtain ⟨l1, -, a1, b1, g1⟩ := cg211 hC4.1 v1
  obtain ⟨l2, -, a2, b2, g2⟩ := cg212 hC4.1 v1
  obtain ⟨l3, -, a3, b3, g3⟩ := cg213 hC4.1 v1
  obtain ⟨l4, -, a4, b4, g4⟩ := cg214 hC4.1 v1
  obtain ⟨r2, -, c2, d2, -, f2⟩ := cg302 hC4.1 v3
  obtain ⟨r3, -, c3, d3, -, f3⟩ := cg303 hC4.1 v3
  obtain ⟨r4, -, c4, d4, -, f4⟩ := cg304 hC4.1 v3
  obtain rfl : r4 = r9 := Option.some.inj (c4.symm.trans (((t3.x hE3).mr hE4 (k := 304) rfl).trans er9))
  have hzl : ∀ k a, k = 211 ∨ k = 212 ∨ k = 213 ∨ k = 214 → fRC τ58 p1 k = some a → TyC τ58 a 0 → (fIC τ58 a 2).toInt = 0 := fun k a hk ha ta => by
    have e3 : fRC τ56 p1 k = some a := by
      rw [← u1.mr hE4 (k := k) (by rcases hk with q | q | q | q <;> rw [q] <;> rfl)]
      exact ha
    have q := hz3 k (by rcases hk with q | q | q | q <;> rw [q] <;> rfl) a e3
    have ta3 : ∃ b, fRC τ56 p1 k = some b ∧ TyC τ56 b 0 := by
      rcases hk with q | q | q | q <;> rw [q]
      · obtain ⟨b, -, x1, x2, -⟩ := cg211 hC3.1 u1; exact ⟨b, x1, x2⟩
      · obtain ⟨b, -, x1, x2, -⟩ := cg212 hC3.1 u1; exact ⟨b, x1, x2⟩
      · obtain ⟨b, -, x1, x2, -⟩ := cg213 hC3.1 u1; exact ⟨b, x1, x2⟩
      · obtain ⟨b, -, x1, x2, -⟩ := cg214 hC3.1 u1; exact ⟨b, x1, x2⟩
    obtain ⟨b, x1, x2⟩ := ta3
    obtain rfl : b = a := Option.some.inj (x1.symm.trans e3)
    rw [x2.mi hE4 (k := 2) rfl]
    have q0 : 0 ≤ (fIC τ56 b 2).toInt := by obtain ⟨y, -, e, y1, y2⟩ := cg2 hC3.1 x2; rw [e]; exact y1
    omega
  try dsimp only [Option.toList, List.cons_append, List.nil_append, s1C, s2C, dlC, kyC, Nat.beq, lkC, rcd, rno, rsw]
  have c59 : (Int32.ofInt 0).toInt = 0 := by decide
  intro a60 e60 ob60 fk60
  cases e60
  clear fk60 ob60
  generalize hs60 : pIC τ58 p0 242 (Int32.ofInt 0) = s60
  have c61 : (Int32.ofInt 0).toInt = 0 := by decide
  intro a62 e62 ob62 fk62
  cases e62
  clear fk62 ob62
  generalize hs62 : pIC s60 p0 243 (Int32.ofInt 0) = s62
  have c63 : (Int32.ofInt 0).toInt = 0 := by decide
  obtain ⟨s, hs⟩ : ∃ s : SpC, s = ((0, 0, 0), ([], []), fun j => (eIC s62 r2 j).toInt, (fun j => (eIC s62 ((fRC s62 t 300).getD 0) j).toInt, fun _ => none, fun _ => none, 0, [])) := ⟨_, rfl⟩
  have hs6 : (∀ a k, k ≠ 242 → k ≠ 243 → fIC s62 a k = fIC τ58 a k) ∧ fRC s62 = fRC τ58 ∧ eIC s62 = eIC τ58 ∧ eLC s62 = eLC τ58 ∧ cnC s62 = cnC τ58 := by
    rw [← hs62, ← hs60]
    exact ⟨fun a k h1 h2 => (fI_pI (Or.inl h2)).trans (fI_pI (Or.inl h1)), rfl, rfl, rfl, rfl⟩
  have hz : Z0Y s := by rw [hs]; exact ⟨rfl, rfl, rfl, rfl⟩
  have htk : TkS x s nn := TkS.cu hcu (fun a ha j => by
    obtain rfl : r2 = a := Option.some.inj (c2.symm.trans ha)
    rw [hs]
    show (eIC s62 r2 j).toInt = _
    rw [hs6.2.2.1]) (fun a ha j => by
    rw [hs]
    show (eIC s62 ((fRC s62 t 300).getD 0) j).toInt = _
    rw [hs6.2.1, ha, hs6.2.2.1]
    rfl)
  have hEn : EnC (enE p0 p1 t l1 l2 l3 l4 r2 r3 r4) s62 := by
    unfold EnC
    rw [hs6.2.1, hs6.2.2.2.2]
    refine ⟨⟨(u0.mr hE4 (k := 240) rfl).trans ((t0.mr hE3 (k := 240) rfl).trans e240), (u0.mr hE4 (k := 241) rfl).trans e241b⟩, ⟨a1, a2, a3, a4⟩, ⟨c2, c3, c4⟩, ⟨v0.1, v1.1, v3.1⟩, ⟨b1.1, b2.1, b3.1, b4.1⟩, ⟨d2.1, d3.1, d4.1⟩, fun q => ?_⟩
    have q : r2 = r3 := q
    rw [q, f3] at f2
    cases f2
  have hZ0 : ZC (fun j => (eLC s62 r4 j.toNat).toInt) (enE p0 p1 t l1 l2 l3 l4 r2 r3 r4) (fun _ => 0) (fun _ => 0) (fun _ => 0) (prS p0 s62) (rsM (z0S s)) := ZC.z0 (E := enE p0 p1 t l1 l2 l3 l4 r2 r3 r4) hEn hz (by show (fIC s62 p0 242).toInt = 0; rw [← hs62, fI_pI (Or.inl (by decide)), ← hs60, pI_e]; rfl) (by show (fIC s62 p0 243).toInt = 0; rw [← hs62, pI_e]; rfl) (fun j => by rw [hs]; rfl) (fun j => rfl) (fun k hk => by
    rcases hk with q | q | q | q <;> rw [q]
    · show (fIC s62 l1 2).toInt = 0; rw [hs6.1 _ _ (by decide) (by decide)]; exact hzl 211 l1 (by decide) a1 b1
    · show (fIC s62 l2 2).toInt = 0; rw [hs6.1 _ _ (by decide) (by decide)]; exact hzl 212 l2 (by decide) a2 b2
    · show (fIC s62 l3 2).toInt = 0; rw [hs6.1 _ _ (by decide) (by decide)]; exact hzl 213 l3 (by decide) a3 b3
    · show (fIC s62 l4 2).toInt = 0; rw [hs6.1 _ _ (by decide) (by decide)]; exact hzl 214 l4 (by decide) a4 b4)
  exact hW _ 42 [(0, .inr (.inr (some p0))), (4, .inl (Int32.ofInt 0))] _ _ _ (List.forall_mem_cons.2 ⟨List.Mem.tail _ (List.Mem.head _), List.forall_mem_cons.2 ⟨List.Mem.head _, fun _ h => absurd h List.not_mem_nil⟩⟩) (L42 (fun j => (eLC s62 r4 j.toNat).toInt) s nn () hz htk (fun k hk => ⟨eLC s62 r4 k, rfl, by rw [hs6.2.2.2.1]; exact hwo k hk⟩) _ s62 (enE p0 p1 t l1 l2 l3 l4 r2 r3 r4) _ _ _ (fun _ => 0) (fun _ => 0) (z0S s) (Int32.ofInt 0) 0 hZ0 (fun k hk => absurd hk (by show ¬ k < (zMs s).length; rw [hz.2.2.1]; exact Nat.not_lt_zero _)) ⟨rfl, rfl⟩ (by omega) (by omega) rfl rfl)
theorem wz_readProgram : ∀ (L : Nat) (As : List AvC) (σ : CsC) (w : Option AvC) (τ : CsC), EvF L 123 As σ w τ → Uz_readProgram As σ w τ := by
  intro L
  cases L with
  | zero => exact fun _ _ _ _ h => h.elim
  | succ L => exact fun As σ w τ h y hy => EvF.us (cs := [117, 188, 125, 134]) (pz_readProgram y) rfl (List.forall_mem_cons.2 ⟨fun _ _ _ _ _ => trivial, List.forall_mem_cons.2 ⟨wz_cutText L, List.forall_mem_cons.2 ⟨wz_code0 L, List.forall_mem_cons.2 ⟨wz_readMethod L, fun _ h => absurd h List.not_mem_nil⟩⟩⟩⟩) h hy

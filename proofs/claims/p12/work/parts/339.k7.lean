/-! the class's judge: calls -/
/-- where tokens stand -/
def TnC (E : Nat → Nat) (σ : CsC) : Prop := fRC σ (E 1) 210 = some (E 2) ∧ fRC σ (E 2) 303 = some (E 303) ∧ fRC σ (E 2) 304 = some (E 304)
theorem TnC.xu {E : Nat → Nat} {M : List Nat} {σ τ : CsC} {p : Nat} (h : TnC E σ) (x : XuC M σ τ p) (h1 : M.elem 210 = false) (h2 : M.elem 303 = false) (h3 : M.elem 304 = false) : TnC E τ := ⟨by rw [(x.1 _ _ (Or.inl h1)).2.2]; exact h.1, by rw [(x.1 _ _ (Or.inl h2)).2.2]; exact h.2.1, by rw [(x.1 _ _ (Or.inl h3)).2.2]; exact h.2.2⟩
/-- as XuC, and one row of ints changes -/
def XwC (M : List Nat) (σ τ : CsC) (o r : Nat) : Prop := (∀ a k, (M.elem k = false ∨ a ≠ o) → fIC τ a k = fIC σ a k ∧ fLC τ a k = fLC σ a k ∧ fRC τ a k = fRC σ a k) ∧ ((∀ a, a ≠ r → eIC τ a = eIC σ a) ∧ eLC τ = eLC σ ∧ eRC τ = eRC σ) ∧ cnC τ = cnC σ
/-- what judging a call does -/
def JcC (E : Nat → Nat) (σ τ : CsC) (o : Nat) (f : Int) (q : Option TvT) : Prop := (q = none ∧ erC E τ) ∨ ∃ r, q = some r ∧ fIC τ (E 1) 217 = 0 ∧ XwC [67, 68] σ τ o (E 303) ∧ TwC τ o r ∧ (fIC τ o 67).toInt = r.2.2.2 ∧ ∃ v : Int32, v.toInt = 100 + r.2.2.2 ∧ eIC τ (E 303) = upd (eIC σ (E 303)) f.toNat v
theorem JcC.we {E : Nat → Nat} {σ τ υ : CsC} {o : Nat} {f : Int} {q : Option TvT} (e : WeC τ υ) (h : JcC E σ τ o f q) : JcC E σ υ o f q := by
  rcases h with ⟨h1, h2⟩ | ⟨r, h1, h2, h3, h4, h5, v, h6, h7⟩
  · exact Or.inl ⟨h1, by show ¬ fIC υ (E 1) 217 = 0; rw [we_i e]; exact h2⟩
  · refine Or.inr ⟨r, h1, by rw [we_i e]; exact h2, ?_, ?_, by rw [we_i e]; exact h5, v, h6, by rw [we_ei e]; exact h7⟩
    · unfold XwC
      rw [we_i e, we_l e, we_r e, we_ei e, we_el e, we_er e, we_c e]
      exact h3
    · unfold TwC
      rw [we_i e, we_l e]
      exact h4
theorem bs_s {ms : MfT} {key : Int} {as : List Int} {i : Nat} (h : i < 12) : bsT ms key as (12 - i) = if taT ms key as (odT i) = true ∧ naT ms key as (psT ms (odT i)) 12 = true then (odT i : Int) else bsT ms key as (12 - (i + 1)) := by
  rw [show 12 - i = (11 - i) + 1 by omega, bsT, show 11 - (11 - i) = i by omega, show 12 - (i + 1) = 11 - i by omega]
theorem ps_s {ms : MfT} {i : Nat} {m : MtT} (h : ms i = some m) : psT ms i = m.2.2 := by unfold psT; rw [h]
theorem bs_r {ms : MfT} {key : Int} {as : List Int} : ∀ k, bsT ms key as k = -1 ∨ ∃ i : Nat, bsT ms key as k = (i : Int) ∧ i < 12 ∧ taT ms key as i = true := by
  intro k
  induction k with
  | zero => exact Or.inl rfl
  | succ k ih =>
    rw [bsT]
    split
    · rename_i h
      exact Or.inr ⟨_, rfl, by unfold odT; omega, h.1⟩
    · exact ih
theorem xa_p {C : CxT} {T : TbT} {t : TvT} {x : XrZ} {as : List Int} (ha : agT T x.2.2.2 = as) {k : Int} (hk : bsT C.2.2.2 (C.1 x.1.2.2.1) as 12 = k) (h5 : ∀ q ∈ as, ¬ q = 5) (h0 : 0 ≤ k) : xaT C T t x = some (mtyT C k, t.2.1, t.2.2.1, k) := by
  unfold xaT cmaT
  rw [ha, hk]
  exact if_pos ⟨h5, h0⟩
theorem xa_n {C : CxT} {T : TbT} {t : TvT} {x : XrZ} {as : List Int} (ha : agT T x.2.2.2 = as) (h : ¬ ((∀ q ∈ as, ¬ q = 5) ∧ 0 ≤ bsT C.2.2.2 (C.1 x.1.2.2.1) as 12)) : xaT C T t x = none := by
  unfold xaT cmaT
  rw [ha]
  exact if_neg h
theorem ArC.cg {σ τ : CsC} : ∀ {as : List Nat} {o : Option Nat}, (∀ a, fRC τ a 75 = fRC σ a 75) → ArC σ o as → ArC τ o as := by
  intro as
  induction as with
  | nil => exact fun _ h => h
  | cons a l ih => exact fun f h => ⟨h.1, by rw [f a]; exact ih f h.2⟩
abbrev Pz_calledMethod : ((Int → Int) × (Nat → Nat) × (Nat → Nat) × (Nat → Nat) × (Nat → Nat) × ZS × MfT × Nat × List Nat × Int × Int) → CpC := fun y As σ => match y with
  | (N, E, A, B, V, z, ms, nm, as, f, key) => ∃ (p1 : Nat) (p2 : Int32), As = [.inr (.inr (some (E 3))), .inr (.inr (some p1)), .inl p2] ∧ (PjC E σ) ∧ (MaC E σ ms nm) ∧ (TnC E σ) ∧ ((fIC σ p1 62).toInt = f) ∧ ((eLC σ (E 304) f.toNat).toInt = key) ∧ (ArC σ (fRC σ p1 72) as) ∧ (p2.toInt = (as.length : Int))
abbrev Qz_calledMethod : ((Int → Int) × (Nat → Nat) × (Nat → Nat) × (Nat → Nat) × (Nat → Nat) × ZS × MfT × Nat × List Nat × Int × Int) → CqC := fun y As σ w τ => match y, As with
  | (N, E, A, B, V, z, ms, nm, as, f, key), [_, .inr (.inr (some p1)), .inl p2] => ∃ r, w = some (.inl r) ∧ r.toInt = bsT ms key (agO σ as) 12 ∧ σ = τ
  | _, _ => True
abbrev Uz_calledMethod : CqC := fun As σ w τ => ∀ y, Pz_calledMethod y As σ → Qz_calledMethod y As σ w τ
set_option maxHeartbeats 4000000 in
theorem pz_calledMethod (y : (Int → Int) × (Nat → Nat) × (Nat → Nat) × (Nat → Nat) × (Nat → Nat) × ZS × MfT × Nat × List Nat × Int × Int) : PbC KX3_calledMethod [(119, TrP, EqC 119), (115, TrP, EqC 115), (78, TrP, EqC 78)] [(119, Uz_methodOf), (115, Uz_mtakes), (78, Uz_isNarrowest)] (fun As σ => Pz_calledMethod y As σ ∧ cnC σ ≤ 1000000 ∧ ∃ w τ, uqC quL 77 As σ w τ) (Qz_calledMethod y) := by
  obtain ⟨N, E, A, B, V, z, ms, nm, as, f, key⟩ := y
  rintro As σ ⟨⟨p1, p2, rfl, hP, hM, hT, hf, hky, ha, hn⟩, hcn, _, _, hQ⟩ K hB hW n_
  have L19 : ∀ (n : Nat) (i : Int32) (k9 : Int64), (0 ≤ i.toInt) → (i.toInt ≤ 12) → (k9.toInt = key) → (bsT ms key (agO σ as) 12 = bsT ms key (agO σ as) (12 - i.toInt.toNat)) →  K n 19 [(0, .inr (.inr (some (E 3)))), (1, .inr (.inr (some p1))), (2, .inl p2), (3, .inr (.inl k9)), (5, .inl i)] [] σ := by
    intro n
    induction n using Nat.strongRecOn with
    | _ n ih =>
      intro i k9 h1 h2 hk9 h5
      refine hB _ _ _ _ _ (fun m51 hm51 => ?_)
      dsimp only [ucgo, ucwp, ucsC, uqC, uoC, ctC, rfd, KX3_calledMethod, KX3_calledMethod_0, KX3_calledMethod_19, KX3_calledMethod_26, KX3_calledMethod_52, KX3_calledMethod_66, KX3_calledMethod_81, KX3_calledMethod_84, KX3_calledMethod_90, lkC, s1C, s2C, dlC, kyC, Nat.beq, Nat.ble, rcd, rno, rsw, Nat.reduceAdd, Nat.reduceBEq, Nat.reduceDiv, List.drop, List.take, List.reverse, List.reverseAux, Int.toNat, Option.toList, List.append, List.cons_append, List.nil_append, zg62, zg72, zg121, zg210, zg304]
      have c52 : (Int32.ofInt 11).toInt = 11 := by decide
      refine ⟨fun h53 => ?_, fun h53 => ?_⟩
      · have g53 := ltI (x := (Int32.ofInt 11)) (y := i) h53
        refine hB _ _ _ _ _ (fun m54 hm54 => ?_)
        dsimp only [ucgo, ucwp, ucsC, uqC, uoC, ctC, rfd, KX3_calledMethod, KX3_calledMethod_0, KX3_calledMethod_19, KX3_calledMethod_26, KX3_calledMethod_52, KX3_calledMethod_66, KX3_calledMethod_81, KX3_calledMethod_84, KX3_calledMethod_90, lkC, s1C, s2C, dlC, kyC, Nat.beq, Nat.ble, rcd, rno, rsw, Nat.reduceAdd, Nat.reduceBEq, Nat.reduceDiv, List.drop, List.take, List.reverse, List.reverseAux, Int.toNat, Option.toList, List.append, List.cons_append, List.nil_append, zg62, zg72, zg121, zg210, zg304]
        have c55 : (Int32.ofInt (-1)).toInt = -1 := by decide
        try dsimp only [Qz_calledMethod]
        refine ⟨_, rfl, ?_, rfl⟩
        rw [h5, show 12 - i.toInt.toNat = 0 by omega]
        show _ = (-1 : Int)
        omega
      · have g53 := nltI (x := (Int32.ofInt 11)) (y := i) h53
        refine hB _ _ _ _ _ (fun m56 hm56 => ?_)
        dsimp only [ucgo, ucwp, ucsC, uqC, uoC, ctC, rfd, KX3_calledMethod, KX3_calledMethod_0, KX3_calledMethod_19, KX3_calledMethod_26, KX3_calledMethod_52, KX3_calledMethod_66, KX3_calledMethod_81, KX3_calledMethod_84, KX3_calledMethod_90, lkC, s1C, s2C, dlC, kyC, Nat.beq, Nat.ble, rcd, rno, rsw, Nat.reduceAdd, Nat.reduceBEq, Nat.reduceDiv, List.drop, List.take, List.reverse, List.reverseAux, Int.toNat, Option.toList, List.append, List.cons_append, List.nil_append, zg62, zg72, zg121, zg210, zg304]
        have c57 : (Int32.ofInt 10).toInt = 10 := by decide
        have u58 := tiC i
        have a58 : (i + (Int32.ofInt 10)).toInt = i.toInt + 10 := addC (by omega) (by omega) (by omega)
        have c59 : (Int32.ofInt 12).toInt = 12 := by decide
        have ir60 : ((i + (Int32.ofInt 10)) - (i + (Int32.ofInt 10)) / (Int32.ofInt 12) * (Int32.ofInt 12)).toInt = ((i.toInt + 10)) % 12 := (rem12 (x := (i + (Int32.ofInt 10))) (by omega) (by omega)).trans (congrArg (fun q => q % 12) (by omega))
        intro a61 e61 ob61
        cases e61
        rw [hP.1]
        try dsimp only
        intro w62 τ62 o62 q62
        obtain ⟨rfl, qq62⟩ := q62 (N, E, A, B, V, z, ms, nm) ⟨_, rfl, hM⟩
        rcases qq62 with ⟨m9, hi62, hm62_, rfl⟩ | ⟨hm62_, rfl⟩
        · obtain ⟨mo, hmo⟩ : ∃ o, MoE E (((i + (Int32.ofInt 10)) - (i + (Int32.ofInt 10)) / (Int32.ofInt 12) * (Int32.ofInt 12)) : Int32).toInt.toNat = o := ⟨_, rfl⟩
          have hmk : MkC σ m9 mo := by rw [← hmo]; exact (hM.2.2.2.1 _ _ hm62_).2
          rw [hmo]
          have hi9 : ms (odT i.toInt.toNat) = some m9 := by rw [← show (((i + (Int32.ofInt 10)) - (i + (Int32.ofInt 10)) / (Int32.ofInt 12) * (Int32.ofInt 12)) : Int32).toInt.toNat = odT i.toInt.toNat by unfold odT; omega]; exact hm62_
          try dsimp only [Option.toList, List.cons_append, List.nil_append, s1C, s2C, dlC, kyC, Nat.beq, lkC, rcd, rno, rsw]
          refine ⟨fun h63 => ?_, fun b63 h63 => ?_⟩
          · cases h63
          · cases h63
            refine hB _ _ _ _ _ (fun m64 hm64 => ?_)
            dsimp only [ucgo, ucwp, ucsC, uqC, uoC, ctC, rfd, KX3_calledMethod, KX3_calledMethod_0, KX3_calledMethod_19, KX3_calledMethod_26, KX3_calledMethod_52, KX3_calledMethod_66, KX3_calledMethod_81, KX3_calledMethod_84, KX3_calledMethod_90, lkC, s1C, s2C, dlC, kyC, Nat.beq, Nat.ble, rcd, rno, rsw, Nat.reduceAdd, Nat.reduceBEq, Nat.reduceDiv, List.drop, List.take, List.reverse, List.reverseAux, Int.toNat, Option.toList, List.append, List.cons_append, List.nil_append, zg62, zg72, zg121, zg210, zg304]
            intro a65 e65 ob65
            cases e65
            intro w66 τ66 o66 q66
            obtain ⟨r66, rfl, hr66, rfl⟩ := q66 (N, E, A, B, V, z, m9, as) ⟨_, _, _, _, rfl, hmk, ha, by omega⟩
            try dsimp only [Option.toList, List.cons_append, List.nil_append, s1C, s2C, dlC, kyC, Nat.beq, lkC, rcd, rno, rsw]
            refine ⟨fun h67 => ?_, fun h67 => ?_⟩
            · have g67 := (eqI (x := r66) (y := 0) h67 : (r66 : Int32).toInt = (0 : Int32).toInt)
              have z0_ : (0 : Int32).toInt = 0 := rfl
              refine hB _ _ _ _ _ (fun m68 hm68 => ?_)
              dsimp only [ucgo, ucwp, ucsC, uqC, uoC, ctC, rfd, KX3_calledMethod, KX3_calledMethod_0, KX3_calledMethod_19, KX3_calledMethod_26, KX3_calledMethod_52, KX3_calledMethod_66, KX3_calledMethod_81, KX3_calledMethod_84, KX3_calledMethod_90, lkC, s1C, s2C, dlC, kyC, Nat.beq, Nat.ble, rcd, rno, rsw, Nat.reduceAdd, Nat.reduceBEq, Nat.reduceDiv, List.drop, List.take, List.reverse, List.reverseAux, Int.toNat, Option.toList, List.append, List.cons_append, List.nil_append, zg62, zg72, zg121, zg210, zg304]
              have c69 : (Int32.ofInt 1).toInt = 1 := by decide
              have u70 := tiC i
              have a70 : (i + (Int32.ofInt 1)).toInt = i.toInt + 1 := addC (by omega) (by omega) (by omega)
              refine hW _ 19 [(0, .inr (.inr (some (E 3)))), (1, .inr (.inr (some p1))), (2, .inl p2), (3, .inr (.inl k9)), (5, .inl (i + (Int32.ofInt 1)))] _ _ _ (List.forall_mem_cons.2 ⟨List.Mem.tail _ (List.Mem.tail _ (List.Mem.tail _ (List.Mem.head _))), List.forall_mem_cons.2 ⟨List.Mem.tail _ (List.Mem.tail _ (List.Mem.tail _ (List.Mem.tail _ (List.Mem.head _)))), List.forall_mem_cons.2 ⟨List.Mem.tail _ (List.Mem.tail _ (List.Mem.tail _ (List.Mem.tail _ (List.Mem.tail _ (List.Mem.head _))))), List.forall_mem_cons.2 ⟨List.Mem.tail _ (List.Mem.tail _ (List.Mem.tail _ (List.Mem.tail _ (List.Mem.tail _ (List.Mem.tail _ (List.Mem.head _)))))), List.forall_mem_cons.2 ⟨List.Mem.head _, fun _ h => absurd h List.not_mem_nil⟩⟩⟩⟩⟩) (ih _ (by omega) (i + (Int32.ofInt 1)) k9 (by omega) (by omega) hk9 (h5.trans ?_))
              rw [show ((i + (Int32.ofInt 1)) : Int32).toInt.toNat = i.toInt.toNat + 1 by omega, bs_s (by omega)]
              refine if_neg (fun q9 => ?_)
              rcases hr66 with q8 | q8
              · omega
              · rw [hk9] at q8; exact q8.2 ((ta_s hi9).mp q9.1)
            · have g67 := (neI (x := r66) (y := 0) h67 : ¬ (r66 : Int32).toInt = (0 : Int32).toInt)
              have z0_ : (0 : Int32).toInt = 0 := rfl
              refine hB _ _ _ _ _ (fun m71 hm71 => ?_)
              dsimp only [ucgo, ucwp, ucsC, uqC, uoC, ctC, rfd, KX3_calledMethod, KX3_calledMethod_0, KX3_calledMethod_19, KX3_calledMethod_26, KX3_calledMethod_52, KX3_calledMethod_66, KX3_calledMethod_81, KX3_calledMethod_84, KX3_calledMethod_90, lkC, s1C, s2C, dlC, kyC, Nat.beq, Nat.ble, rcd, rno, rsw, Nat.reduceAdd, Nat.reduceBEq, Nat.reduceDiv, List.drop, List.take, List.reverse, List.reverseAux, Int.toNat, Option.toList, List.append, List.cons_append, List.nil_append, zg62, zg72, zg121, zg210, zg304]
              intro a72 e72 ob72
              cases e72
              intro w73 τ73 o73 q73
              have htk : m9.1 = k9.toInt ∧ tkT (agO σ as) m9.2.2 = true := by
                rcases hr66 with q8 | q8
                · exact q8.2
                · omega
              obtain ⟨r73, rfl, hr73, rfl⟩ := q73 (N, E, A, B, V, z, ms, nm, as, m9) ⟨_, _, _, _, rfl, hP, hM, hmk, ha, by omega, htk.2⟩
              try dsimp only [Option.toList, List.cons_append, List.nil_append, s1C, s2C, dlC, kyC, Nat.beq, lkC, rcd, rno, rsw]
              refine ⟨fun h74 => ?_, fun h74 => ?_⟩
              · have g74 := (eqI (x := r73) (y := 0) h74 : (r73 : Int32).toInt = (0 : Int32).toInt)
                have z0_ : (0 : Int32).toInt = 0 := rfl
                refine hB _ _ _ _ _ (fun m75 hm75 => ?_)
                dsimp only [ucgo, ucwp, ucsC, uqC, uoC, ctC, rfd, KX3_calledMethod, KX3_calledMethod_0, KX3_calledMethod_19, KX3_calledMethod_26, KX3_calledMethod_52, KX3_calledMethod_66, KX3_calledMethod_81, KX3_calledMethod_84, KX3_calledMethod_90, lkC, s1C, s2C, dlC, kyC, Nat.beq, Nat.ble, rcd, rno, rsw, Nat.reduceAdd, Nat.reduceBEq, Nat.reduceDiv, List.drop, List.take, List.reverse, List.reverseAux, Int.toNat, Option.toList, List.append, List.cons_append, List.nil_append, zg62, zg72, zg121, zg210, zg304]
                have c76 : (Int32.ofInt 1).toInt = 1 := by decide
                have u77 := tiC i
                have a77 : (i + (Int32.ofInt 1)).toInt = i.toInt + 1 := addC (by omega) (by omega) (by omega)
                refine hW _ 19 [(0, .inr (.inr (some (E 3)))), (1, .inr (.inr (some p1))), (2, .inl p2), (3, .inr (.inl k9)), (5, .inl (i + (Int32.ofInt 1)))] _ _ _ (List.forall_mem_cons.2 ⟨List.Mem.tail _ (List.Mem.tail _ (List.Mem.tail _ (List.Mem.head _))), List.forall_mem_cons.2 ⟨List.Mem.tail _ (List.Mem.tail _ (List.Mem.tail _ (List.Mem.tail _ (List.Mem.head _)))), List.forall_mem_cons.2 ⟨List.Mem.tail _ (List.Mem.tail _ (List.Mem.tail _ (List.Mem.tail _ (List.Mem.tail _ (List.Mem.head _))))), List.forall_mem_cons.2 ⟨List.Mem.tail _ (List.Mem.tail _ (List.Mem.tail _ (List.Mem.tail _ (List.Mem.tail _ (List.Mem.tail _ (List.Mem.head _)))))), List.forall_mem_cons.2 ⟨List.Mem.head _, fun _ h => absurd h List.not_mem_nil⟩⟩⟩⟩⟩) (ih _ (by omega) (i + (Int32.ofInt 1)) k9 (by omega) (by omega) hk9 (h5.trans ?_))
                rw [show ((i + (Int32.ofInt 1)) : Int32).toInt.toNat = i.toInt.toNat + 1 by omega, bs_s (by omega)]
                refine if_neg (fun q9 => ?_)
                rcases hr73 with q8 | q8
                · omega
                · refine q8.2 ?_
                  have q7 := q9.2
                  rw [ps_s hi9] at q7
                  rw [hk9]; exact q7
              · have g74 := (neI (x := r73) (y := 0) h74 : ¬ (r73 : Int32).toInt = (0 : Int32).toInt)
                have z0_ : (0 : Int32).toInt = 0 := rfl
                refine hB _ _ _ _ _ (fun m78 hm78 => ?_)
                dsimp only [ucgo, ucwp, ucsC, uqC, uoC, ctC, rfd, KX3_calledMethod, KX3_calledMethod_0, KX3_calledMethod_19, KX3_calledMethod_26, KX3_calledMethod_52, KX3_calledMethod_66, KX3_calledMethod_81, KX3_calledMethod_84, KX3_calledMethod_90, lkC, s1C, s2C, dlC, kyC, Nat.beq, Nat.ble, rcd, rno, rsw, Nat.reduceAdd, Nat.reduceBEq, Nat.reduceDiv, List.drop, List.take, List.reverse, List.reverseAux, Int.toNat, Option.toList, List.append, List.cons_append, List.nil_append, zg62, zg72, zg121, zg210, zg304]
                try dsimp only [Qz_calledMethod]
                refine ⟨_, rfl, ?_, rfl⟩
                rw [h5, bs_s (by omega), if_pos ⟨(ta_s hi9).mpr (by rw [← hk9]; exact htk), by rw [ps_s hi9, ← hk9]; rcases hr73 with q8 | q8; exact q8.2; exact absurd q8.1 (by omega)⟩]
                unfold odT
                omega
        · have hi9 : ms (odT i.toInt.toNat) = none := by rw [← show (((i + (Int32.ofInt 10)) - (i + (Int32.ofInt 10)) / (Int32.ofInt 12) * (Int32.ofInt 12)) : Int32).toInt.toNat = odT i.toInt.toNat by unfold odT; omega]; exact hm62_ (by omega)
          try dsimp only [Option.toList, List.cons_append, List.nil_append, s1C, s2C, dlC, kyC, Nat.beq, lkC, rcd, rno, rsw]
          refine ⟨fun h79 => ?_, fun b79 h79 => ?_⟩
          · skip
            refine hB _ _ _ _ _ (fun m80 hm80 => ?_)
            dsimp only [ucgo, ucwp, ucsC, uqC, uoC, ctC, rfd, KX3_calledMethod, KX3_calledMethod_0, KX3_calledMethod_19, KX3_calledMethod_26, KX3_calledMethod_52, KX3_calledMethod_66, KX3_calledMethod_81, KX3_calledMethod_84, KX3_calledMethod_90, lkC, s1C, s2C, dlC, kyC, Nat.beq, Nat.ble, rcd, rno, rsw, Nat.reduceAdd, Nat.reduceBEq, Nat.reduceDiv, List.drop, List.take, List.reverse, List.reverseAux, Int.toNat, Option.toList, List.append, List.cons_append, List.nil_append, zg62, zg72, zg121, zg210, zg304]
            have c81 : (Int32.ofInt 1).toInt = 1 := by decide
            have u82 := tiC i
            have a82 : (i + (Int32.ofInt 1)).toInt = i.toInt + 1 := addC (by omega) (by omega) (by omega)
            refine hW _ 19 [(0, .inr (.inr (some (E 3)))), (1, .inr (.inr (some p1))), (2, .inl p2), (3, .inr (.inl k9)), (5, .inl (i + (Int32.ofInt 1)))] _ _ _ (List.forall_mem_cons.2 ⟨List.Mem.tail _ (List.Mem.tail _ (List.Mem.tail _ (List.Mem.head _))), List.forall_mem_cons.2 ⟨List.Mem.tail _ (List.Mem.tail _ (List.Mem.tail _ (List.Mem.tail _ (List.Mem.head _)))), List.forall_mem_cons.2 ⟨List.Mem.tail _ (List.Mem.tail _ (List.Mem.tail _ (List.Mem.tail _ (List.Mem.tail _ (List.Mem.head _))))), List.forall_mem_cons.2 ⟨List.Mem.tail _ (List.Mem.tail _ (List.Mem.tail _ (List.Mem.tail _ (List.Mem.tail _ (List.Mem.tail _ (List.Mem.head _)))))), List.forall_mem_cons.2 ⟨List.Mem.head _, fun _ h => absurd h List.not_mem_nil⟩⟩⟩⟩⟩) (ih _ (by omega) (i + (Int32.ofInt 1)) k9 (by omega) (by omega) hk9 (h5.trans ?_))
            rw [show ((i + (Int32.ofInt 1)) : Int32).toInt.toNat = i.toInt.toNat + 1 by omega, bs_s (by omega)]
            refine if_neg (fun q9 => ?_)
            exact ta_n hi9 q9.1
          · cases h79
  change K n_ 0 [(0, .inr (.inr (some (E 3)))), (1, .inr (.inr (some p1))), (2, .inl p2)] [] σ
  refine hB _ _ _ _ _ (fun m83 hm83 => ?_)
  dsimp only [ucgo, ucwp, ucsC, uqC, uoC, ctC, rfd, KX3_calledMethod, KX3_calledMethod_0, KX3_calledMethod_19, KX3_calledMethod_26, KX3_calledMethod_52, KX3_calledMethod_66, KX3_calledMethod_81, KX3_calledMethod_84, KX3_calledMethod_90, lkC, s1C, s2C, dlC, kyC, Nat.beq, Nat.ble, rcd, rno, rsw, Nat.reduceAdd, Nat.reduceBEq, Nat.reduceDiv, List.drop, List.take, List.reverse, List.reverseAux, Int.toNat, Option.toList, List.append, List.cons_append, List.nil_append, zg62, zg72, zg121, zg210, zg304]
  intro a84 e84 ob84
  cases e84
  intro a85 e85 ob85
  obtain rfl : E 1 = a85 := Option.some.inj (hP.1.symm.trans e85)
  intro a86 e86 ob86
  obtain rfl : E 2 = a86 := Option.some.inj (hT.1.symm.trans e86)
  intro a87 e87 ob87
  cases e87
  intro a88 e88 t88 v88
  obtain rfl : E 304 = a88 := Option.some.inj (hT.2.2.symm.trans e88)
  have c89 : (Int32.ofInt 0).toInt = 0 := by decide
  exact hW _ 19 [(0, .inr (.inr (some (E 3)))), (1, .inr (.inr (some p1))), (2, .inl p2), (3, .inr (.inl (eLC σ (E 304) (fIC σ p1 62).toNatClampNeg))), (5, .inl (Int32.ofInt 0))] _ _ _ (List.forall_mem_cons.2 ⟨List.Mem.tail _ (List.Mem.tail _ (List.Mem.head _)), List.forall_mem_cons.2 ⟨List.Mem.tail _ (List.Mem.tail _ (List.Mem.tail _ (List.Mem.head _))), List.forall_mem_cons.2 ⟨List.Mem.tail _ (List.Mem.tail _ (List.Mem.tail _ (List.Mem.tail _ (List.Mem.head _)))), List.forall_mem_cons.2 ⟨List.Mem.tail _ (List.Mem.head _), List.forall_mem_cons.2 ⟨List.Mem.head _, fun _ h => absurd h List.not_mem_nil⟩⟩⟩⟩⟩) (L19 _ (Int32.ofInt 0) (eLC σ (E 304) (fIC σ p1 62).toNatClampNeg) (by omega) (by omega) (by rw [← hky, nT_toNat, hf]) (by rw [show ((Int32.ofInt 0) : Int32).toInt.toNat = 0 by omega]))
theorem wz_calledMethod : ∀ (L : Nat) (As : List AvC) (σ : CsC) (w : Option AvC) (τ : CsC), EvF L 77 As σ w τ → Uz_calledMethod As σ w τ := by
  intro L
  cases L with
  | zero => exact fun _ _ _ _ h => h.elim
  | succ L => exact fun As σ w τ h y hy => EvF.us (cs := [119, 115, 78]) (pz_calledMethod y) rfl (List.forall_mem_cons.2 ⟨wz_methodOf L, List.forall_mem_cons.2 ⟨wz_mtakes L, List.forall_mem_cons.2 ⟨wz_isNarrowest L, fun _ h => absurd h List.not_mem_nil⟩⟩⟩) h hy
abbrev Pz_judgeCall : ((Int → Int) × (Nat → Nat) × (Nat → Nat) × (Nat → Nat) × (Nat → Nat) × ZS × CxT × Nat × List Nat × TbT × XrZ × TvT) → CpC := fun y As σ => match y with
  | (N, E, A, B, V, z, C, nm, as, T, x, t) => ∃ (p1 : Nat), As = [.inr (.inr (some (E 3))), .inr (.inr (some p1))] ∧ (PjC E σ) ∧ (fIC σ (E 1) 217 = 0) ∧ (p1 < cnC σ) ∧ (XqC σ x p1) ∧ (TwC σ p1 t) ∧ (x.1.1 = 10) ∧ (MaC E σ C.2.2.2 nm) ∧ (TnC E σ) ∧ ((eLC σ (E 304) x.1.2.2.1.toNat).toInt = C.1 x.1.2.2.1) ∧ (ArC σ (fRC σ p1 72) as) ∧ (agT T x.2.2.2 = agO σ as) ∧ (∀ o ∈ as, ¬ (fIC σ o 68).toInt = -1) ∧ (as.length ≤ 500)
abbrev Qz_judgeCall : ((Int → Int) × (Nat → Nat) × (Nat → Nat) × (Nat → Nat) × (Nat → Nat) × ZS × CxT × Nat × List Nat × TbT × XrZ × TvT) → CqC := fun y As σ w τ => match y, As with
  | (N, E, A, B, V, z, C, nm, as, T, x, t), [_, .inr (.inr (some p1))] => w = none ∧ JcC E σ τ p1 x.1.2.2.1 (xaT C T t x)
  | _, _ => True
abbrev Uz_judgeCall : CqC := fun As σ w τ => ∀ y, Pz_judgeCall y As σ → Qz_judgeCall y As σ w τ
set_option maxHeartbeats 4000000 in
theorem pz_judgeCall (y : (Int → Int) × (Nat → Nat) × (Nat → Nat) × (Nat → Nat) × (Nat → Nat) × ZS × CxT × Nat × List Nat × TbT × XrZ × TvT) : PbC KX3_judgeCall [(77, TrP, EqC 77), (119, TrP, EqC 119), (118, TrP, EqC 118), (52, TrP, EqC 52), (62, TrP, EqC 62)] [(77, Uz_calledMethod), (119, Uz_methodOf), (118, Uz_tell), (52, Uz_isFaulty), (62, Uz_isWanted)] (fun As σ => Pz_judgeCall y As σ ∧ cnC σ ≤ 1000000 ∧ ∃ w τ, uqC quL 76 As σ w τ) (Qz_judgeCall y) := by
  obtain ⟨N, E, A, B, V, z, C, nm, as, T, x, t⟩ := y
  rintro As σ ⟨⟨p1, rfl, hP, he, hlt, hx, ht, hk, hM, hT, hky, ha, hag, hnf, hla⟩, hcn, _, _, hQ⟩ K hB hW n_
  have hxn9 : ¬ (∀ q ∈ agO σ as, ¬ q = 5) → xaT C T t x = none := fun q9 => xa_n hag (fun q8 => q9 q8.1)
  have B10 : ∀ (n : Nat) (τb : CsC) (cn : Int32) (fi : Int32) (e9 : Option Nat), (erC E τb) → (PjC E τb) → (fi.toInt = 0) → (xaT C T t x = none) →  K n 10 [(0, .inr (.inr (some (E 3)))), (1, .inr (.inr (some p1))), (2, .inl cn), (3, .inl fi), (4, .inr (.inr e9))] [] τb := by
    intro n
    induction n using Nat.strongRecOn with
    | _ n ih =>
      intro τb cn fi e9 hbb hPb hfi0 hxn
      refine hB _ _ _ _ _ (fun m51 hm51 => ?_)
      dsimp only [ucgo, ucwp, ucsC, uqC, uoC, ctC, rfd, KX3_judgeCall, KX3_judgeCall_0, KX3_judgeCall_10, KX3_judgeCall_15, KX3_judgeCall_24, KX3_judgeCall_34, KX3_judgeCall_38, KX3_judgeCall_39, KX3_judgeCall_50, KX3_judgeCall_54, KX3_judgeCall_55, KX3_judgeCall_70, KX3_judgeCall_74, KX3_judgeCall_75, KX3_judgeCall_103, KX3_judgeCall_117, lkC, s1C, s2C, dlC, kyC, Nat.beq, Nat.ble, rcd, rno, rsw, Nat.reduceAdd, Nat.reduceBEq, Nat.reduceDiv, List.drop, List.take, List.reverse, List.reverseAux, Int.toNat, Option.toList, List.append, List.cons_append, List.nil_append, zg62, zg67, zg68, zg72, zg75, zg121, zg182, zg210, zg303]
      refine ⟨fun h52 => ?_, fun b52 h52 => ?_⟩
      · skip
        refine hB _ _ _ _ _ (fun m53 hm53 => ?_)
        dsimp only [ucgo, ucwp, ucsC, uqC, uoC, ctC, rfd, KX3_judgeCall, KX3_judgeCall_0, KX3_judgeCall_10, KX3_judgeCall_15, KX3_judgeCall_24, KX3_judgeCall_34, KX3_judgeCall_38, KX3_judgeCall_39, KX3_judgeCall_50, KX3_judgeCall_54, KX3_judgeCall_55, KX3_judgeCall_70, KX3_judgeCall_74, KX3_judgeCall_75, KX3_judgeCall_103, KX3_judgeCall_117, lkC, s1C, s2C, dlC, kyC, Nat.beq, Nat.ble, rcd, rno, rsw, Nat.reduceAdd, Nat.reduceBEq, Nat.reduceDiv, List.drop, List.take, List.reverse, List.reverseAux, Int.toNat, Option.toList, List.append, List.cons_append, List.nil_append, zg62, zg67, zg68, zg72, zg75, zg121, zg182, zg210, zg303]
        refine ⟨fun h54 => ?_, fun h54 => ?_⟩
        · have g54 := (neI (x := fi) (y := 0) h54 : ¬ (fi : Int32).toInt = (0 : Int32).toInt)
          have z0_ : (0 : Int32).toInt = 0 := rfl
          exfalso
          omega
        · have g54 := (eqI (x := fi) (y := 0) h54 : (fi : Int32).toInt = (0 : Int32).toInt)
          have z0_ : (0 : Int32).toInt = 0 := rfl
          refine hB _ _ _ _ _ (fun m55 hm55 => ?_)
          dsimp only [ucgo, ucwp, ucsC, uqC, uoC, ctC, rfd, KX3_judgeCall, KX3_judgeCall_0, KX3_judgeCall_10, KX3_judgeCall_15, KX3_judgeCall_24, KX3_judgeCall_34, KX3_judgeCall_38, KX3_judgeCall_39, KX3_judgeCall_50, KX3_judgeCall_54, KX3_judgeCall_55, KX3_judgeCall_70, KX3_judgeCall_74, KX3_judgeCall_75, KX3_judgeCall_103, KX3_judgeCall_117, lkC, s1C, s2C, dlC, kyC, Nat.beq, Nat.ble, rcd, rno, rsw, Nat.reduceAdd, Nat.reduceBEq, Nat.reduceDiv, List.drop, List.take, List.reverse, List.reverseAux, Int.toNat, Option.toList, List.append, List.cons_append, List.nil_append, zg62, zg67, zg68, zg72, zg75, zg121, zg182, zg210, zg303]
          try dsimp only [Qz_judgeCall]
          exact fun τ9 h9 => ⟨rfl, JcC.we h9 (Or.inl ⟨by exact hxn, hbb⟩)⟩
      · obtain rfl : e9 = some b52 := h52
        refine hB _ _ _ _ _ (fun m56 hm56 => ?_)
        dsimp only [ucgo, ucwp, ucsC, uqC, uoC, ctC, rfd, KX3_judgeCall, KX3_judgeCall_0, KX3_judgeCall_10, KX3_judgeCall_15, KX3_judgeCall_24, KX3_judgeCall_34, KX3_judgeCall_38, KX3_judgeCall_39, KX3_judgeCall_50, KX3_judgeCall_54, KX3_judgeCall_55, KX3_judgeCall_70, KX3_judgeCall_74, KX3_judgeCall_75, KX3_judgeCall_103, KX3_judgeCall_117, lkC, s1C, s2C, dlC, kyC, Nat.beq, Nat.ble, rcd, rno, rsw, Nat.reduceAdd, Nat.reduceBEq, Nat.reduceDiv, List.drop, List.take, List.reverse, List.reverseAux, Int.toNat, Option.toList, List.append, List.cons_append, List.nil_append, zg62, zg67, zg68, zg72, zg75, zg121, zg182, zg210, zg303]
        intro w57 τ57 o57 q57
        obtain ⟨r57, rfl, hr57, rfl⟩ := q57 (N, E, A, B, V, z) ⟨_, rfl⟩
        try dsimp only [Option.toList, List.cons_append, List.nil_append, s1C, s2C, dlC, kyC, Nat.beq, lkC, rcd, rno, rsw]
        refine ⟨fun h58 => ?_, fun h58 => ?_⟩
        · have g58 := (neI (x := r57) (y := 0) h58 : ¬ (r57 : Int32).toInt = (0 : Int32).toInt)
          have z0_ : (0 : Int32).toInt = 0 := rfl
          refine hB _ _ _ _ _ (fun m59 hm59 => ?_)
          dsimp only [ucgo, ucwp, ucsC, uqC, uoC, ctC, rfd, KX3_judgeCall, KX3_judgeCall_0, KX3_judgeCall_10, KX3_judgeCall_15, KX3_judgeCall_24, KX3_judgeCall_34, KX3_judgeCall_38, KX3_judgeCall_39, KX3_judgeCall_50, KX3_judgeCall_54, KX3_judgeCall_55, KX3_judgeCall_70, KX3_judgeCall_74, KX3_judgeCall_75, KX3_judgeCall_103, KX3_judgeCall_117, lkC, s1C, s2C, dlC, kyC, Nat.beq, Nat.ble, rcd, rno, rsw, Nat.reduceAdd, Nat.reduceBEq, Nat.reduceDiv, List.drop, List.take, List.reverse, List.reverseAux, Int.toNat, Option.toList, List.append, List.cons_append, List.nil_append, zg62, zg67, zg68, zg72, zg75, zg121, zg182, zg210, zg303]
          have c60 : (Int32.ofInt 0).toInt = 0 := by decide
          refine hB _ _ _ _ _ (fun m61 hm61 => ?_)
          dsimp only [ucgo, ucwp, ucsC, uqC, uoC, ctC, rfd, KX3_judgeCall, KX3_judgeCall_0, KX3_judgeCall_10, KX3_judgeCall_15, KX3_judgeCall_24, KX3_judgeCall_34, KX3_judgeCall_38, KX3_judgeCall_39, KX3_judgeCall_50, KX3_judgeCall_54, KX3_judgeCall_55, KX3_judgeCall_70, KX3_judgeCall_74, KX3_judgeCall_75, KX3_judgeCall_103, KX3_judgeCall_117, lkC, s1C, s2C, dlC, kyC, Nat.beq, Nat.ble, rcd, rno, rsw, Nat.reduceAdd, Nat.reduceBEq, Nat.reduceDiv, List.drop, List.take, List.reverse, List.reverseAux, Int.toNat, Option.toList, List.append, List.cons_append, List.nil_append, zg62, zg67, zg68, zg72, zg75, zg121, zg182, zg210, zg303]
          have ia62 : (fi &&& (Int32.ofInt 0)).toInt = if 0 = 1 ∧ 0 = 1 then 1 else 0 := and01 (x := fi) (y := (Int32.ofInt 0)) (a := 0) (b := 0) (by omega) (by omega) (by omega) (by omega)
          have ib62 : (fi &&& (Int32.ofInt 0)).toInt = 0 := ia62.trans (by decide)
          have c63 : (Int32.ofInt 1).toInt = 1 := by decide
          intro a65 e65 ob65
          cases e65
          exact hW _ 10 [(0, .inr (.inr (some (E 3)))), (1, .inr (.inr (some p1))), (2, .inl (cn + (Int32.ofInt 1))), (3, .inl (fi &&& (Int32.ofInt 0))), (4, .inr (.inr (fRC τb b52 75)))] _ _ _ (List.forall_mem_cons.2 ⟨List.Mem.tail _ (List.Mem.tail _ (List.Mem.tail _ (List.Mem.head _))), List.forall_mem_cons.2 ⟨List.Mem.tail _ (List.Mem.tail _ (List.Mem.tail _ (List.Mem.tail _ (List.Mem.head _)))), List.forall_mem_cons.2 ⟨List.Mem.tail _ (List.Mem.head _), List.forall_mem_cons.2 ⟨List.Mem.tail _ (List.Mem.tail _ (List.Mem.head _)), List.forall_mem_cons.2 ⟨List.Mem.head _, fun _ h => absurd h List.not_mem_nil⟩⟩⟩⟩⟩) (ih _ (by omega) τb (cn + (Int32.ofInt 1)) (fi &&& (Int32.ofInt 0)) (fRC τb b52 75) hbb hPb (by omega) hxn)
        · have g58 := (eqI (x := r57) (y := 0) h58 : (r57 : Int32).toInt = (0 : Int32).toInt)
          have z0_ : (0 : Int32).toInt = 0 := rfl
          refine hB _ _ _ _ _ (fun m66 hm66 => ?_)
          dsimp only [ucgo, ucwp, ucsC, uqC, uoC, ctC, rfd, KX3_judgeCall, KX3_judgeCall_0, KX3_judgeCall_10, KX3_judgeCall_15, KX3_judgeCall_24, KX3_judgeCall_34, KX3_judgeCall_38, KX3_judgeCall_39, KX3_judgeCall_50, KX3_judgeCall_54, KX3_judgeCall_55, KX3_judgeCall_70, KX3_judgeCall_74, KX3_judgeCall_75, KX3_judgeCall_103, KX3_judgeCall_117, lkC, s1C, s2C, dlC, kyC, Nat.beq, Nat.ble, rcd, rno, rsw, Nat.reduceAdd, Nat.reduceBEq, Nat.reduceDiv, List.drop, List.take, List.reverse, List.reverseAux, Int.toNat, Option.toList, List.append, List.cons_append, List.nil_append, zg62, zg67, zg68, zg72, zg75, zg121, zg182, zg210, zg303]
          intro a67 e67 ob67
          cases e67
          have c68 : (Int32.ofInt 5).toInt = 5 := by decide
          refine ⟨fun h69 => ?_, fun h69 => ?_⟩
          · have g69 := (eqI (x := (fIC τb b52 68)) (y := (Int32.ofInt 5)) h69 : ((fIC τb b52 68) : Int32).toInt = ((Int32.ofInt 5) : Int32).toInt)
            refine hB _ _ _ _ _ (fun m70 hm70 => ?_)
            dsimp only [ucgo, ucwp, ucsC, uqC, uoC, ctC, rfd, KX3_judgeCall, KX3_judgeCall_0, KX3_judgeCall_10, KX3_judgeCall_15, KX3_judgeCall_24, KX3_judgeCall_34, KX3_judgeCall_38, KX3_judgeCall_39, KX3_judgeCall_50, KX3_judgeCall_54, KX3_judgeCall_55, KX3_judgeCall_70, KX3_judgeCall_74, KX3_judgeCall_75, KX3_judgeCall_103, KX3_judgeCall_117, lkC, s1C, s2C, dlC, kyC, Nat.beq, Nat.ble, rcd, rno, rsw, Nat.reduceAdd, Nat.reduceBEq, Nat.reduceDiv, List.drop, List.take, List.reverse, List.reverseAux, Int.toNat, Option.toList, List.append, List.cons_append, List.nil_append, zg62, zg67, zg68, zg72, zg75, zg121, zg182, zg210, zg303]
            have c71 : (Int32.ofInt 0).toInt = 0 := by decide
            refine hB _ _ _ _ _ (fun m72 hm72 => ?_)
            dsimp only [ucgo, ucwp, ucsC, uqC, uoC, ctC, rfd, KX3_judgeCall, KX3_judgeCall_0, KX3_judgeCall_10, KX3_judgeCall_15, KX3_judgeCall_24, KX3_judgeCall_34, KX3_judgeCall_38, KX3_judgeCall_39, KX3_judgeCall_50, KX3_judgeCall_54, KX3_judgeCall_55, KX3_judgeCall_70, KX3_judgeCall_74, KX3_judgeCall_75, KX3_judgeCall_103, KX3_judgeCall_117, lkC, s1C, s2C, dlC, kyC, Nat.beq, Nat.ble, rcd, rno, rsw, Nat.reduceAdd, Nat.reduceBEq, Nat.reduceDiv, List.drop, List.take, List.reverse, List.reverseAux, Int.toNat, Option.toList, List.append, List.cons_append, List.nil_append, zg62, zg67, zg68, zg72, zg75, zg121, zg182, zg210, zg303]
            intro a73 e73 ob73
            cases e73
            intro w74 τ74 o74 q74
            have hb74 : erC E τ74 := o74.1.2.2.2 rfl (E 1) hPb.2.1 hbb
            have hP74 : PjC E τ74 := hPb.fr o74.2 rfl rfl
            obtain ⟨rfl, -⟩ := q74 (N, E, A, B, V, z) ⟨_, _, rfl, hPb⟩
            try dsimp only [Option.toList, List.cons_append, List.nil_append, s1C, s2C, dlC, kyC, Nat.beq, lkC, rcd, rno, rsw]
            refine ⟨fun h75 => ?_, fun h75 => ?_⟩
            · have g75 := (eqI (x := (Int32.ofInt 0)) (y := 0) h75 : ((Int32.ofInt 0) : Int32).toInt = (0 : Int32).toInt)
              have z0_ : (0 : Int32).toInt = 0 := rfl
              refine hB _ _ _ _ _ (fun m76 hm76 => ?_)
              dsimp only [ucgo, ucwp, ucsC, uqC, uoC, ctC, rfd, KX3_judgeCall, KX3_judgeCall_0, KX3_judgeCall_10, KX3_judgeCall_15, KX3_judgeCall_24, KX3_judgeCall_34, KX3_judgeCall_38, KX3_judgeCall_39, KX3_judgeCall_50, KX3_judgeCall_54, KX3_judgeCall_55, KX3_judgeCall_70, KX3_judgeCall_74, KX3_judgeCall_75, KX3_judgeCall_103, KX3_judgeCall_117, lkC, s1C, s2C, dlC, kyC, Nat.beq, Nat.ble, rcd, rno, rsw, Nat.reduceAdd, Nat.reduceBEq, Nat.reduceDiv, List.drop, List.take, List.reverse, List.reverseAux, Int.toNat, Option.toList, List.append, List.cons_append, List.nil_append, zg62, zg67, zg68, zg72, zg75, zg121, zg182, zg210, zg303]
              have c77 : (Int32.ofInt 0).toInt = 0 := by decide
              refine hB _ _ _ _ _ (fun m78 hm78 => ?_)
              dsimp only [ucgo, ucwp, ucsC, uqC, uoC, ctC, rfd, KX3_judgeCall, KX3_judgeCall_0, KX3_judgeCall_10, KX3_judgeCall_15, KX3_judgeCall_24, KX3_judgeCall_34, KX3_judgeCall_38, KX3_judgeCall_39, KX3_judgeCall_50, KX3_judgeCall_54, KX3_judgeCall_55, KX3_judgeCall_70, KX3_judgeCall_74, KX3_judgeCall_75, KX3_judgeCall_103, KX3_judgeCall_117, lkC, s1C, s2C, dlC, kyC, Nat.beq, Nat.ble, rcd, rno, rsw, Nat.reduceAdd, Nat.reduceBEq, Nat.reduceDiv, List.drop, List.take, List.reverse, List.reverseAux, Int.toNat, Option.toList, List.append, List.cons_append, List.nil_append, zg62, zg67, zg68, zg72, zg75, zg121, zg182, zg210, zg303]
              have ia79 : (fi &&& (Int32.ofInt 0)).toInt = if 0 = 1 ∧ 0 = 1 then 1 else 0 := and01 (x := fi) (y := (Int32.ofInt 0)) (a := 0) (b := 0) (by omega) (by omega) (by omega) (by omega)
              have ib79 : (fi &&& (Int32.ofInt 0)).toInt = 0 := ia79.trans (by decide)
              have c80 : (Int32.ofInt 1).toInt = 1 := by decide
              intro a82 e82 ob82
              cases e82
              exact hW _ 10 [(0, .inr (.inr (some (E 3)))), (1, .inr (.inr (some p1))), (2, .inl (cn + (Int32.ofInt 1))), (3, .inl (fi &&& (Int32.ofInt 0))), (4, .inr (.inr (fRC τ74 b52 75)))] _ _ _ (List.forall_mem_cons.2 ⟨List.Mem.tail _ (List.Mem.tail _ (List.Mem.tail _ (List.Mem.head _))), List.forall_mem_cons.2 ⟨List.Mem.tail _ (List.Mem.tail _ (List.Mem.tail _ (List.Mem.tail _ (List.Mem.head _)))), List.forall_mem_cons.2 ⟨List.Mem.tail _ (List.Mem.head _), List.forall_mem_cons.2 ⟨List.Mem.tail _ (List.Mem.tail _ (List.Mem.head _)), List.forall_mem_cons.2 ⟨List.Mem.head _, fun _ h => absurd h List.not_mem_nil⟩⟩⟩⟩⟩) (ih _ (by omega) τ74 (cn + (Int32.ofInt 1)) (fi &&& (Int32.ofInt 0)) (fRC τ74 b52 75) hb74 hP74 (by omega) hxn)
            · have g75 := (neI (x := (Int32.ofInt 0)) (y := 0) h75 : ¬ ((Int32.ofInt 0) : Int32).toInt = (0 : Int32).toInt)
              have z0_ : (0 : Int32).toInt = 0 := rfl
              exfalso
              omega
          · have g69 := (neI (x := (fIC τb b52 68)) (y := (Int32.ofInt 5)) h69 : ¬ ((fIC τb b52 68) : Int32).toInt = ((Int32.ofInt 5) : Int32).toInt)
            refine hB _ _ _ _ _ (fun m83 hm83 => ?_)
            dsimp only [ucgo, ucwp, ucsC, uqC, uoC, ctC, rfd, KX3_judgeCall, KX3_judgeCall_0, KX3_judgeCall_10, KX3_judgeCall_15, KX3_judgeCall_24, KX3_judgeCall_34, KX3_judgeCall_38, KX3_judgeCall_39, KX3_judgeCall_50, KX3_judgeCall_54, KX3_judgeCall_55, KX3_judgeCall_70, KX3_judgeCall_74, KX3_judgeCall_75, KX3_judgeCall_103, KX3_judgeCall_117, lkC, s1C, s2C, dlC, kyC, Nat.beq, Nat.ble, rcd, rno, rsw, Nat.reduceAdd, Nat.reduceBEq, Nat.reduceDiv, List.drop, List.take, List.reverse, List.reverseAux, Int.toNat, Option.toList, List.append, List.cons_append, List.nil_append, zg62, zg67, zg68, zg72, zg75, zg121, zg182, zg210, zg303]
            have c84 : (Int32.ofInt 1).toInt = 1 := by decide
            refine hB _ _ _ _ _ (fun m85 hm85 => ?_)
            dsimp only [ucgo, ucwp, ucsC, uqC, uoC, ctC, rfd, KX3_judgeCall, KX3_judgeCall_0, KX3_judgeCall_10, KX3_judgeCall_15, KX3_judgeCall_24, KX3_judgeCall_34, KX3_judgeCall_38, KX3_judgeCall_39, KX3_judgeCall_50, KX3_judgeCall_54, KX3_judgeCall_55, KX3_judgeCall_70, KX3_judgeCall_74, KX3_judgeCall_75, KX3_judgeCall_103, KX3_judgeCall_117, lkC, s1C, s2C, dlC, kyC, Nat.beq, Nat.ble, rcd, rno, rsw, Nat.reduceAdd, Nat.reduceBEq, Nat.reduceDiv, List.drop, List.take, List.reverse, List.reverseAux, Int.toNat, Option.toList, List.append, List.cons_append, List.nil_append, zg62, zg67, zg68, zg72, zg75, zg121, zg182, zg210, zg303]
            intro a86 e86 ob86
            cases e86
            intro w87 τ87 o87 q87
            have hb87 : erC E τ87 := o87.1.2.2.2 rfl (E 1) hPb.2.1 hbb
            have hP87 : PjC E τ87 := hPb.fr o87.2 rfl rfl
            obtain ⟨rfl, -⟩ := q87 (N, E, A, B, V, z) ⟨_, _, rfl, hPb⟩
            try dsimp only [Option.toList, List.cons_append, List.nil_append, s1C, s2C, dlC, kyC, Nat.beq, lkC, rcd, rno, rsw]
            refine ⟨fun h88 => ?_, fun h88 => ?_⟩
            · have g88 := (eqI (x := (Int32.ofInt 1)) (y := 0) h88 : ((Int32.ofInt 1) : Int32).toInt = (0 : Int32).toInt)
              have z0_ : (0 : Int32).toInt = 0 := rfl
              exfalso
              omega
            · have g88 := (neI (x := (Int32.ofInt 1)) (y := 0) h88 : ¬ ((Int32.ofInt 1) : Int32).toInt = (0 : Int32).toInt)
              have z0_ : (0 : Int32).toInt = 0 := rfl
              refine hB _ _ _ _ _ (fun m89 hm89 => ?_)
              dsimp only [ucgo, ucwp, ucsC, uqC, uoC, ctC, rfd, KX3_judgeCall, KX3_judgeCall_0, KX3_judgeCall_10, KX3_judgeCall_15, KX3_judgeCall_24, KX3_judgeCall_34, KX3_judgeCall_38, KX3_judgeCall_39, KX3_judgeCall_50, KX3_judgeCall_54, KX3_judgeCall_55, KX3_judgeCall_70, KX3_judgeCall_74, KX3_judgeCall_75, KX3_judgeCall_103, KX3_judgeCall_117, lkC, s1C, s2C, dlC, kyC, Nat.beq, Nat.ble, rcd, rno, rsw, Nat.reduceAdd, Nat.reduceBEq, Nat.reduceDiv, List.drop, List.take, List.reverse, List.reverseAux, Int.toNat, Option.toList, List.append, List.cons_append, List.nil_append, zg62, zg67, zg68, zg72, zg75, zg121, zg182, zg210, zg303]
              have c90 : (Int32.ofInt 1).toInt = 1 := by decide
              refine hB _ _ _ _ _ (fun m91 hm91 => ?_)
              dsimp only [ucgo, ucwp, ucsC, uqC, uoC, ctC, rfd, KX3_judgeCall, KX3_judgeCall_0, KX3_judgeCall_10, KX3_judgeCall_15, KX3_judgeCall_24, KX3_judgeCall_34, KX3_judgeCall_38, KX3_judgeCall_39, KX3_judgeCall_50, KX3_judgeCall_54, KX3_judgeCall_55, KX3_judgeCall_70, KX3_judgeCall_74, KX3_judgeCall_75, KX3_judgeCall_103, KX3_judgeCall_117, lkC, s1C, s2C, dlC, kyC, Nat.beq, Nat.ble, rcd, rno, rsw, Nat.reduceAdd, Nat.reduceBEq, Nat.reduceDiv, List.drop, List.take, List.reverse, List.reverseAux, Int.toNat, Option.toList, List.append, List.cons_append, List.nil_append, zg62, zg67, zg68, zg72, zg75, zg121, zg182, zg210, zg303]
              have ia92 : (fi &&& (Int32.ofInt 1)).toInt = if 0 = 1 ∧ 1 = 1 then 1 else 0 := and01 (x := fi) (y := (Int32.ofInt 1)) (a := 0) (b := 1) (by omega) (by omega) (by omega) (by omega)
              have ib92 : (fi &&& (Int32.ofInt 1)).toInt = 0 := ia92.trans (by decide)
              have c93 : (Int32.ofInt 1).toInt = 1 := by decide
              intro a95 e95 ob95
              cases e95
              exact hW _ 10 [(0, .inr (.inr (some (E 3)))), (1, .inr (.inr (some p1))), (2, .inl (cn + (Int32.ofInt 1))), (3, .inl (fi &&& (Int32.ofInt 1))), (4, .inr (.inr (fRC τ87 b52 75)))] _ _ _ (List.forall_mem_cons.2 ⟨List.Mem.tail _ (List.Mem.tail _ (List.Mem.tail _ (List.Mem.head _))), List.forall_mem_cons.2 ⟨List.Mem.tail _ (List.Mem.tail _ (List.Mem.tail _ (List.Mem.tail _ (List.Mem.head _)))), List.forall_mem_cons.2 ⟨List.Mem.tail _ (List.Mem.head _), List.forall_mem_cons.2 ⟨List.Mem.tail _ (List.Mem.tail _ (List.Mem.head _)), List.forall_mem_cons.2 ⟨List.Mem.head _, fun _ h => absurd h List.not_mem_nil⟩⟩⟩⟩⟩) (ih _ (by omega) τ87 (cn + (Int32.ofInt 1)) (fi &&& (Int32.ofInt 1)) (fRC τ87 b52 75) hb87 hP87 (by omega) hxn)
  have L10 : ∀ (n : Nat) (cn : Int32) (fi : Int32) (e9 : Option Nat) (l : List Nat), (0 ≤ cn.toInt) → (fi.toInt = 1) → ((l.length : Int) + cn.toInt = (as.length : Int)) → (ArC σ e9 l) → (∀ o, o ∈ l → o ∈ as) → ((∀ q ∈ agO σ as, ¬ q = 5) ↔ ∀ q ∈ agO σ l, ¬ q = 5) →  K n 10 [(0, .inr (.inr (some (E 3)))), (1, .inr (.inr (some p1))), (2, .inl cn), (3, .inl fi), (4, .inr (.inr e9))] [] σ := by
    intro n
    induction n using Nat.strongRecOn with
    | _ n ih =>
      intro cn fi e9 l h1 h2 h3 h4 h6 h5
      refine hB _ _ _ _ _ (fun m96 hm96 => ?_)
      dsimp only [ucgo, ucwp, ucsC, uqC, uoC, ctC, rfd, KX3_judgeCall, KX3_judgeCall_0, KX3_judgeCall_10, KX3_judgeCall_15, KX3_judgeCall_24, KX3_judgeCall_34, KX3_judgeCall_38, KX3_judgeCall_39, KX3_judgeCall_50, KX3_judgeCall_54, KX3_judgeCall_55, KX3_judgeCall_70, KX3_judgeCall_74, KX3_judgeCall_75, KX3_judgeCall_103, KX3_judgeCall_117, lkC, s1C, s2C, dlC, kyC, Nat.beq, Nat.ble, rcd, rno, rsw, Nat.reduceAdd, Nat.reduceBEq, Nat.reduceDiv, List.drop, List.take, List.reverse, List.reverseAux, Int.toNat, Option.toList, List.append, List.cons_append, List.nil_append, zg62, zg67, zg68, zg72, zg75, zg121, zg182, zg210, zg303]
      refine ⟨fun h97 => ?_, fun b97 h97 => ?_⟩
      · rw [h97] at h4
        obtain rfl := h4.n
        refine hB _ _ _ _ _ (fun m98 hm98 => ?_)
        dsimp only [ucgo, ucwp, ucsC, uqC, uoC, ctC, rfd, KX3_judgeCall, KX3_judgeCall_0, KX3_judgeCall_10, KX3_judgeCall_15, KX3_judgeCall_24, KX3_judgeCall_34, KX3_judgeCall_38, KX3_judgeCall_39, KX3_judgeCall_50, KX3_judgeCall_54, KX3_judgeCall_55, KX3_judgeCall_70, KX3_judgeCall_74, KX3_judgeCall_75, KX3_judgeCall_103, KX3_judgeCall_117, lkC, s1C, s2C, dlC, kyC, Nat.beq, Nat.ble, rcd, rno, rsw, Nat.reduceAdd, Nat.reduceBEq, Nat.reduceDiv, List.drop, List.take, List.reverse, List.reverseAux, Int.toNat, Option.toList, List.append, List.cons_append, List.nil_append, zg62, zg67, zg68, zg72, zg75, zg121, zg182, zg210, zg303]
        refine ⟨fun h99 => ?_, fun h99 => ?_⟩
        · have g99 := (neI (x := fi) (y := 0) h99 : ¬ (fi : Int32).toInt = (0 : Int32).toInt)
          have z0_ : (0 : Int32).toInt = 0 := rfl
          refine hB _ _ _ _ _ (fun m100 hm100 => ?_)
          dsimp only [ucgo, ucwp, ucsC, uqC, uoC, ctC, rfd, KX3_judgeCall, KX3_judgeCall_0, KX3_judgeCall_10, KX3_judgeCall_15, KX3_judgeCall_24, KX3_judgeCall_34, KX3_judgeCall_38, KX3_judgeCall_39, KX3_judgeCall_50, KX3_judgeCall_54, KX3_judgeCall_55, KX3_judgeCall_70, KX3_judgeCall_74, KX3_judgeCall_75, KX3_judgeCall_103, KX3_judgeCall_117, lkC, s1C, s2C, dlC, kyC, Nat.beq, Nat.ble, rcd, rno, rsw, Nat.reduceAdd, Nat.reduceBEq, Nat.reduceDiv, List.drop, List.take, List.reverse, List.reverseAux, Int.toNat, Option.toList, List.append, List.cons_append, List.nil_append, zg62, zg67, zg68, zg72, zg75, zg121, zg182, zg210, zg303]
          intro w101 τ101 o101 q101
          obtain ⟨r101, rfl, hr101, rfl⟩ := q101 (N, E, A, B, V, z, C.2.2.2, nm, as, x.1.2.2.1, C.1 x.1.2.2.1) ⟨_, _, rfl, hP, hM, hT, hx.1.2.2, hky, ha, by rw [List.length_nil] at h3; omega⟩
          have hbr := bs_r (ms := C.2.2.2) (key := C.1 x.1.2.2.1) (as := agO σ as) 12
          have hba : (∀ q ∈ agO σ as, ¬ q = 5) := h5.mpr (fun q9 q8 => absurd q8 List.not_mem_nil)
          try dsimp only [Option.toList, List.cons_append, List.nil_append, s1C, s2C, dlC, kyC, Nat.beq, lkC, rcd, rno, rsw]
          intro a102 e102 ob102 fk102
          cases e102
          clear fk102 ob102
          generalize hs102 : pIC σ p1 67 r101 = s102
          have hX102 : XuC [67, 68] σ s102 p1 := XuC.pI (M := [67, 68]) (XuC.rf) (by decide) hs102
          have hv102 : r101.toInt = r101.toInt := by omega
          intro a103 e103 ob103
          cases e103
          intro a104 e104 ob104
          cases e104
          have f105 : (fIC s102 p1 67).toInt = r101.toInt := congrArg Int32.toInt (pI_g hs102) |>.trans hv102
          rw [((hX102.1 (E 3) 121 (Or.inl (by decide))).2.2.trans hP.1)]
          try dsimp only
          intro w106 τ106 o106 q106
          have hM106 : MaC E s102 C.2.2.2 nm := hM.xu hX102 (by decide)
          obtain ⟨rfl, qq106⟩ := q106 (N, E, A, B, V, z, C.2.2.2, nm) ⟨_, rfl, hM106⟩
          have el106 : ((fIC s102 p1 67) : Int32).toInt = r101.toInt := by omega
          rw [el106] at qq106
          rcases qq106 with ⟨m9, hi106, hm106_, rfl⟩ | ⟨hm106_, rfl⟩
          · obtain ⟨mo, hmo⟩ : ∃ o, MoE E r101.toInt.toNat = o := ⟨_, rfl⟩
            have hmk : MkC s102 m9 mo := by rw [← hmo]; exact (hM106.2.2.2.1 _ _ hm106_).2
            rw [hmo]
            have hmy : mtyT C r101.toInt = m9.2.1 := by unfold mtyT; rw [hm106_]
            try dsimp only [Option.toList, List.cons_append, List.nil_append, s1C, s2C, dlC, kyC, Nat.beq, lkC, rcd, rno, rsw]
            refine ⟨fun b107 h107 => ?_, fun h107 => ?_⟩
            · cases h107
              refine hB _ _ _ _ _ (fun m108 hm108 => ?_)
              dsimp only [ucgo, ucwp, ucsC, uqC, uoC, ctC, rfd, KX3_judgeCall, KX3_judgeCall_0, KX3_judgeCall_10, KX3_judgeCall_15, KX3_judgeCall_24, KX3_judgeCall_34, KX3_judgeCall_38, KX3_judgeCall_39, KX3_judgeCall_50, KX3_judgeCall_54, KX3_judgeCall_55, KX3_judgeCall_70, KX3_judgeCall_74, KX3_judgeCall_75, KX3_judgeCall_103, KX3_judgeCall_117, lkC, s1C, s2C, dlC, kyC, Nat.beq, Nat.ble, rcd, rno, rsw, Nat.reduceAdd, Nat.reduceBEq, Nat.reduceDiv, List.drop, List.take, List.reverse, List.reverseAux, Int.toNat, Option.toList, List.append, List.cons_append, List.nil_append, zg62, zg67, zg68, zg72, zg75, zg121, zg182, zg210, zg303]
              intro a109 e109 ob109
              cases e109
              have f110 : (fIC s102 mo 182).toInt = m9.2.1 := hmk.2.1
              intro a111 e111 ob111 fk111
              cases e111
              clear fk111 ob111
              generalize hs111 : pIC s102 p1 68 (fIC s102 mo 182) = s111
              have hX111 : XuC [67, 68] σ s111 p1 := XuC.pI (M := [67, 68]) hX102 (by decide) hs111
              have hv111 : (fIC s102 mo 182).toInt = m9.2.1 := by omega
              intro a112 e112 ob112
              cases e112
              intro a113 e113 ob113
              obtain rfl : E 1 = a113 := Option.some.inj (((hX111.1 (E 3) 121 (Or.inl (by decide))).2.2.trans hP.1).symm.trans e113)
              intro a114 e114 ob114
              obtain rfl : E 2 = a114 := Option.some.inj (((hX111.1 (E 1) 210 (Or.inl (by decide))).2.2.trans hT.1).symm.trans e114)
              intro a115 e115 ob115
              cases e115
              have f116 : (fIC s111 p1 62).toInt = x.1.2.2.1 := (congrArg Int32.toInt (hX111.1 p1 62 (Or.inl (by decide))).1).trans hx.1.2.2
              have c117 : (Int32.ofInt 100).toInt = 100 := by decide
              intro a118 e118 ob118
              cases e118
              have f119 : (fIC s111 p1 67).toInt = r101.toInt := congrArg Int32.toInt ((pI_o hs111 (by decide)).trans (pI_g hs102)) |>.trans hv102
              have u120 := tiC (Int32.ofInt 100)
              have a120 : ((Int32.ofInt 100) + (fIC s111 p1 67)).toInt = 100 + r101.toInt := addC (by omega) (by omega) (by omega)
              intro a121 e121 t121 v121
              obtain rfl : E 303 = a121 := Option.some.inj (((hX111.1 (E 2) 303 (Or.inl (by decide))).2.2.trans hT.2.1).symm.trans e121)
              generalize hs121 : qIC s111 (E 303) (upd (eIC s111 (E 303)) (fIC s111 p1 62).toNatClampNeg ((Int32.ofInt 100) + (fIC s111 p1 67))) = s121
              have hXw : XwC [67, 68] σ s121 p1 (E 303) := by
                rw [← hs121]
                refine ⟨hX111.1, ⟨fun a9 q9 => ?_, hX111.2.1.2.1, hX111.2.1.2.2⟩, hX111.2.2⟩
                show u1C (eIC s111) (E 303) _ a9 = _
                rw [u1C_ne q9, hX111.2.1.1]
              have hrow : eIC s121 (E 303) = upd (eIC σ (E 303)) x.1.2.2.1.toNat ((Int32.ofInt 100) + (fIC s111 p1 67)) := by
                rw [← hs121]
                show u1C (eIC s111) (E 303) _ (E 303) = _
                rw [u1C_eq, hX111.2.1.1, nT_toNat, show ((fIC s111 p1 62) : Int32).toInt = x.1.2.2.1 by omega]
              have hfi : fIC s121 = fIC s111 := by rw [← hs121]; rfl
              have hfl : fLC s121 = fLC s111 := by rw [← hs121]; rfl
              try dsimp only [Qz_judgeCall]
              exact fun τ9 h9 => ⟨rfl, JcC.we h9 (Or.inr ⟨(mtyT C r101.toInt, t.2.1, t.2.2.1, r101.toInt), xa_p hag (by omega) hba (by omega), by rw [hfi]; exact XuC.er (M := [67, 68]) hX111 (by decide) he, hXw, ⟨by rw [hfi]; exact (congrArg Int32.toInt (pI_g hs111)).trans (by rw [hmy]; omega), by rw [hfi]; exact (congrArg Int32.toInt ((pI_o hs111 (show (70 : Nat) ≠ 68 by decide)).trans ((pI_o hs102 (show (70 : Nat) ≠ 67 by decide)).trans rfl))).trans ht.2.1, by rw [hfl]; exact ((pI_ol hs111).trans ((pI_ol hs102).trans rfl)).trans ht.2.2⟩, by rw [hfi]; exact (congrArg Int32.toInt ((pI_o hs111 (by decide)).trans (pI_g hs102))).trans (by omega), ((Int32.ofInt 100) + (fIC s111 p1 67)), by omega, hrow⟩)⟩
            · cases h107
          · have hneg : ¬ 0 ≤ r101.toInt := by
              intro q9
              rcases hbr with q8 | ⟨i9, q8, q7, q6⟩
              · omega
              · exact ta_n (by rw [show i9 = r101.toInt.toNat by omega]; exact hm106_ q9) q6
            try dsimp only [Option.toList, List.cons_append, List.nil_append, s1C, s2C, dlC, kyC, Nat.beq, lkC, rcd, rno, rsw]
            refine ⟨fun b122 h122 => ?_, fun h122 => ?_⟩
            · cases h122
            · skip
              refine hB _ _ _ _ _ (fun m123 hm123 => ?_)
              dsimp only [ucgo, ucwp, ucsC, uqC, uoC, ctC, rfd, KX3_judgeCall, KX3_judgeCall_0, KX3_judgeCall_10, KX3_judgeCall_15, KX3_judgeCall_24, KX3_judgeCall_34, KX3_judgeCall_38, KX3_judgeCall_39, KX3_judgeCall_50, KX3_judgeCall_54, KX3_judgeCall_55, KX3_judgeCall_70, KX3_judgeCall_74, KX3_judgeCall_75, KX3_judgeCall_103, KX3_judgeCall_117, lkC, s1C, s2C, dlC, kyC, Nat.beq, Nat.ble, rcd, rno, rsw, Nat.reduceAdd, Nat.reduceBEq, Nat.reduceDiv, List.drop, List.take, List.reverse, List.reverseAux, Int.toNat, Option.toList, List.append, List.cons_append, List.nil_append, zg62, zg67, zg68, zg72, zg75, zg121, zg182, zg210, zg303]
              intro a124 e124 ob124
              cases e124
              have c125 : (Int32.ofInt 6).toInt = 6 := by decide
              intro a126 e126 ob126
              cases e126
              have f127 : (fIC s102 p1 62).toInt = x.1.2.2.1 := (congrArg Int32.toInt (hX102.1 p1 62 (Or.inl (by decide))).1).trans hx.1.2.2
              rw [((hX102.1 (E 3) 121 (Or.inl (by decide))).2.2.trans hP.1)]
              try dsimp only
              intro w128 τ128 o128 q128
              obtain ⟨rfl, hb128_⟩ := q128 (N, E, A, B, V, z) ⟨_, _, rfl, by omega⟩
              have hP128 : PjC E τ128 := (PjC.xu hP hX102 (by decide)).fr o128.2 rfl rfl
              try dsimp only [Option.toList, List.cons_append, List.nil_append, s1C, s2C, dlC, kyC, Nat.beq, lkC, rcd, rno, rsw]
              try dsimp only [Qz_judgeCall]
              exact fun τ9 h9 => ⟨rfl, JcC.we h9 (Or.inl ⟨by exact xa_n hag (fun q9 => hneg (by omega)), hb128_⟩)⟩
        · have g99 := (eqI (x := fi) (y := 0) h99 : (fi : Int32).toInt = (0 : Int32).toInt)
          have z0_ : (0 : Int32).toInt = 0 := rfl
          exfalso
          omega
      · obtain rfl : e9 = some b97 := h97
        obtain ⟨l9, rfl, hl9⟩ := h4.s
        have hnb : ¬ (fIC σ b97 68).toInt = -1 := hnf _ (h6 _ List.mem_cons_self)
        refine hB _ _ _ _ _ (fun m129 hm129 => ?_)
        dsimp only [ucgo, ucwp, ucsC, uqC, uoC, ctC, rfd, KX3_judgeCall, KX3_judgeCall_0, KX3_judgeCall_10, KX3_judgeCall_15, KX3_judgeCall_24, KX3_judgeCall_34, KX3_judgeCall_38, KX3_judgeCall_39, KX3_judgeCall_50, KX3_judgeCall_54, KX3_judgeCall_55, KX3_judgeCall_70, KX3_judgeCall_74, KX3_judgeCall_75, KX3_judgeCall_103, KX3_judgeCall_117, lkC, s1C, s2C, dlC, kyC, Nat.beq, Nat.ble, rcd, rno, rsw, Nat.reduceAdd, Nat.reduceBEq, Nat.reduceDiv, List.drop, List.take, List.reverse, List.reverseAux, Int.toNat, Option.toList, List.append, List.cons_append, List.nil_append, zg62, zg67, zg68, zg72, zg75, zg121, zg182, zg210, zg303]
        intro w130 τ130 o130 q130
        obtain ⟨r130, rfl, hr130, rfl⟩ := q130 (N, E, A, B, V, z) ⟨_, rfl⟩
        have hr130 : (r130.toInt = 1 ∧ (fIC σ b97 68).toInt = -1) ∨ (r130.toInt = 0 ∧ ¬ (fIC σ b97 68).toInt = -1) := by
          rcases hr130 with q9 | q9
          · exact Or.inl ⟨q9.1, q9.2 _ rfl⟩
          · exact Or.inr ⟨q9.1, fun q8 => q9.2 (fun a9 q7 => by cases (rfl : some b97 = _).symm.trans q7; exact q8)⟩
        try dsimp only [Option.toList, List.cons_append, List.nil_append, s1C, s2C, dlC, kyC, Nat.beq, lkC, rcd, rno, rsw]
        refine ⟨fun h131 => ?_, fun h131 => ?_⟩
        · have g131 := (neI (x := r130) (y := 0) h131 : ¬ (r130 : Int32).toInt = (0 : Int32).toInt)
          have z0_ : (0 : Int32).toInt = 0 := rfl
          refine hB _ _ _ _ _ (fun m132 hm132 => ?_)
          dsimp only [ucgo, ucwp, ucsC, uqC, uoC, ctC, rfd, KX3_judgeCall, KX3_judgeCall_0, KX3_judgeCall_10, KX3_judgeCall_15, KX3_judgeCall_24, KX3_judgeCall_34, KX3_judgeCall_38, KX3_judgeCall_39, KX3_judgeCall_50, KX3_judgeCall_54, KX3_judgeCall_55, KX3_judgeCall_70, KX3_judgeCall_74, KX3_judgeCall_75, KX3_judgeCall_103, KX3_judgeCall_117, lkC, s1C, s2C, dlC, kyC, Nat.beq, Nat.ble, rcd, rno, rsw, Nat.reduceAdd, Nat.reduceBEq, Nat.reduceDiv, List.drop, List.take, List.reverse, List.reverseAux, Int.toNat, Option.toList, List.append, List.cons_append, List.nil_append, zg62, zg67, zg68, zg72, zg75, zg121, zg182, zg210, zg303]
          have c133 : (Int32.ofInt 0).toInt = 0 := by decide
          refine hB _ _ _ _ _ (fun m134 hm134 => ?_)
          dsimp only [ucgo, ucwp, ucsC, uqC, uoC, ctC, rfd, KX3_judgeCall, KX3_judgeCall_0, KX3_judgeCall_10, KX3_judgeCall_15, KX3_judgeCall_24, KX3_judgeCall_34, KX3_judgeCall_38, KX3_judgeCall_39, KX3_judgeCall_50, KX3_judgeCall_54, KX3_judgeCall_55, KX3_judgeCall_70, KX3_judgeCall_74, KX3_judgeCall_75, KX3_judgeCall_103, KX3_judgeCall_117, lkC, s1C, s2C, dlC, kyC, Nat.beq, Nat.ble, rcd, rno, rsw, Nat.reduceAdd, Nat.reduceBEq, Nat.reduceDiv, List.drop, List.take, List.reverse, List.reverseAux, Int.toNat, Option.toList, List.append, List.cons_append, List.nil_append, zg62, zg67, zg68, zg72, zg75, zg121, zg182, zg210, zg303]
          have ia135 : (fi &&& (Int32.ofInt 0)).toInt = if 1 = 1 ∧ 0 = 1 then 1 else 0 := and01 (x := fi) (y := (Int32.ofInt 0)) (a := 1) (b := 0) (by omega) (by omega) (by omega) (by omega)
          have ib135 : (fi &&& (Int32.ofInt 0)).toInt = 0 := ia135.trans (by decide)
          have c136 : (Int32.ofInt 1).toInt = 1 := by decide
          have u137 := tiC cn
          have a137 : (cn + (Int32.ofInt 1)).toInt = cn.toInt + 1 := addC (by omega) (by omega) (by omega)
          intro a138 e138 ob138
          cases e138
          refine hW _ 10 [(0, .inr (.inr (some (E 3)))), (1, .inr (.inr (some p1))), (2, .inl (cn + (Int32.ofInt 1))), (3, .inl (fi &&& (Int32.ofInt 0))), (4, .inr (.inr (fRC σ b97 75)))] _ _ _ (List.forall_mem_cons.2 ⟨List.Mem.tail _ (List.Mem.tail _ (List.Mem.tail _ (List.Mem.head _))), List.forall_mem_cons.2 ⟨List.Mem.tail _ (List.Mem.tail _ (List.Mem.tail _ (List.Mem.tail _ (List.Mem.head _)))), List.forall_mem_cons.2 ⟨List.Mem.tail _ (List.Mem.head _), List.forall_mem_cons.2 ⟨List.Mem.tail _ (List.Mem.tail _ (List.Mem.head _)), List.forall_mem_cons.2 ⟨List.Mem.head _, fun _ h => absurd h List.not_mem_nil⟩⟩⟩⟩⟩) (ih _ (by omega) (cn + (Int32.ofInt 1)) (fi &&& (Int32.ofInt 0)) (fRC σ b97 75) l9 (by omega) (by omega) (by rw [List.length_cons] at h3; omega) hl9 (fun q8 q9 => h6 q8 (List.mem_cons_of_mem _ q9)) (h5.trans ?_))
          rw [aO_c, List.forall_mem_cons]
          exact ⟨fun q9 => q9.2, fun q9 => ⟨by omega, q9⟩⟩
        · have g131 := (eqI (x := r130) (y := 0) h131 : (r130 : Int32).toInt = (0 : Int32).toInt)
          have z0_ : (0 : Int32).toInt = 0 := rfl
          refine hB _ _ _ _ _ (fun m139 hm139 => ?_)
          dsimp only [ucgo, ucwp, ucsC, uqC, uoC, ctC, rfd, KX3_judgeCall, KX3_judgeCall_0, KX3_judgeCall_10, KX3_judgeCall_15, KX3_judgeCall_24, KX3_judgeCall_34, KX3_judgeCall_38, KX3_judgeCall_39, KX3_judgeCall_50, KX3_judgeCall_54, KX3_judgeCall_55, KX3_judgeCall_70, KX3_judgeCall_74, KX3_judgeCall_75, KX3_judgeCall_103, KX3_judgeCall_117, lkC, s1C, s2C, dlC, kyC, Nat.beq, Nat.ble, rcd, rno, rsw, Nat.reduceAdd, Nat.reduceBEq, Nat.reduceDiv, List.drop, List.take, List.reverse, List.reverseAux, Int.toNat, Option.toList, List.append, List.cons_append, List.nil_append, zg62, zg67, zg68, zg72, zg75, zg121, zg182, zg210, zg303]
          intro a140 e140 ob140
          cases e140
          have c141 : (Int32.ofInt 5).toInt = 5 := by decide
          refine ⟨fun h142 => ?_, fun h142 => ?_⟩
          · have g142 := (eqI (x := (fIC σ b97 68)) (y := (Int32.ofInt 5)) h142 : ((fIC σ b97 68) : Int32).toInt = ((Int32.ofInt 5) : Int32).toInt)
            refine hB _ _ _ _ _ (fun m143 hm143 => ?_)
            dsimp only [ucgo, ucwp, ucsC, uqC, uoC, ctC, rfd, KX3_judgeCall, KX3_judgeCall_0, KX3_judgeCall_10, KX3_judgeCall_15, KX3_judgeCall_24, KX3_judgeCall_34, KX3_judgeCall_38, KX3_judgeCall_39, KX3_judgeCall_50, KX3_judgeCall_54, KX3_judgeCall_55, KX3_judgeCall_70, KX3_judgeCall_74, KX3_judgeCall_75, KX3_judgeCall_103, KX3_judgeCall_117, lkC, s1C, s2C, dlC, kyC, Nat.beq, Nat.ble, rcd, rno, rsw, Nat.reduceAdd, Nat.reduceBEq, Nat.reduceDiv, List.drop, List.take, List.reverse, List.reverseAux, Int.toNat, Option.toList, List.append, List.cons_append, List.nil_append, zg62, zg67, zg68, zg72, zg75, zg121, zg182, zg210, zg303]
            have c144 : (Int32.ofInt 0).toInt = 0 := by decide
            refine hB _ _ _ _ _ (fun m145 hm145 => ?_)
            dsimp only [ucgo, ucwp, ucsC, uqC, uoC, ctC, rfd, KX3_judgeCall, KX3_judgeCall_0, KX3_judgeCall_10, KX3_judgeCall_15, KX3_judgeCall_24, KX3_judgeCall_34, KX3_judgeCall_38, KX3_judgeCall_39, KX3_judgeCall_50, KX3_judgeCall_54, KX3_judgeCall_55, KX3_judgeCall_70, KX3_judgeCall_74, KX3_judgeCall_75, KX3_judgeCall_103, KX3_judgeCall_117, lkC, s1C, s2C, dlC, kyC, Nat.beq, Nat.ble, rcd, rno, rsw, Nat.reduceAdd, Nat.reduceBEq, Nat.reduceDiv, List.drop, List.take, List.reverse, List.reverseAux, Int.toNat, Option.toList, List.append, List.cons_append, List.nil_append, zg62, zg67, zg68, zg72, zg75, zg121, zg182, zg210, zg303]
            intro a146 e146 ob146
            cases e146
            intro w147 τ147 o147 q147
            obtain ⟨rfl, qq147⟩ := q147 (N, E, A, B, V, z) ⟨_, _, rfl, hP⟩
            rcases qq147 with ⟨qa147, rfl⟩ | ⟨qa147, qb147⟩
            · have qc147 := qa147
              exfalso
              omega
            · have hP147 : PjC E τ147 := hP.fr o147.2 rfl rfl
              try dsimp only [Option.toList, List.cons_append, List.nil_append, s1C, s2C, dlC, kyC, Nat.beq, lkC, rcd, rno, rsw]
              refine ⟨fun h148 => ?_, fun h148 => ?_⟩
              · have g148 := (eqI (x := (Int32.ofInt 0)) (y := 0) h148 : ((Int32.ofInt 0) : Int32).toInt = (0 : Int32).toInt)
                have z0_ : (0 : Int32).toInt = 0 := rfl
                refine hB _ _ _ _ _ (fun m149 hm149 => ?_)
                dsimp only [ucgo, ucwp, ucsC, uqC, uoC, ctC, rfd, KX3_judgeCall, KX3_judgeCall_0, KX3_judgeCall_10, KX3_judgeCall_15, KX3_judgeCall_24, KX3_judgeCall_34, KX3_judgeCall_38, KX3_judgeCall_39, KX3_judgeCall_50, KX3_judgeCall_54, KX3_judgeCall_55, KX3_judgeCall_70, KX3_judgeCall_74, KX3_judgeCall_75, KX3_judgeCall_103, KX3_judgeCall_117, lkC, s1C, s2C, dlC, kyC, Nat.beq, Nat.ble, rcd, rno, rsw, Nat.reduceAdd, Nat.reduceBEq, Nat.reduceDiv, List.drop, List.take, List.reverse, List.reverseAux, Int.toNat, Option.toList, List.append, List.cons_append, List.nil_append, zg62, zg67, zg68, zg72, zg75, zg121, zg182, zg210, zg303]
                have c150 : (Int32.ofInt 0).toInt = 0 := by decide
                refine hB _ _ _ _ _ (fun m151 hm151 => ?_)
                dsimp only [ucgo, ucwp, ucsC, uqC, uoC, ctC, rfd, KX3_judgeCall, KX3_judgeCall_0, KX3_judgeCall_10, KX3_judgeCall_15, KX3_judgeCall_24, KX3_judgeCall_34, KX3_judgeCall_38, KX3_judgeCall_39, KX3_judgeCall_50, KX3_judgeCall_54, KX3_judgeCall_55, KX3_judgeCall_70, KX3_judgeCall_74, KX3_judgeCall_75, KX3_judgeCall_103, KX3_judgeCall_117, lkC, s1C, s2C, dlC, kyC, Nat.beq, Nat.ble, rcd, rno, rsw, Nat.reduceAdd, Nat.reduceBEq, Nat.reduceDiv, List.drop, List.take, List.reverse, List.reverseAux, Int.toNat, Option.toList, List.append, List.cons_append, List.nil_append, zg62, zg67, zg68, zg72, zg75, zg121, zg182, zg210, zg303]
                have ia152 : (fi &&& (Int32.ofInt 0)).toInt = if 1 = 1 ∧ 0 = 1 then 1 else 0 := and01 (x := fi) (y := (Int32.ofInt 0)) (a := 1) (b := 0) (by omega) (by omega) (by omega) (by omega)
                have ib152 : (fi &&& (Int32.ofInt 0)).toInt = 0 := ia152.trans (by decide)
                have c153 : (Int32.ofInt 1).toInt = 1 := by decide
                intro a155 e155 ob155
                cases e155
                exact hW _ 10 [(0, .inr (.inr (some (E 3)))), (1, .inr (.inr (some p1))), (2, .inl (cn + (Int32.ofInt 1))), (3, .inl (fi &&& (Int32.ofInt 0))), (4, .inr (.inr (fRC τ147 b97 75)))] _ _ _ (List.forall_mem_cons.2 ⟨List.Mem.tail _ (List.Mem.tail _ (List.Mem.tail _ (List.Mem.head _))), List.forall_mem_cons.2 ⟨List.Mem.tail _ (List.Mem.tail _ (List.Mem.tail _ (List.Mem.tail _ (List.Mem.head _)))), List.forall_mem_cons.2 ⟨List.Mem.tail _ (List.Mem.head _), List.forall_mem_cons.2 ⟨List.Mem.tail _ (List.Mem.tail _ (List.Mem.head _)), List.forall_mem_cons.2 ⟨List.Mem.head _, fun _ h => absurd h List.not_mem_nil⟩⟩⟩⟩⟩) (B10 _ τ147 (cn + (Int32.ofInt 1)) (fi &&& (Int32.ofInt 0)) (fRC τ147 b97 75) qb147 hP147 (by omega) (hxn9 (fun q9 => by have q8 := h5.mp q9; rw [aO_c, List.forall_mem_cons] at q8; omega)))
              · have g148 := (neI (x := (Int32.ofInt 0)) (y := 0) h148 : ¬ ((Int32.ofInt 0) : Int32).toInt = (0 : Int32).toInt)
                have z0_ : (0 : Int32).toInt = 0 := rfl
                exfalso
                omega
          · have g142 := (neI (x := (fIC σ b97 68)) (y := (Int32.ofInt 5)) h142 : ¬ ((fIC σ b97 68) : Int32).toInt = ((Int32.ofInt 5) : Int32).toInt)
            refine hB _ _ _ _ _ (fun m156 hm156 => ?_)
            dsimp only [ucgo, ucwp, ucsC, uqC, uoC, ctC, rfd, KX3_judgeCall, KX3_judgeCall_0, KX3_judgeCall_10, KX3_judgeCall_15, KX3_judgeCall_24, KX3_judgeCall_34, KX3_judgeCall_38, KX3_judgeCall_39, KX3_judgeCall_50, KX3_judgeCall_54, KX3_judgeCall_55, KX3_judgeCall_70, KX3_judgeCall_74, KX3_judgeCall_75, KX3_judgeCall_103, KX3_judgeCall_117, lkC, s1C, s2C, dlC, kyC, Nat.beq, Nat.ble, rcd, rno, rsw, Nat.reduceAdd, Nat.reduceBEq, Nat.reduceDiv, List.drop, List.take, List.reverse, List.reverseAux, Int.toNat, Option.toList, List.append, List.cons_append, List.nil_append, zg62, zg67, zg68, zg72, zg75, zg121, zg182, zg210, zg303]
            have c157 : (Int32.ofInt 1).toInt = 1 := by decide
            refine hB _ _ _ _ _ (fun m158 hm158 => ?_)
            dsimp only [ucgo, ucwp, ucsC, uqC, uoC, ctC, rfd, KX3_judgeCall, KX3_judgeCall_0, KX3_judgeCall_10, KX3_judgeCall_15, KX3_judgeCall_24, KX3_judgeCall_34, KX3_judgeCall_38, KX3_judgeCall_39, KX3_judgeCall_50, KX3_judgeCall_54, KX3_judgeCall_55, KX3_judgeCall_70, KX3_judgeCall_74, KX3_judgeCall_75, KX3_judgeCall_103, KX3_judgeCall_117, lkC, s1C, s2C, dlC, kyC, Nat.beq, Nat.ble, rcd, rno, rsw, Nat.reduceAdd, Nat.reduceBEq, Nat.reduceDiv, List.drop, List.take, List.reverse, List.reverseAux, Int.toNat, Option.toList, List.append, List.cons_append, List.nil_append, zg62, zg67, zg68, zg72, zg75, zg121, zg182, zg210, zg303]
            intro a159 e159 ob159
            cases e159
            intro w160 τ160 o160 q160
            obtain ⟨rfl, qq160⟩ := q160 (N, E, A, B, V, z) ⟨_, _, rfl, hP⟩
            rcases qq160 with ⟨qa160, rfl⟩ | ⟨qa160, qb160⟩
            · have qc160 := qa160
              try dsimp only [Option.toList, List.cons_append, List.nil_append, s1C, s2C, dlC, kyC, Nat.beq, lkC, rcd, rno, rsw]
              refine ⟨fun h161 => ?_, fun h161 => ?_⟩
              · have g161 := (eqI (x := (Int32.ofInt 1)) (y := 0) h161 : ((Int32.ofInt 1) : Int32).toInt = (0 : Int32).toInt)
                have z0_ : (0 : Int32).toInt = 0 := rfl
                exfalso
                omega
              · have g161 := (neI (x := (Int32.ofInt 1)) (y := 0) h161 : ¬ ((Int32.ofInt 1) : Int32).toInt = (0 : Int32).toInt)
                have z0_ : (0 : Int32).toInt = 0 := rfl
                refine hB _ _ _ _ _ (fun m162 hm162 => ?_)
                dsimp only [ucgo, ucwp, ucsC, uqC, uoC, ctC, rfd, KX3_judgeCall, KX3_judgeCall_0, KX3_judgeCall_10, KX3_judgeCall_15, KX3_judgeCall_24, KX3_judgeCall_34, KX3_judgeCall_38, KX3_judgeCall_39, KX3_judgeCall_50, KX3_judgeCall_54, KX3_judgeCall_55, KX3_judgeCall_70, KX3_judgeCall_74, KX3_judgeCall_75, KX3_judgeCall_103, KX3_judgeCall_117, lkC, s1C, s2C, dlC, kyC, Nat.beq, Nat.ble, rcd, rno, rsw, Nat.reduceAdd, Nat.reduceBEq, Nat.reduceDiv, List.drop, List.take, List.reverse, List.reverseAux, Int.toNat, Option.toList, List.append, List.cons_append, List.nil_append, zg62, zg67, zg68, zg72, zg75, zg121, zg182, zg210, zg303]
                have c163 : (Int32.ofInt 1).toInt = 1 := by decide
                refine hB _ _ _ _ _ (fun m164 hm164 => ?_)
                dsimp only [ucgo, ucwp, ucsC, uqC, uoC, ctC, rfd, KX3_judgeCall, KX3_judgeCall_0, KX3_judgeCall_10, KX3_judgeCall_15, KX3_judgeCall_24, KX3_judgeCall_34, KX3_judgeCall_38, KX3_judgeCall_39, KX3_judgeCall_50, KX3_judgeCall_54, KX3_judgeCall_55, KX3_judgeCall_70, KX3_judgeCall_74, KX3_judgeCall_75, KX3_judgeCall_103, KX3_judgeCall_117, lkC, s1C, s2C, dlC, kyC, Nat.beq, Nat.ble, rcd, rno, rsw, Nat.reduceAdd, Nat.reduceBEq, Nat.reduceDiv, List.drop, List.take, List.reverse, List.reverseAux, Int.toNat, Option.toList, List.append, List.cons_append, List.nil_append, zg62, zg67, zg68, zg72, zg75, zg121, zg182, zg210, zg303]
                have ia165 : (fi &&& (Int32.ofInt 1)).toInt = if 1 = 1 ∧ 1 = 1 then 1 else 0 := and01 (x := fi) (y := (Int32.ofInt 1)) (a := 1) (b := 1) (by omega) (by omega) (by omega) (by omega)
                have ib165 : (fi &&& (Int32.ofInt 1)).toInt = 1 := ia165.trans (by decide)
                have c166 : (Int32.ofInt 1).toInt = 1 := by decide
                have u167 := tiC cn
                have a167 : (cn + (Int32.ofInt 1)).toInt = cn.toInt + 1 := addC (by omega) (by omega) (by omega)
                intro a168 e168 ob168
                cases e168
                refine hW _ 10 [(0, .inr (.inr (some (E 3)))), (1, .inr (.inr (some p1))), (2, .inl (cn + (Int32.ofInt 1))), (3, .inl (fi &&& (Int32.ofInt 1))), (4, .inr (.inr (fRC σ b97 75)))] _ _ _ (List.forall_mem_cons.2 ⟨List.Mem.tail _ (List.Mem.tail _ (List.Mem.tail _ (List.Mem.head _))), List.forall_mem_cons.2 ⟨List.Mem.tail _ (List.Mem.tail _ (List.Mem.tail _ (List.Mem.tail _ (List.Mem.head _)))), List.forall_mem_cons.2 ⟨List.Mem.tail _ (List.Mem.head _), List.forall_mem_cons.2 ⟨List.Mem.tail _ (List.Mem.tail _ (List.Mem.head _)), List.forall_mem_cons.2 ⟨List.Mem.head _, fun _ h => absurd h List.not_mem_nil⟩⟩⟩⟩⟩) (ih _ (by omega) (cn + (Int32.ofInt 1)) (fi &&& (Int32.ofInt 1)) (fRC σ b97 75) l9 (by omega) (by omega) (by rw [List.length_cons] at h3; omega) hl9 (fun q8 q9 => h6 q8 (List.mem_cons_of_mem _ q9)) (h5.trans ?_))
                rw [aO_c, List.forall_mem_cons]
                exact ⟨fun q9 => q9.2, fun q9 => ⟨by omega, q9⟩⟩
            · exfalso
              omega
  change K n_ 0 [(0, .inr (.inr (some (E 3)))), (1, .inr (.inr (some p1)))] [] σ
  refine hB _ _ _ _ _ (fun m169 hm169 => ?_)
  dsimp only [ucgo, ucwp, ucsC, uqC, uoC, ctC, rfd, KX3_judgeCall, KX3_judgeCall_0, KX3_judgeCall_10, KX3_judgeCall_15, KX3_judgeCall_24, KX3_judgeCall_34, KX3_judgeCall_38, KX3_judgeCall_39, KX3_judgeCall_50, KX3_judgeCall_54, KX3_judgeCall_55, KX3_judgeCall_70, KX3_judgeCall_74, KX3_judgeCall_75, KX3_judgeCall_103, KX3_judgeCall_117, lkC, s1C, s2C, dlC, kyC, Nat.beq, Nat.ble, rcd, rno, rsw, Nat.reduceAdd, Nat.reduceBEq, Nat.reduceDiv, List.drop, List.take, List.reverse, List.reverseAux, Int.toNat, Option.toList, List.append, List.cons_append, List.nil_append, zg62, zg67, zg68, zg72, zg75, zg121, zg182, zg210, zg303]
  have c170 : (Int32.ofInt 0).toInt = 0 := by decide
  have c171 : (Int32.ofInt 1).toInt = 1 := by decide
  intro a172 e172 ob172
  cases e172
  exact hW _ 10 [(0, .inr (.inr (some (E 3)))), (1, .inr (.inr (some p1))), (2, .inl (Int32.ofInt 0)), (3, .inl (Int32.ofInt 1)), (4, .inr (.inr (fRC σ p1 72)))] _ _ _ (List.forall_mem_cons.2 ⟨List.Mem.tail _ (List.Mem.tail _ (List.Mem.tail _ (List.Mem.head _))), List.forall_mem_cons.2 ⟨List.Mem.tail _ (List.Mem.tail _ (List.Mem.tail _ (List.Mem.tail _ (List.Mem.head _)))), List.forall_mem_cons.2 ⟨List.Mem.tail _ (List.Mem.tail _ (List.Mem.head _)), List.forall_mem_cons.2 ⟨List.Mem.tail _ (List.Mem.head _), List.forall_mem_cons.2 ⟨List.Mem.head _, fun _ h => absurd h List.not_mem_nil⟩⟩⟩⟩⟩) (L10 _ (Int32.ofInt 0) (Int32.ofInt 1) (fRC σ p1 72) as (by omega) (by omega) (by omega) ha (fun _ q9 => q9) Iff.rfl)
theorem wz_judgeCall : ∀ (L : Nat) (As : List AvC) (σ : CsC) (w : Option AvC) (τ : CsC), EvF L 76 As σ w τ → Uz_judgeCall As σ w τ := by
  intro L
  cases L with
  | zero => exact fun _ _ _ _ h => h.elim
  | succ L => exact fun As σ w τ h y hy => EvF.us (cs := [77, 119, 118, 52, 62]) (pz_judgeCall y) rfl (List.forall_mem_cons.2 ⟨wz_calledMethod L, List.forall_mem_cons.2 ⟨wz_methodOf L, List.forall_mem_cons.2 ⟨wz_tell L, List.forall_mem_cons.2 ⟨wz_isFaulty L, List.forall_mem_cons.2 ⟨wz_isWanted L, fun _ h => absurd h List.not_mem_nil⟩⟩⟩⟩⟩) h hy

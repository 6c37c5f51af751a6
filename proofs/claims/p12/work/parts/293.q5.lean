/-! what NAMES mean -/
theorem has_b {x : Int64} {y : Int32} {v : Nat} (hy : y.toInt = (v : Int)) (hv : v < 64) : (((x.toUInt64 >>> (y.toInt64.toUInt64 &&& Int64.toUInt64 63)).toInt64) &&& (Int64.ofNat ((1 : Fin 2) : Nat)) = (Int64.ofNat ((0 : Fin 2) : Nat))) ↔ x.toBitVec.getLsbD v = false := by
  have e1 : (y.toInt64.toUInt64 &&& Int64.toUInt64 63).toBitVec.toNat = v := by
    have a : y.toBitVec.toInt = (v : Int) := hy
    have b : y.toInt64.toUInt64.toBitVec = BitVec.ofInt 64 (v : Int) := by
      show (Int32.toInt64 y).toBitVec = _
      rw [Int32.toBitVec_toInt64, BitVec.signExtend, a]
    rw [UInt64.toBitVec_and, b]
    have c : (Int64.toUInt64 63).toBitVec = BitVec.ofNat 64 63 := rfl
    rw [c, BitVec.toNat_and, BitVec.toNat_ofNat, BitVec.toNat_ofInt]
    have d : ((v : Int) % ((2 ^ 64 : Nat) : Int)).toNat = v := by omega
    rw [d]
    have q : 63 % 2 ^ 64 = 2 ^ 6 - 1 := by decide
    rw [q, Nat.and_two_pow_sub_one_eq_mod]
    omega
  have e2 : (((x.toUInt64 >>> (y.toInt64.toUInt64 &&& Int64.toUInt64 63)).toInt64) &&& (Int64.ofNat ((1 : Fin 2) : Nat))).toBitVec = (x.toBitVec >>> v) &&& 1#64 := by
    rw [Int64.toBitVec_and]
    show ((x.toUInt64 >>> (y.toInt64.toUInt64 &&& Int64.toUInt64 63)).toBitVec &&& 1#64) = _
    rw [UInt64.toBitVec_shiftRight]
    congr 1
    show x.toBitVec >>> ((y.toInt64.toUInt64 &&& Int64.toUInt64 63).toBitVec % 64#64) = _
    show x.toBitVec >>> ((y.toInt64.toUInt64 &&& Int64.toUInt64 63).toBitVec % 64#64).toNat = _
    rw [BitVec.toNat_umod, e1]
    rw [show (64#64).toNat = 64 from rfl, Nat.mod_eq_of_lt hv]
  constructor
  · intro h
    have h1 : (x.toBitVec >>> v) &&& 1#64 = 0#64 := by rw [← e2, h]; rfl
    have h2 := congrArg (fun b => b.getLsbD 0) h1
    simp only [BitVec.getLsbD_and, BitVec.getLsbD_ushiftRight] at h2
    simpa using h2
  · intro h
    refine Int64.toBitVec_inj.mp ?_
    rw [e2]
    refine BitVec.eq_of_getLsbD_eq (fun i hi => ?_)
    rw [BitVec.getLsbD_and, BitVec.getLsbD_ushiftRight]
    by_cases c : i = 0
    · subst c
      rw [Nat.add_zero, h]
      rfl
    · have : (1#64).getLsbD i = false := by
        rw [BitVec.getLsbD_one]
        simp [c]
      rw [this, Bool.and_false]
      show false = (0#64).getLsbD i
      rw [BitVec.getLsbD_zero]
/-- the latest one of its NAME -/
theorem lk_f {N : Int → Int} {i k t : Int} : ∀ {l : List (Int × Int)}, List.Pairwise (fun a b => b.1 < a.1) l → (i, k) ∈ l → N k = N t → (∀ q ∈ l, i < q.1 → ¬ N q.2 = N t) → (∀ q ∈ l, q.1 = i → q.2 = k) → lkZ N l t = i := by
  intro l
  induction l with
  | nil => intro _ h; cases h
  | cons q l ih =>
    obtain ⟨v, k'⟩ := q
    intro hp hm hk hn hu
    rw [lkZ]
    rcases List.mem_cons.mp hm with e | m
    · cases e
      rw [if_pos hk]
    · have lt := (List.pairwise_cons.mp hp).1 _ m
      rw [if_neg (hn (v, k') List.mem_cons_self lt)]
      exact ih (List.pairwise_cons.mp hp).2 m hk (fun q hq => hn q (List.mem_cons_of_mem _ hq)) (fun q hq => hu q (List.mem_cons_of_mem _ hq))
theorem lk_n {N : Int → Int} {t : Int} : ∀ {l : List (Int × Int)}, (∀ q ∈ l, ¬ N q.2 = N t) → lkZ N l t = -1 := by
  intro l
  induction l with
  | nil => intro _; rfl
  | cons q l ih =>
    obtain ⟨v, k'⟩ := q
    intro hn
    rw [lkZ, if_neg (hn (v, k') List.mem_cons_self)]
    exact ih (fun q hq => hn q (List.mem_cons_of_mem _ hq))
/-- one row of ints alone, at one place -/
theorem ZC.mn {N : Int → Int} {E A B V : Nat → Nat} {σ : CsC} {z : ZS} {f : Nat → Int32} (h : ZC N E A B V σ z) : ZC N E A B V (qIC σ (E 303) f) z := by
  obtain ⟨h1, h2, ⟨h7, h8⟩, l, x, s, v⟩ := h
  refine ⟨h1, h2, ⟨fun j => ?_, h8⟩, l, ⟨x.1, fun i hi => ⟨(x.2 i hi).1, ChC.cg (σ := σ) (τ := qIC σ (E 303) f) (fun _ _ => rfl) (x.2 i hi).2⟩⟩, s, v⟩
  show (u1C (eIC σ) (E 303) f (E 302) j).toInt = _
  rw [u1C_ne h1.2.2.2.2.2.2]
  exact h7 j
theorem FzC.mn {n m : Nat} {E A B V : Nat → Nat} {z : ZS} {σ : CsC} {w : Int32} {t : Nat} (ht : zAt z.1 ≤ (t : Int)) : FzC n m E A A B B V V z z σ (qIC σ (E 303) (upd (eIC σ (E 303)) t w)) := ⟨Nat.le_refl _, fun _ _ _ _ => ⟨rfl, rfl, rfl⟩, ⟨⟨Nat.le_refl _, fun _ _ => ⟨rfl, rfl⟩⟩, fun i h1 h2 => absurd h2 (Nat.not_lt.mpr h1)⟩, ⟨⟨Nat.le_refl _, fun _ _ => ⟨rfl, rfl, rfl⟩⟩, fun i h1 h2 => absurd h2 (Nat.not_lt.mpr h1)⟩, ⟨Nat.le_refl _, fun _ _ => ⟨rfl, rfl⟩⟩, Int.le_refl _, fun j hj => by
  show u1C (eIC σ) (E 303) (upd (eIC σ (E 303)) t w) (E 303) j = _
  rw [u1C_eq, upd_ne (by omega)]⟩
abbrev Pz_has : ((Int → Int) × (Nat → Nat) × (Nat → Nat) × (Nat → Nat) × (Nat → Nat) × ZS × Nat) → CpC := fun y As σ => match y with
  | (N, E, A, B, V, z, v) => ∃ (p0 : Int64) (p1 : Int32), As = [.inr (.inl p0), .inl p1] ∧ (p1.toInt = (v : Int)) ∧ (v < 64)
abbrev Qz_has : ((Int → Int) × (Nat → Nat) × (Nat → Nat) × (Nat → Nat) × (Nat → Nat) × ZS × Nat) → CqC := fun y As σ w τ => match y, As with
  | (N, E, A, B, V, z, v), [.inr (.inl p0), .inl p1] => (∃ r, w = some (.inl r) ∧ r.toInt = 1 ∧ p0.toBitVec.getLsbD v = true ∧ σ = τ) ∨ (∃ r, w = some (.inl r) ∧ r.toInt = 0 ∧ p0.toBitVec.getLsbD v = false ∧ σ = τ)
  | _, _ => True
abbrev Uz_has : CqC := fun As σ w τ => ∀ y, Pz_has y As σ → Qz_has y As σ w τ
set_option maxHeartbeats 4000000 in
theorem pz_has (y : (Int → Int) × (Nat → Nat) × (Nat → Nat) × (Nat → Nat) × (Nat → Nat) × ZS × Nat) : PbC KX11_has [] [] (fun As σ => Pz_has y As σ ∧ cnC σ ≤ 1000000 ∧ ∃ w τ, uqC quL 221 As σ w τ) (Qz_has y) := by
  obtain ⟨N, E, A, B, V, z, v⟩ := y
  rintro As σ ⟨⟨p0, p1, rfl, hp1, hv⟩, hcn, _, _, hQ⟩ K hB hW n_
  change K n_ 0 [(0, .inr (.inl p0)), (2, .inl p1)] [] σ
  refine hB _ _ _ _ _ (fun m51 hm51 => ?_)
  dsimp only [ucgo, ucwp, ucsC, uqC, uoC, ctC, rfd, KX11_has, KX11_has_0, KX11_has_10, KX11_has_14, KX11_has_15, lkC, s1C, s2C, dlC, kyC, Nat.beq, Nat.ble, rcd, rno, rsw, Nat.reduceAdd, Nat.reduceBEq, Nat.reduceDiv, List.drop, List.take, List.reverse, List.reverseAux, Int.toNat, Option.toList, List.append, List.cons_append, List.nil_append]
  have lc52 : (lg_cmp (((p0.toUInt64 >>> (p1.toInt64.toUInt64 &&& Int64.toUInt64 63)).toInt64) &&& (Int64.ofNat ((1 : Fin 2) : Nat))) (Int64.ofNat ((0 : Fin 2) : Nat))).toInt = 0 → (((p0.toUInt64 >>> (p1.toInt64.toUInt64 &&& Int64.toUInt64 63)).toInt64) &&& (Int64.ofNat ((1 : Fin 2) : Nat))) = (Int64.ofNat ((0 : Fin 2) : Nat)) := lcmpC
  have ld52 : (((p0.toUInt64 >>> (p1.toInt64.toUInt64 &&& Int64.toUInt64 63)).toInt64) &&& (Int64.ofNat ((1 : Fin 2) : Nat))) = (Int64.ofNat ((0 : Fin 2) : Nat)) → (lg_cmp (((p0.toUInt64 >>> (p1.toInt64.toUInt64 &&& Int64.toUInt64 63)).toInt64) &&& (Int64.ofNat ((1 : Fin 2) : Nat))) (Int64.ofNat ((0 : Fin 2) : Nat))).toInt = 0 := fun e => by rw [e]; exact lcmp0
  refine ⟨fun h53 => ?_, fun h53 => ?_⟩
  · have g53 := (eqI (x := (lg_cmp (((p0.toUInt64 >>> (p1.toInt64.toUInt64 &&& Int64.toUInt64 63)).toInt64) &&& (Int64.ofNat ((1 : Fin 2) : Nat))) (Int64.ofNat ((0 : Fin 2) : Nat)))) (y := 0) h53 : ((lg_cmp (((p0.toUInt64 >>> (p1.toInt64.toUInt64 &&& Int64.toUInt64 63)).toInt64) &&& (Int64.ofNat ((1 : Fin 2) : Nat))) (Int64.ofNat ((0 : Fin 2) : Nat))) : Int32).toInt = (0 : Int32).toInt)
    have z0_ : (0 : Int32).toInt = 0 := rfl
    refine hB _ _ _ _ _ (fun m54 hm54 => ?_)
    dsimp only [ucgo, ucwp, ucsC, uqC, uoC, ctC, rfd, KX11_has, KX11_has_0, KX11_has_10, KX11_has_14, KX11_has_15, lkC, s1C, s2C, dlC, kyC, Nat.beq, Nat.ble, rcd, rno, rsw, Nat.reduceAdd, Nat.reduceBEq, Nat.reduceDiv, List.drop, List.take, List.reverse, List.reverseAux, Int.toNat, Option.toList, List.append, List.cons_append, List.nil_append]
    have c55 : (Int32.ofInt 0).toInt = 0 := by decide
    refine hB _ _ _ _ _ (fun m56 hm56 => ?_)
    dsimp only [ucgo, ucwp, ucsC, uqC, uoC, ctC, rfd, KX11_has, KX11_has_0, KX11_has_10, KX11_has_14, KX11_has_15, lkC, s1C, s2C, dlC, kyC, Nat.beq, Nat.ble, rcd, rno, rsw, Nat.reduceAdd, Nat.reduceBEq, Nat.reduceDiv, List.drop, List.take, List.reverse, List.reverseAux, Int.toNat, Option.toList, List.append, List.cons_append, List.nil_append]
    try dsimp only [Qz_has]
    exact Or.inr ⟨_, rfl, by omega, (has_b hp1 hv).mp (lc52 (by omega)), rfl⟩
  · have g53 := (neI (x := (lg_cmp (((p0.toUInt64 >>> (p1.toInt64.toUInt64 &&& Int64.toUInt64 63)).toInt64) &&& (Int64.ofNat ((1 : Fin 2) : Nat))) (Int64.ofNat ((0 : Fin 2) : Nat)))) (y := 0) h53 : ¬ ((lg_cmp (((p0.toUInt64 >>> (p1.toInt64.toUInt64 &&& Int64.toUInt64 63)).toInt64) &&& (Int64.ofNat ((1 : Fin 2) : Nat))) (Int64.ofNat ((0 : Fin 2) : Nat))) : Int32).toInt = (0 : Int32).toInt)
    have z0_ : (0 : Int32).toInt = 0 := rfl
    refine hB _ _ _ _ _ (fun m57 hm57 => ?_)
    dsimp only [ucgo, ucwp, ucsC, uqC, uoC, ctC, rfd, KX11_has, KX11_has_0, KX11_has_10, KX11_has_14, KX11_has_15, lkC, s1C, s2C, dlC, kyC, Nat.beq, Nat.ble, rcd, rno, rsw, Nat.reduceAdd, Nat.reduceBEq, Nat.reduceDiv, List.drop, List.take, List.reverse, List.reverseAux, Int.toNat, Option.toList, List.append, List.cons_append, List.nil_append]
    have c58 : (Int32.ofInt 1).toInt = 1 := by decide
    refine hB _ _ _ _ _ (fun m59 hm59 => ?_)
    dsimp only [ucgo, ucwp, ucsC, uqC, uoC, ctC, rfd, KX11_has, KX11_has_0, KX11_has_10, KX11_has_14, KX11_has_15, lkC, s1C, s2C, dlC, kyC, Nat.beq, Nat.ble, rcd, rno, rsw, Nat.reduceAdd, Nat.reduceBEq, Nat.reduceDiv, List.drop, List.take, List.reverse, List.reverseAux, Int.toNat, Option.toList, List.append, List.cons_append, List.nil_append]
    try dsimp only [Qz_has]
    refine Or.inl ⟨_, rfl, by omega, ?_, rfl⟩
    cases hb9 : p0.toBitVec.getLsbD v with
    | true => rfl
    | false => exact absurd (ld52 ((has_b hp1 hv).mpr hb9)) (by omega)
theorem wz_has : ∀ (L : Nat) (As : List AvC) (σ : CsC) (w : Option AvC) (τ : CsC), EvF L 221 As σ w τ → Uz_has As σ w τ := by
  intro L
  cases L with
  | zero => exact fun _ _ _ _ h => h.elim
  | succ L => exact fun As σ w τ h y hy => EvF.us (cs := []) (pz_has y) rfl (fun _ h => absurd h List.not_mem_nil) h hy
abbrev Pz_lookUp : ((Int → Int) × (Nat → Nat) × (Nat → Nat) × (Nat → Nat) × (Nat → Nat) × ZS × Int) → CpC := fun y As σ => match y with
  | (N, E, A, B, V, z, t) => ∃ (p1 : Int64), As = [.inr (.inr (some (E 0))), .inr (.inl p1)] ∧ (ZC N E A B V σ z) ∧ (p1.toInt = N t)
abbrev Qz_lookUp : ((Int → Int) × (Nat → Nat) × (Nat → Nat) × (Nat → Nat) × (Nat → Nat) × ZS × Int) → CqC := fun y As σ w τ => match y, As with
  | (N, E, A, B, V, z, t), [_, .inr (.inl p1)] => ∃ r, w = some (.inl r) ∧ r.toInt = lkM N z t ∧ σ = τ
  | _, _ => True
abbrev Uz_lookUp : CqC := fun As σ w τ => ∀ y, Pz_lookUp y As σ → Qz_lookUp y As σ w τ
set_option maxHeartbeats 4000000 in
theorem pz_lookUp (y : (Int → Int) × (Nat → Nat) × (Nat → Nat) × (Nat → Nat) × (Nat → Nat) × ZS × Int) : PbC KX7_lookUp [(234, TrP, EqC 234), (221, TrP, EqC 221), (235, TrP, EqC 235)] [(221, Uz_has)] (fun As σ => Pz_lookUp y As σ ∧ cnC σ ≤ 1000000 ∧ ∃ w τ, uqC quL 139 As σ w τ) (Qz_lookUp y) := by
  obtain ⟨N, E, A, B, V, z, t⟩ := y
  rintro As σ ⟨⟨p1, rfl, hZ, hp1⟩, hcn, _, _, hQ⟩ K hB hW n_
  have hH : HI0 σ ∧ TyC σ (E 0) 8 := hQ
  have hat := hZ.at0 hH
  have hkn := hZ.2.2.2.2.2.2.2.1
  have hkb := hZ.2.1.2.1
  have hnv : (zVs z.1).length ≤ 60 := hZ.2.2.2.2.2.2.2.2.2.1
  have L13 : ∀ (n : Nat) (i : Int32), -1 ≤ i.toInt → i.toInt < ((zVs z.1).length : Int) → (∀ q ∈ z.2.2.2.1.1, i.toInt < q.1 → ¬ N q.2 = N t) → K n 13 [(0, .inr (.inr (some (E 0)))), (1, .inr (.inl p1)), (3, .inl i)] [] σ := by
    intro n
    induction n using Nat.strongRecOn with
    | _ n ih =>
      intro i h1 h2 h3
      refine hB _ _ _ _ _ (fun m51 hm51 => ?_)
      dsimp only [ucgo, ucwp, ucsC, uqC, uoC, ctC, rfd, KX7_lookUp, KX7_lookUp_0, KX7_lookUp_13, KX7_lookUp_17, KX7_lookUp_28, KX7_lookUp_58, KX7_lookUp_60, KX7_lookUp_66, lkC, s1C, s2C, dlC, kyC, Nat.beq, Nat.ble, rcd, rno, rsw, Nat.reduceAdd, Nat.reduceBEq, Nat.reduceDiv, List.drop, List.take, List.reverse, List.reverseAux, Int.toNat, Option.toList, List.append, List.cons_append, List.nil_append, zg212, zg240, zg241, zg245, zg304, zg330]
      refine ⟨fun h52 => ?_, fun h52 => ?_⟩
      · have g52 := ltI (x := i) (y := 0) h52
        have z0_ : (0 : Int32).toInt = 0 := rfl
        refine hB _ _ _ _ _ (fun m53 hm53 => ?_)
        dsimp only [ucgo, ucwp, ucsC, uqC, uoC, ctC, rfd, KX7_lookUp, KX7_lookUp_0, KX7_lookUp_13, KX7_lookUp_17, KX7_lookUp_28, KX7_lookUp_58, KX7_lookUp_60, KX7_lookUp_66, lkC, s1C, s2C, dlC, kyC, Nat.beq, Nat.ble, rcd, rno, rsw, Nat.reduceAdd, Nat.reduceBEq, Nat.reduceDiv, List.drop, List.take, List.reverse, List.reverseAux, Int.toNat, Option.toList, List.append, List.cons_append, List.nil_append, zg212, zg240, zg241, zg245, zg304, zg330]
        have c54 : (Int32.ofInt (-1)).toInt = -1 := by decide
        try dsimp only [Qz_lookUp]
        exact ⟨_, rfl, by show _ = lkZ N _ t; rw [lk_n (fun q hq => h3 q hq (by have := (hkn q hq).1; omega))]; omega, rfl⟩
      · have g52 := nltI (x := i) (y := 0) h52
        have z0_ : (0 : Int32).toInt = 0 := rfl
        refine hB _ _ _ _ _ (fun m55 hm55 => ?_)
        dsimp only [ucgo, ucwp, ucsC, uqC, uoC, ctC, rfd, KX7_lookUp, KX7_lookUp_0, KX7_lookUp_13, KX7_lookUp_17, KX7_lookUp_28, KX7_lookUp_58, KX7_lookUp_60, KX7_lookUp_66, lkC, s1C, s2C, dlC, kyC, Nat.beq, Nat.ble, rcd, rno, rsw, Nat.reduceAdd, Nat.reduceBEq, Nat.reduceDiv, List.drop, List.take, List.reverse, List.reverseAux, Int.toNat, Option.toList, List.append, List.cons_append, List.nil_append, zg212, zg240, zg241, zg245, zg304, zg330]
        intro a56 e56 ob56
        cases e56
        intro w57 τ57 o57 q57
        have qq57 := q57 (N, E, A, B, V, z, i.toInt.toNat) ⟨_, _, rfl, by omega, by omega⟩
        obtain ⟨r57, rfl, hr57, rfl⟩ : ∃ r, w57 = some (.inl r) ∧ ((r.toInt = 1 ∧ (fLC σ (E 0) 245).toBitVec.getLsbD i.toInt.toNat = true) ∨ (r.toInt = 0 ∧ (fLC σ (E 0) 245).toBitVec.getLsbD i.toInt.toNat = false)) ∧ σ = τ57 := by
          rcases qq57 with ⟨r, h1, h2, h3, h4⟩ | ⟨r, h1, h2, h3, h4⟩
          · exact ⟨r, h1, Or.inl ⟨h2, h3⟩, h4⟩
          · exact ⟨r, h1, Or.inr ⟨h2, h3⟩, h4⟩
        try dsimp only [Option.toList, List.cons_append, List.nil_append, s1C, s2C, dlC, kyC, Nat.beq, lkC, rcd, rno, rsw]
        refine ⟨fun h58 => ?_, fun h58 => ?_⟩
        · have g58 := (eqI (x := r57) (y := 0) h58 : (r57 : Int32).toInt = (0 : Int32).toInt)
          have z0_ : (0 : Int32).toInt = 0 := rfl
          refine hB _ _ _ _ _ (fun m59 hm59 => ?_)
          dsimp only [ucgo, ucwp, ucsC, uqC, uoC, ctC, rfd, KX7_lookUp, KX7_lookUp_0, KX7_lookUp_13, KX7_lookUp_17, KX7_lookUp_28, KX7_lookUp_58, KX7_lookUp_60, KX7_lookUp_66, lkC, s1C, s2C, dlC, kyC, Nat.beq, Nat.ble, rcd, rno, rsw, Nat.reduceAdd, Nat.reduceBEq, Nat.reduceDiv, List.drop, List.take, List.reverse, List.reverseAux, Int.toNat, Option.toList, List.append, List.cons_append, List.nil_append, zg212, zg240, zg241, zg245, zg304, zg330]
          have c60 : (Int32.ofInt (-1)).toInt = -1 := by decide
          have u61 := tiC i
          have a61 : (i + (Int32.ofInt (-1))).toInt = i.toInt + (-1) := addC (by omega) (by omega) (by omega)
          generalize (i + (Int32.ofInt (-1))) = j9 at *
          refine hW _ 13 [(0, .inr (.inr (some (E 0)))), (1, .inr (.inl p1)), (3, .inl j9)] _ _ _ (List.forall_mem_cons.2 ⟨List.Mem.tail _ (List.Mem.head _), List.forall_mem_cons.2 ⟨List.Mem.tail _ (List.Mem.tail _ (List.Mem.head _)), List.forall_mem_cons.2 ⟨List.Mem.head _, fun _ h => absurd h List.not_mem_nil⟩⟩⟩) (ih _ (by omega) j9 (by omega) (by omega) (fun q hq hl => ?_))
          by_cases c9 : i.toInt < q.1
          · exact h3 q hq c9
          · have e9 : q.1 = i.toInt := by omega
            first
              | exact absurd ((hkb i.toInt.toNat (by omega)).mpr ⟨q.2, by rw [show ((i.toInt.toNat : Nat) : Int) = q.1 by omega]; exact hq⟩) (by rw [show (fLC σ (E 0) 245).toBitVec.getLsbD i.toInt.toNat = false by rcases hr57 with z | z; exact absurd z.1 (by omega); exact z.2]; decide)
              | (intro e8; refine absurd (ld0 ?_) (by omega); refine Int64.toInt_inj.mp ?_; rw [hp1, ← e8, hZ.2.2.1.2]; exact congrArg N (by have hx9 := hw0.1; have hy9 := nltI (y := (0 : Int32)) (fun q => v0 (Or.inl q)); have hz9 : (0 : Int32).toInt = 0 := rfl; rw [(hkn q hq).2.2, e9, nT_toNat]; omega))
        · have g58 := (neI (x := r57) (y := 0) h58 : ¬ (r57 : Int32).toInt = (0 : Int32).toInt)
          have z0_ : (0 : Int32).toInt = 0 := rfl
          refine hB _ _ _ _ _ (fun m62 hm62 => ?_)
          dsimp only [ucgo, ucwp, ucsC, uqC, uoC, ctC, rfd, KX7_lookUp, KX7_lookUp_0, KX7_lookUp_13, KX7_lookUp_17, KX7_lookUp_28, KX7_lookUp_58, KX7_lookUp_60, KX7_lookUp_66, lkC, s1C, s2C, dlC, kyC, Nat.beq, Nat.ble, rcd, rno, rsw, Nat.reduceAdd, Nat.reduceBEq, Nat.reduceDiv, List.drop, List.take, List.reverse, List.reverseAux, Int.toNat, Option.toList, List.append, List.cons_append, List.nil_append, zg212, zg240, zg241, zg245, zg304, zg330]
          intro a63 e63 ob63
          cases e63
          intro a64 e64 ob64
          obtain rfl : E 2 = a64 := Option.some.inj (hZ.1.1.2.symm.trans e64)
          intro a65 e65 ob65
          cases e65
          intro a66 e66 ob66
          obtain rfl : E 1 = a66 := Option.some.inj (hZ.1.1.1.symm.trans e66)
          rw [hZ.1.2.1.2.1]
          try dsimp only
          intro w67 τ67 o67 q67
          have hg67 : Q_Jx4a65c_get_915e3 [.inr (.inr (some (E 212))), .inl i] σ w67 τ67 ∧ U_get [.inr (.inr (some (E 212))), .inl i] σ w67 τ67 := o67.1.1
          obtain ⟨b67, rfl, rfl, -⟩ := hg67.1
          have he67 := hg67.2 b67 rfl
          have hv67 := hZ.2.2.2.1.2.2.1.2 i.toInt.toNat (by omega)
          obtain rfl : V i.toInt.toNat = b67 := Option.some.inj (hv67.1.symm.trans (by rw [← nT_toNat]; exact he67))
          have hw67 := hZ.2.2.2.2.2.2.1 i.toInt.toNat (by omega)
          try dsimp only [Option.toList, List.cons_append, List.nil_append, s1C, s2C, dlC, kyC, Nat.beq, lkC, rcd, rno, rsw]
          intro oc68
          intro a69 e69 ob69
          cases e69
          intro a70 e70 t70 v70
          obtain rfl : E 304 = a70 := Option.some.inj (hZ.1.2.2.1.2.2.symm.trans e70)
          have lc71 : (lg_cmp (eLC σ (E 304) (fIC σ (V i.toInt.toNat) 330).toNatClampNeg) p1).toInt = 0 → (eLC σ (E 304) (fIC σ (V i.toInt.toNat) 330).toNatClampNeg) = p1 := lcmpC
          have ld71 : (eLC σ (E 304) (fIC σ (V i.toInt.toNat) 330).toNatClampNeg) = p1 → (lg_cmp (eLC σ (E 304) (fIC σ (V i.toInt.toNat) 330).toNatClampNeg) p1).toInt = 0 := fun e => by rw [e]; exact lcmp0
          refine ⟨fun h72 => ?_, fun h72 => ?_⟩
          · have g72 := (neI (x := (lg_cmp (eLC σ (E 304) (fIC σ (V i.toInt.toNat) 330).toNatClampNeg) p1)) (y := 0) h72 : ¬ ((lg_cmp (eLC σ (E 304) (fIC σ (V i.toInt.toNat) 330).toNatClampNeg) p1) : Int32).toInt = (0 : Int32).toInt)
            have z0_ : (0 : Int32).toInt = 0 := rfl
            refine hB _ _ _ _ _ (fun m73 hm73 => ?_)
            dsimp only [ucgo, ucwp, ucsC, uqC, uoC, ctC, rfd, KX7_lookUp, KX7_lookUp_0, KX7_lookUp_13, KX7_lookUp_17, KX7_lookUp_28, KX7_lookUp_58, KX7_lookUp_60, KX7_lookUp_66, lkC, s1C, s2C, dlC, kyC, Nat.beq, Nat.ble, rcd, rno, rsw, Nat.reduceAdd, Nat.reduceBEq, Nat.reduceDiv, List.drop, List.take, List.reverse, List.reverseAux, Int.toNat, Option.toList, List.append, List.cons_append, List.nil_append, zg212, zg240, zg241, zg245, zg304, zg330]
            have c74 : (Int32.ofInt (-1)).toInt = -1 := by decide
            have u75 := tiC i
            have a75 : (i + (Int32.ofInt (-1))).toInt = i.toInt + (-1) := addC (by omega) (by omega) (by omega)
            generalize (i + (Int32.ofInt (-1))) = j9 at *
            refine hW _ 13 [(0, .inr (.inr (some (E 0)))), (1, .inr (.inl p1)), (3, .inl j9)] _ _ _ (List.forall_mem_cons.2 ⟨List.Mem.tail _ (List.Mem.head _), List.forall_mem_cons.2 ⟨List.Mem.tail _ (List.Mem.tail _ (List.Mem.head _)), List.forall_mem_cons.2 ⟨List.Mem.head _, fun _ h => absurd h List.not_mem_nil⟩⟩⟩) (ih _ (by omega) j9 (by omega) (by omega) (fun q hq hl => ?_))
            by_cases c9 : i.toInt < q.1
            · exact h3 q hq c9
            · have e9 : q.1 = i.toInt := by omega
              first
                | exact absurd ((hkb i.toInt.toNat (by omega)).mpr ⟨q.2, by rw [show ((i.toInt.toNat : Nat) : Int) = q.1 by omega]; exact hq⟩) (by rw [show (fLC σ (E 0) 245).toBitVec.getLsbD i.toInt.toNat = false by rcases hr57 with z | z; exact absurd z.1 (by omega); exact z.2]; decide)
                | (intro e8; refine absurd (ld71 ?_) (by omega); refine Int64.toInt_inj.mp ?_; rw [hp1, ← e8, hZ.2.2.1.2]; exact congrArg N (by have hx9 := hw67.1; have hy9 := nltI (y := (0 : Int32)) (fun q => v70 (Or.inl q)); have hz9 : (0 : Int32).toInt = 0 := rfl; rw [(hkn q hq).2.2, e9, nT_toNat]; omega))
          · have g72 := (eqI (x := (lg_cmp (eLC σ (E 304) (fIC σ (V i.toInt.toNat) 330).toNatClampNeg) p1)) (y := 0) h72 : ((lg_cmp (eLC σ (E 304) (fIC σ (V i.toInt.toNat) 330).toNatClampNeg) p1) : Int32).toInt = (0 : Int32).toInt)
            have z0_ : (0 : Int32).toInt = 0 := rfl
            refine hB _ _ _ _ _ (fun m76 hm76 => ?_)
            dsimp only [ucgo, ucwp, ucsC, uqC, uoC, ctC, rfd, KX7_lookUp, KX7_lookUp_0, KX7_lookUp_13, KX7_lookUp_17, KX7_lookUp_28, KX7_lookUp_58, KX7_lookUp_60, KX7_lookUp_66, lkC, s1C, s2C, dlC, kyC, Nat.beq, Nat.ble, rcd, rno, rsw, Nat.reduceAdd, Nat.reduceBEq, Nat.reduceDiv, List.drop, List.take, List.reverse, List.reverseAux, Int.toNat, Option.toList, List.append, List.cons_append, List.nil_append, zg212, zg240, zg241, zg245, zg304, zg330]
            try dsimp only [Qz_lookUp]
            have hbit := (hkb i.toInt.toNat (by omega)).mp (by rcases hr57 with z | z; exact z.2; exact absurd z.1 (by omega))
            obtain ⟨k9, hk9⟩ := hbit
            have hk9 : (i.toInt, k9) ∈ z.2.2.2.1.1 := by rw [show i.toInt = ((i.toInt.toNat : Nat) : Int) by omega]; exact hk9
            have ek9 : k9 = (vth z.1 i.toInt.toNat).1 := (hkn _ hk9).2.2
            have hN : N k9 = N t := by
              rw [← hp1, ← lc71 (by omega), hZ.2.2.1.2]
              exact congrArg N (by have hx9 := hw67.1; have hy9 := nltI (y := (0 : Int32)) (fun q => v70 (Or.inl q)); have hz9 : (0 : Int32).toInt = 0 := rfl; rw [ek9, nT_toNat]; omega)
            exact ⟨_, rfl, (show i.toInt = lkZ N z.2.2.2.1.1 t from (lk_f hZ.2.2.2.2.2.2.2.2.1 hk9 hN h3 (fun q hq e => by rw [(hkn q hq).2.2, e]; exact ek9.symm)).symm), rfl⟩
  change K n_ 0 [(0, .inr (.inr (some (E 0)))), (1, .inr (.inl p1))] [] σ
  refine hB _ _ _ _ _ (fun m77 hm77 => ?_)
  dsimp only [ucgo, ucwp, ucsC, uqC, uoC, ctC, rfd, KX7_lookUp, KX7_lookUp_0, KX7_lookUp_13, KX7_lookUp_17, KX7_lookUp_28, KX7_lookUp_58, KX7_lookUp_60, KX7_lookUp_66, lkC, s1C, s2C, dlC, kyC, Nat.beq, Nat.ble, rcd, rno, rsw, Nat.reduceAdd, Nat.reduceBEq, Nat.reduceDiv, List.drop, List.take, List.reverse, List.reverseAux, Int.toNat, Option.toList, List.append, List.cons_append, List.nil_append, zg212, zg240, zg241, zg245, zg304, zg330]
  intro a78 e78 ob78
  cases e78
  intro a79 e79 ob79
  obtain rfl : E 1 = a79 := Option.some.inj (hZ.1.1.1.symm.trans e79)
  rw [hZ.1.2.1.2.1]
  try dsimp only
  intro w80 τ80 o80 q80
  obtain ⟨r80, rfl, rfl, hr80a, hr80b, hr80, -⟩ := (show Q_Jx4a65c_size_8abf5 [.inr (.inr (some (E 212)))] σ w80 τ80 from o80.1.1)
  have hv80 : r80.toInt = ((zVs z.1).length : Int) := by rw [← hr80]; exact hZ.2.2.2.1.2.2.1.1
  try dsimp only [Option.toList, List.cons_append, List.nil_append, s1C, s2C, dlC, kyC, Nat.beq, lkC, rcd, rno, rsw]
  have c81 : (Int32.ofInt 1).toInt = 1 := by decide
  have u82 := tiC r80
  have a82 : (r80 - (Int32.ofInt 1)).toInt = ((zVs z.1).length : Int) - 1 := subC (by omega) (by omega) (by omega)
  generalize (r80 - (Int32.ofInt 1)) = j9 at *
  exact hW _ 13 [(0, .inr (.inr (some (E 0)))), (1, .inr (.inl p1)), (3, .inl j9)] _ _ _ (List.forall_mem_cons.2 ⟨List.Mem.tail _ (List.Mem.head _), List.forall_mem_cons.2 ⟨List.Mem.tail _ (List.Mem.tail _ (List.Mem.head _)), List.forall_mem_cons.2 ⟨List.Mem.head _, fun _ h => absurd h List.not_mem_nil⟩⟩⟩) (L13 _ j9 (by omega) (by omega) (fun q hq hl => absurd (hkn q hq).2.1 (by omega)))
theorem wz_lookUp : ∀ (L : Nat) (As : List AvC) (σ : CsC) (w : Option AvC) (τ : CsC), EvF L 139 As σ w τ → Uz_lookUp As σ w τ := by
  intro L
  cases L with
  | zero => exact fun _ _ _ _ h => h.elim
  | succ L => exact fun As σ w τ h y hy => EvF.us (cs := [234, 221, 235]) (pz_lookUp y) rfl (List.forall_mem_cons.2 ⟨fun _ _ _ _ _ => trivial, List.forall_mem_cons.2 ⟨wz_has L, List.forall_mem_cons.2 ⟨fun _ _ _ _ _ => trivial, fun _ h => absurd h List.not_mem_nil⟩⟩⟩) h hy
abbrev Pz_meant : ((Int → Int) × (Nat → Nat) × (Nat → Nat) × (Nat → Nat) × (Nat → Nat) × ZS × Int) → CpC := fun y As σ => match y with
  | (N, E, A, B, V, z, t) => ∃ (p1 : Int32), As = [.inr (.inr (some (E 0))), .inl p1] ∧ (ZC N E A B V σ z) ∧ (p1.toInt = t) ∧ (zAt z.1 ≤ t ∧ t ≤ 502)
abbrev Qz_meant : ((Int → Int) × (Nat → Nat) × (Nat → Nat) × (Nat → Nat) × (Nat → Nat) × ZS × Int) → CqC := fun y As σ w τ => match y, As with
  | (N, E, A, B, V, z, t), [_, .inl p1] => ∃ r, w = some (.inl r) ∧ r.toInt = lkM N z t ∧ ZC N E A B V τ z ∧ FzC (cnC σ) (xnM z) E A A B B V V z z σ τ ∧ (eIC τ (E 303) t.toNat).toInt = lkM N z t
  | _, _ => True
abbrev Uz_meant : CqC := fun As σ w τ => ∀ y, Pz_meant y As σ → Qz_meant y As σ w τ
set_option maxHeartbeats 4000000 in
theorem pz_meant (y : (Int → Int) × (Nat → Nat) × (Nat → Nat) × (Nat → Nat) × (Nat → Nat) × ZS × Int) : PbC KX7_meant [(139, TrP, EqC 139)] [(139, Uz_lookUp)] (fun As σ => Pz_meant y As σ ∧ cnC σ ≤ 1000000 ∧ ∃ w τ, uqC quL 140 As σ w τ) (Qz_meant y) := by
  obtain ⟨N, E, A, B, V, z, t⟩ := y
  rintro As σ ⟨⟨p1, rfl, hZ, hp1, ht⟩, hcn, _, _, hQ⟩ K hB hW n_
  have hH : HI0 σ ∧ TyC σ (E 0) 8 := hQ
  have hat := hZ.at0 hH
  change K n_ 0 [(0, .inr (.inr (some (E 0)))), (1, .inl p1)] [] σ
  refine hB _ _ _ _ _ (fun m51 hm51 => ?_)
  dsimp only [ucgo, ucwp, ucsC, uqC, uoC, ctC, rfd, KX7_meant, KX7_meant_0, lkC, s1C, s2C, dlC, kyC, Nat.beq, Nat.ble, rcd, rno, rsw, Nat.reduceAdd, Nat.reduceBEq, Nat.reduceDiv, List.drop, List.take, List.reverse, List.reverseAux, Int.toNat, Option.toList, List.append, List.cons_append, List.nil_append, zg241, zg303, zg304]
  intro a52 e52 ob52
  cases e52
  intro a53 e53 ob53
  obtain rfl : E 2 = a53 := Option.some.inj (hZ.1.1.2.symm.trans e53)
  intro a54 e54 t54 v54
  obtain rfl : E 304 = a54 := Option.some.inj (hZ.1.2.2.1.2.2.symm.trans e54)
  intro w55 τ55 o55 q55
  obtain ⟨r55, rfl, hr55, rfl⟩ := q55 (N, E, A, B, V, z, t) ⟨_, rfl, hZ, by rw [hZ.2.2.1.2, nT_toNat, show (p1 : Int32).toInt.toNat = (t).toNat by omega]; exact congrArg N (by omega)⟩
  try dsimp only [Option.toList, List.cons_append, List.nil_append, s1C, s2C, dlC, kyC, Nat.beq, lkC, rcd, rno, rsw]
  intro a56 e56 ob56
  cases e56
  intro a57 e57 ob57
  obtain rfl : E 2 = a57 := Option.some.inj (hZ.1.1.2.symm.trans e57)
  intro a58 e58 t58 v58
  obtain rfl : E 303 = a58 := Option.some.inj (hZ.1.2.2.1.2.1.symm.trans e58)
  generalize hs58 : qIC σ (E 303) (upd (eIC σ (E 303)) p1.toNatClampNeg r55) = s58
  have hZ58 : ZC N E A B V s58 z := by rw [← hs58]; exact hZ.mn
  have hF58 := FzC.tr (FzC.rf (n := cnC σ) (m := xnM z) (E := E) (A := A) (B := B) (V := V) (z := z) (σ := σ)) (show FzC (cnC σ) (xnM z) E A A B B V V z z σ s58 by rw [← hs58]; exact FzC.mn (by rw [nT_toNat]; omega))
  have hm58_ : (eIC s58 (E 303) t.toNat).toInt = lkM N z t := by
    rw [← hs58]
    show (u1C (eIC σ) (E 303) _ (E 303) t.toNat).toInt = _
    rw [u1C_eq, show t.toNat = p1.toNatClampNeg by rw [nT_toNat]; omega, upd_eq]
    omega
  try dsimp only [Qz_meant]
  exact ⟨_, rfl, by omega, hZ58, hF58, hm58_⟩
theorem wz_meant : ∀ (L : Nat) (As : List AvC) (σ : CsC) (w : Option AvC) (τ : CsC), EvF L 140 As σ w τ → Uz_meant As σ w τ := by
  intro L
  cases L with
  | zero => exact fun _ _ _ _ h => h.elim
  | succ L => exact fun As σ w τ h y hy => EvF.us (cs := [139]) (pz_meant y) rfl (List.forall_mem_cons.2 ⟨wz_lookUp L, fun _ h => absurd h List.not_mem_nil⟩) h hy

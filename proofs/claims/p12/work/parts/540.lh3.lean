theorem rd_key {ρ : RS} {x : TxY} {s : SpC} {n : Nat} (hok : okY x) (hx : (gI ρ 1).toInt = x.2 ∧ ∀ j, (aI ρ 0 j).toInt = x.1 j) (hZ : Z0Y s) (hT : TkS x s n) : ∀ (b : Int32) (T U : RS), EvM 6 [] ρ none T → EvM 37 [] T (some (.int b)) U → LxQ ρ T x ∧ ((some (Value.int b) = some (Value.int 0) ∧ FlR U (prlY 11 s)) ∨ (some (Value.int b) = some (Value.int 1) ∧ MhR U (prlY 11 s) ∧ codY (prlY 11 s) = 84)) := fun b T U e1 e2 => by
  have a : (none : Option Value) = none ∧ LxQ ρ T x := w_lexer [] ρ trivial none T e1 x ⟨hok, hx.1, hx.2⟩
  exact ⟨a.2, w_parse [] T trivial _ U e2 s ⟨sh_of hok a.2 hT hZ, hZ⟩⟩
/-- methods and variables that the reference has told -/
def RlRq (ρ : RS) (z : LzY) : Prop := (z.1 = mlR ρ (nT (gI ρ 36)) ∧ 0 ≤ gI ρ 36 ∧ gI ρ 36 ≤ 10) ∧ (z.2 = vlR ρ (nT (gI ρ 42)) ∧ 0 ≤ gI ρ 42 ∧ gI ρ 42 ≤ 60)
theorem ml_cg {σ τ : RS} (e37 : aI τ 37 = aI σ 37) (e38 : aI τ 38 = aI σ 38) (e39 : aI τ 39 = aI σ 39) (e40 : aI τ 40 = aI σ 40) (e44 : aI τ 44 = aI σ 44) : ∀ n, mlR τ n = mlR σ n := by
  intro n
  induction n with
  | zero => rfl
  | succ n ih => rw [mlR, mlR, ih, e37, e38, e39, e40, e44]
theorem vl_cg {σ τ : RS} (e43 : aI τ 43 = aI σ 43) (e44 : aI τ 44 = aI σ 44) (e45 : aI τ 45 = aI σ 45) (e46 : aI τ 46 = aI σ 46) : ∀ n, vlR τ n = vlR σ n := by
  intro n
  induction n with
  | zero => rfl
  | succ n ih => rw [vlR, vlR, ih, e43, e44, e45, e46]
theorem vlR_len {σ : RS} : ∀ n, (vlR σ n).length = n := by
  intro n
  induction n with
  | zero => rfl
  | succ n ih => rw [vlR, List.length_cons, ih]
theorem RlRq.k {ρ ρ1 : RS} {z : LzY} (h : RlRq ρ z) (k : KpQ ρ ρ1) : RlRq ρ1 z := by
  obtain ⟨⟨h1, h2⟩, h3, h4⟩ := h
  refine ⟨⟨?_, ?_⟩, ?_, ?_⟩
  · rw [k.1.2.1, ml_cg (k.2 37 rfl) (k.2 38 rfl) (k.2 39 rfl) (k.2 40 rfl) (k.2 44 rfl)]; exact h1
  · rw [k.1.2.1]; exact h2
  · rw [k.1.2.2, vl_cg (k.2 43 rfl) (k.2 44 rfl) (k.2 45 rfl) (k.2 46 rfl)]; exact h3
  · rw [k.1.2.2]; exact h4
theorem MhR.rl {U : RS} {S : SpC} (h : MhR U S) : RlRq U S.2.1 := ⟨⟨h.2.2.2.1, h.2.2.2.2.1⟩, h.2.2.1.1, h.2.2.1.2⟩
theorem TkS.c {x y : TxY} {s : SpC} {n : Nat} (h : TkS x s n) (e : EqT x y) : TkS y s n := by
  obtain ⟨h1, h2, h3, h4⟩ := h
  refine ⟨h1, fun j hj => ?_, ?_, ?_⟩
  · have q := h2 j hj
    rw [at_c e, one_c (bt_q e) e.1, e.1] at q
    exact q
  · rw [at_c e] at h3
    exact h3
  · rw [at_c e, one_c (bt_q e) e.1, e.1] at h4
    exact h4
/-- both halves answer alike; the text that is kept has its end, and the tokens that stand are its tokens -/
theorem rd_same {ρ ρ1 : RS} {r r2 : Int32} {s : SpC} {n : Nat} {A B : Prop} (hI : IV ρ) (hZ : Z0Y s) (hT : TkS (txR ρ) s n) (ha : (¬ zFt (prlY 11 s) = 0 ∧ r.toInt = -10 - zFt (prlY 11 s) ∧ A) ∨ (zFt (prlY 11 s) = 0 ∧ r.toInt = (zMs (prlY 11 s)).length ∧ B)) (h2 : RnX ρ r2 ρ1) : r = r2 ∧ ((A ∧ RnB2 ρ ρ1) ∨ (B ∧ EndY (txR ρ) n ∧ (RtR ρ1 (txR ρ) n ∧ RlRq ρ1 (prlY 11 s).2.1) ∧ RnG3 ρ ρ1)) := by
  have hok := tx_ok hI
  have key := rd_key (ρ := ρ) hok ⟨rfl, fun _ => rfl⟩ hZ hT
  have e0 : (0 : Int32).toInt = 0 := rfl
  rcases h2 with ⟨e36, ⟨⟨T, U, e1, e2, hkt, hkq, _⟩, _⟩, hg3⟩ | ⟨⟨f, ⟨T, U, e1, e2, rfl⟩, rfl⟩, hb2⟩
  · obtain ⟨hL, q⟩ := key 1 T U e1 e2
    rcases q with ⟨q, -⟩ | ⟨-, hM, hc⟩
    · exact absurd (Value.int.inj (Option.some.inj q)) (by decide)
    · obtain ⟨hS, -, -, zm, ⟨z3, -⟩, -⟩ := id hM
      rcases ha with ⟨z, -⟩ | ⟨-, z, hB⟩
      · exact absurd hS.1.1 z
      · have hE : EndY (txR ρ) n := end_of hok hL hT (by unfold zK; rw [(gn_prl 11 s).1]) hc hS hkt.1
        refine ⟨?_, Or.inr ⟨hB, hE, ⟨?_, hM.rl.k hkq⟩, hg3⟩⟩
        · apply Int32.toInt_inj.mp
          rw [z, zm, mlR_len, e36, hkq.1.2.1]
          show ((gI U 36).toInt.toNat : Int) = (gI U 36).toInt
          have y := Int32.le_iff_toInt_le.mp z3
          omega
        · have hR := lx_end hL hE
          have hR2 : RtR U (txR ρ) n := ⟨by rw [hkt.1]; exact hR.1, fun j hj => by
            have q := hR.2 j hj
            rw [hkt.2.1, hkt.2.2.1, hkt.2.2.2.1, hkt.2.2.2.2]
            exact q⟩
          exact hR2.k hkq
  · obtain ⟨-, q⟩ := key 0 T U e1 e2
    rcases q with ⟨-, nz, h15, -⟩ | ⟨q, -⟩
    · rcases ha with ⟨-, z, hA⟩ | ⟨z, -⟩
      · refine ⟨?_, Or.inl ⟨hA, hb2⟩⟩
        apply Int32.toInt_inj.mp
        have e10 : (-10 : Int32).toInt = -10 := by decide
        have y1 := Int32.le_toInt r
        have y2 := Int32.toInt_lt r
        have y3 : (-10 - gI U 15).toInt = r.toInt := subC (by rw [e10, h15, z]) (by omega) (by omega)
        exact y3.symm
      · exact absurd z nz
    · exact absurd (Value.int.inj (Option.some.inj q)) (by decide)
/-- the kept text, read again, has the same tokens -/
theorem rt_again {ρ ρ1 : RS} {y : TxY} {n : Nat} (h : RnB2 ρ ρ1) (hy : okY y) (h2 : y.2 = (gI ρ 119).toInt) (h1 : ∀ j : Nat, (j : Int) < y.2 → y.1 j = (aI ρ 118 j).toInt) (hE : EndY y n) {s : SpC} (hZ : Z0Y s) (hT : TkS y s n) : RtR ρ1 y n ∧ RlRq ρ1 (prlY 11 s).2.1 := by
  obtain ⟨⟨X, T, U, ⟨x1, x2, x3⟩, e1, e2, hkt, hkq, _⟩, -⟩ := h
  have e0 : (0 : Int32).toInt = 0 := rfl
  have e256 : (256 : Int32).toInt = 256 := rfl
  have hq : EqT y (txR X) := by
    refine ⟨?_, fun j hj => ?_⟩
    · show y.2 = (gI X 1).toInt
      rw [x1, h2]
    · show y.1 j = (aI X 0 j).toInt
      rw [h1 j hj, x3 j (by show j < (gI ρ 119).toInt.toNat; omega)]
  have hok : okY (txR X) := by
    refine ⟨fun j => ?_, ?_, ?_⟩
    · have y1 := Int32.le_iff_toInt_le.mp (x2 j).1
      have y2 := Int32.lt_iff_toInt_lt.mp (x2 j).2
      show 0 ≤ (aI X 0 j).toInt ∧ (aI X 0 j).toInt ≤ 255
      omega
    · rw [← hq.1]; exact hy.2.1
    · rw [← hq.1]; exact hy.2.2
  have a : (none : Option Value) = none ∧ LxQ X T (txR X) := w_lexer [] X trivial none T e1 (txR X) ⟨hok, rfl, fun _ => rfl⟩
  have hR := lx_end a.2 (hE.c hq)
  have hs : EqT (txR X) y := ⟨hq.1.symm, fun j hj => (hq.2 j (by rw [hq.1]; exact hj)).symm⟩
  have hR2 : RtR U y n := ⟨by rw [hkt.1]; exact hR.1, fun j hj => by
    have q := hR.2.c hs j hj
    rw [hkt.2.1, hkt.2.2.1, hkt.2.2.2.1, hkt.2.2.2.2]
    exact q⟩
  refine ⟨hR2.k hkq, ?_⟩
  obtain ⟨-, q⟩ := rd_key (ρ := X) hok ⟨rfl, fun _ => rfl⟩ hZ (hT.c hq) 1 T U e1 e2
  rcases q with ⟨q, -⟩ | ⟨-, hM, -⟩
  · exact absurd (Value.int.inj (Option.some.inj q)) (by decide)
  · exact hM.rl.k hkq
theorem pl_at {f : Nat → Int32} {a : Nat} : ∀ n k, k < n → nE (plR f a n) k = some (f (a + k)).toInt := by
  intro n
  induction n with
  | zero => exact fun k h => absurd h (Nat.not_lt_zero _)
  | succ n ih =>
    intro k h
    have hl : ∀ m, (plR f a m).length = m := by
      intro m
      induction m with
      | zero => rfl
      | succ m ih2 => rw [plR, List.length_cons, ih2]
    show (if k = (plR f a n).length then some (f (a + n)).toInt else nE (plR f a n) k) = _
    rw [hl]
    rcases Decidable.em (k = n) with c | c
    · rw [if_pos c, c]
    · rw [if_neg c]
      exact ih k (by omega)
theorem plR_len {f : Nat → Int32} {a : Nat} : ∀ m, (plR f a m).length = m := by
  intro m
  induction m with
  | zero => rfl
  | succ m ih2 => rw [plR, List.length_cons, ih2]
theorem ml_at {ρ : RS} : ∀ n k, k < n → nE (mlR ρ n) k = some ((aI ρ 37 k).toInt, (aI ρ 38 k).toInt, plR (aI ρ 44) (nT (aI ρ 40 k)) (nT (aI ρ 39 k))) := by
  intro n
  induction n with
  | zero => exact fun k h => absurd h (Nat.not_lt_zero _)
  | succ n ih =>
    intro k h
    show (if k = (mlR ρ n).length then some ((aI ρ 37 n).toInt, (aI ρ 38 n).toInt, plR (aI ρ 44) (nT (aI ρ 40 n)) (nT (aI ρ 39 n))) else nE (mlR ρ n) k) = _
    rw [mlR_len]
    rcases Decidable.em (k = n) with c | c
    · rw [if_pos c, c]
    · rw [if_neg c]
      exact ih k (by omega)
/-- method's answers are the same -/
theorem mt_same {ρ : RS} {z : LzY} {k what r r2 : Int32} (hl : RlRq ρ z) (h3 : N3 ρ) (hr : r.toInt = meqY z.1 k.toInt what.toInt) (h2 : ((k < 0 ∨ gI ρ 36 ≤ k) ∧ r2 = -1) ∨ ((0 ≤ k ∧ k < gI ρ 36) ∧ (((10 ≤ what ∧ what < 10 + aI ρ 39 (nT k)) ∧ r2 = aI ρ 44 (nT (aI ρ 40 (nT k) + what - 10))) ∨ (¬ (10 ≤ what ∧ what < 10 + aI ρ 39 (nT k)) ∧ ((what = 0 ∧ r2 = aI ρ 37 (nT k)) ∨ (what = 1 ∧ r2 = aI ρ 38 (nT k)) ∨ (what = 2 ∧ r2 = aI ρ 39 (nT k)) ∨ ((¬ what = 0 ∧ ¬ what = 1 ∧ ¬ what = 2) ∧ r2 = -1)))))) : r = r2 := by
  have e0 : (0 : Int32).toInt = 0 := rfl
  have e1 : (1 : Int32).toInt = 1 := rfl
  have e2 : (2 : Int32).toInt = 2 := rfl
  have e6 : (6 : Int32).toInt = 6 := rfl
  have e10 : (10 : Int32).toInt = 10 := rfl
  have e60 : (60 : Int32).toInt = 60 := rfl
  have em : (-1 : Int32).toInt = -1 := by decide
  obtain ⟨⟨v1, v2, -⟩, -⟩ := hl
  have l1 : (gI ρ 36).toInt = z.1.length := by
    rw [v1, mlR_len]
    show (gI ρ 36).toInt = ((gI ρ 36).toInt.toNat : Int)
    have y := Int32.le_iff_toInt_le.mp v2
    omega
  apply Int32.toInt_inj.mp
  rw [hr]
  rcases h2 with ⟨q, rfl⟩ | ⟨⟨q1, q2⟩, q⟩
  · rw [Int32.lt_iff_toInt_lt, Int32.le_iff_toInt_le] at q
    rw [em]
    exact (mq_b (by omega)).symm
  · have q1 := Int32.le_iff_toInt_le.mp q1
    have q2 := Int32.lt_iff_toInt_lt.mp q2
    have nk : ¬ (k.toInt < 0 ∨ (z.1.length : Int) ≤ k.toInt) := by omega
    have kl : nT k < nT (gI ρ 36) := by show k.toInt.toNat < (gI ρ 36).toInt.toNat; omega
    have hv : nE z.1 k.toInt.toNat = some ((aI ρ 37 (nT k)).toInt, (aI ρ 38 (nT k)).toInt, plR (aI ρ 44) (nT (aI ρ 40 (nT k))) (nT (aI ρ 39 (nT k)))) := by
      rw [v1]
      exact ml_at _ _ kl
    obtain ⟨⟨g1, g2⟩, n1, n2⟩ := h3
    obtain ⟨⟨b1, b2⟩, b3, b4, b5⟩ := n2 (nT k) kl
    have b1 := Int32.le_iff_toInt_le.mp b1
    have b2 := Int32.le_iff_toInt_le.mp b2
    have b3 := Int32.le_iff_toInt_le.mp b3
    have b5 := Int32.le_iff_toInt_le.mp b5
    have g2 := Int32.le_iff_toInt_le.mp g2
    have lp : ((plR (aI ρ 44) (nT (aI ρ 40 (nT k))) (nT (aI ρ 39 (nT k)))).length : Int) = (aI ρ 39 (nT k)).toInt := by
      rw [plR_len]
      show ((aI ρ 39 (nT k)).toInt.toNat : Int) = _
      omega
    have s10 : (10 + aI ρ 39 (nT k)).toInt = 10 + (aI ρ 39 (nT k)).toInt := addC (by rw [e10]) (by omega) (by omega)
    symm
    rcases q with ⟨⟨y1, y2⟩, rfl⟩ | ⟨y, q⟩
    · have y1 := Int32.le_iff_toInt_le.mp y1
      have y2 := Int32.lt_iff_toInt_lt.mp y2
      have s1 : (aI ρ 40 (nT k) + what).toInt = (aI ρ 40 (nT k)).toInt + what.toInt := addC rfl (by omega) (by omega)
      have s2 : (aI ρ 40 (nT k) + what - 10).toInt = (aI ρ 40 (nT k)).toInt + what.toInt - 10 := subC (by rw [s1, e10]) (by omega) (by omega)
      have ix : nT (aI ρ 40 (nT k) + what - 10) = nT (aI ρ 40 (nT k)) + (what.toInt - 10).toNat := by
        show (aI ρ 40 (nT k) + what - 10).toInt.toNat = (aI ρ 40 (nT k)).toInt.toNat + _
        omega
      rw [ix]
      refine mq_s nk hv (mq_3 ⟨by omega, ?_⟩ ?_)
      · show what.toInt - 10 < ((plR (aI ρ 44) (nT (aI ρ 40 (nT k))) (nT (aI ρ 39 (nT k)))).length : Int)
        omega
      · exact pl_at _ _ (by show (what.toInt - 10).toNat < (aI ρ 39 (nT k)).toInt.toNat; omega)
    · rcases q with ⟨rfl, rfl⟩ | ⟨rfl, rfl⟩ | ⟨rfl, rfl⟩ | ⟨⟨y0, y1, y2⟩, rfl⟩
      · exact mq_s nk hv (mq_0 e0 rfl)
      · exact mq_s nk hv (mq_1 e1 rfl)
      · exact mq_s nk hv (mq_2 e2 lp.symm)
      · rw [em]
        refine mq_s nk hv (mq_4 (fun q => y0 (Int32.toInt_inj.mp (q.trans e0.symm))) (fun q => y1 (Int32.toInt_inj.mp (q.trans e1.symm))) (fun q => y2 (Int32.toInt_inj.mp (q.trans e2.symm))) (fun q => ?_))
        apply y
        rw [Int32.le_iff_toInt_le, Int32.lt_iff_toInt_lt]
        have q2 : what.toInt - 10 < ((plR (aI ρ 44) (nT (aI ρ 40 (nT k))) (nT (aI ρ 39 (nT k)))).length : Int) := q.2
        omega

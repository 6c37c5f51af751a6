theorem ug306 (σ : CsC) (a : Nat) : gtC σ a 306 = .inr (.inr (fRC σ a 306)) := rfl
theorem lcmp0 {y : Int64} : (lg_cmp y y).toInt = 0 := by
  have h : lg_cmp y y = 0 := by unfold lg_cmp; simp
  rw [h]; rfl
theorem ltrI {r c : Int} (h : r = if isLY c then 1 else 0) : (r = 1 ∧ ((97 ≤ c ∧ c ≤ 122) ∨ (65 ≤ c ∧ c ≤ 90))) ∨ (r = 0 ∧ ¬ ((97 ≤ c ∧ c ≤ 122) ∨ (65 ≤ c ∧ c ≤ 90))) := by
  split at h
  next q => exact Or.inl ⟨h, q⟩
  next q => exact Or.inr ⟨h, q⟩
theorem al_1 {c : Int} (h : (97 ≤ c ∧ c ≤ 122) ∨ (65 ≤ c ∧ c ≤ 90) ∨ (48 ≤ c ∧ c ≤ 57)) : isLY c ∨ isDY c := by
  rcases h with h | h | h
  · exact Or.inl (Or.inl h)
  · exact Or.inl (Or.inr h)
  · exact Or.inr h
theorem al_0 {c : Int} (h : ¬ ((97 ≤ c ∧ c ≤ 122) ∨ (65 ≤ c ∧ c ≤ 90) ∨ (48 ≤ c ∧ c ≤ 57))) : ¬ (isLY c ∨ isDY c) := by
  rintro ((q | q) | q)
  · exact h (Or.inl q)
  · exact h (Or.inr (Or.inl q))
  · exact h (Or.inr (Or.inr q))
theorem pw6 (k : Nat) (h : k ≤ 9) : (64 : Int) ^ k ≤ 2 ^ 57 := by
  have a : k = 0 ∨ k = 1 ∨ k = 2 ∨ k = 3 ∨ k = 4 ∨ k = 5 ∨ k = 6 ∨ k = 7 ∨ k = 8 ∨ k = 9 := by omega
  rcases a with rfl | rfl | rfl | rfl | rfl | rfl | rfl | rfl | rfl | rfl <;> decide
theorem ky_s {l : List Int} {v : Int64} {c : Int32} {b : Int} (hl : alK l) (h9 : l.length ≤ 9) (hv : v.toInt = kyY l) (hb : isLY b ∨ isDY b) (hc : c.toInt = dgK b) : (v <<< ((Int32.ofInt 6).toInt64 &&& 63) ||| c.toInt64).toInt = kyY (b :: l) := by
  have k := ky_lt l hl
  have p := pw6 l.length h9
  have g := dgK_b hb
  rw [hi_6 hv k.1 (by omega) (by omega), hc]
  rfl
/-- the words' keys -/
def WdC (σ : CsC) (p0 : Nat) : Prop := ∀ c, fRC σ p0 306 = some c → ∀ k, k < 24 → (eLC σ c k).toInt = kyY (wkY.getD k [])
abbrev Pp_name (x : TxY) : CpC := fun As σ => match As with
  | [.inr (.inr (some p0)), .inl p1] => TxC σ p0 x ∧ 0 ≤ p1.toInt ∧ p1.toInt < x.2 ∧ WdC σ p0
  | _ => False
abbrev naY (x : TxY) (i : Int) : Int × List Int := nmY x (x.2 - i).toNat i []
abbrev Qp_cutName (x : TxY) : CqC := fun As σ w τ => match As with
  | [.inr (.inr (some p0)), .inl p1] => ∀ r, w = some (.inl r) → (10 < (naY x p1.toInt).1 - p1.toInt ∧ r.toInt = 0 ∧ SaC σ τ) ∨ (¬ 10 < (naY x p1.toInt).1 - p1.toInt ∧ r.toInt = (naY x p1.toInt).1 - p1.toInt ∧ OnC σ τ p0 (wcY (naY x p1.toInt).2))
  | _ => True
theorem wk_g {k : Nat} (h : k < 24) : alK (wkY.getD k []) := (by decide : ∀ k : Fin 24, alK (wkY.getD k.1 [])) ⟨k, h⟩
theorem wk_d : ∀ a b : Nat, a < 24 → b < 24 → a ≠ b → wkY.getD a [] ≠ wkY.getD b [] := by
  have h : ∀ a : Fin 24, ∀ b : Fin 24, a ≠ b → wkY.getD a.1 [] ≠ wkY.getD b.1 [] := by decide
  exact fun a b ha hb n => h ⟨a, ha⟩ ⟨b, hb⟩ (fun q => n (congrArg Fin.val q))
theorem p_cutName (x : TxY) : PbC KX9_cutName [(189, P_X9_byteAt, Q_X9_byteAt), (192, P_X9_isLetter, Q_X9_isLetter), (185, P_X9_longerKey, Q_X9_longerKey), (193, P_X9_isDigit, Q_X9_isDigit)] [(189, U_byteAt), (192, U_isLetter), (193, U_isDigit), (185, U_longerKey)] (fun As σ => P_X9_cutName As σ ∧ Pp_name x As σ) (Qp_cutName x) := by
  rintro As σ ⟨⟨p0, p1, rfl, H0, h0, -, -⟩, hx⟩ K hB hW n
  replace hx : TxC σ p0 x ∧ 0 ≤ p1.toInt ∧ p1.toInt < x.2 ∧ WdC σ p0 := hx
  obtain ⟨hx, hp0, hp1, hwd⟩ := hx
  have hx1 := hx.1
  have hx3 := hx.2.2.2.2
  have z0 := z0I
  obtain ⟨a4, -, ea4, ta4, -, ga4⟩ := cg304 H0.1 h0
  obtain ⟨a6, -, ea6, ta6, -, ga6⟩ := cg306 H0.1 h0
  change K n 0 [(0, .inr (.inr (some p0))), (1, .inl p1)] [] σ
  generalize hE : naY x p1.toInt = E
  have L84 : ∀ (n : Nat) (τ : CsC) (j i : Int32) (v : Int64) (l : List Int) (d : Int), OnC σ τ p0 d → WdC τ p0 → 0 ≤ j.toInt → j.toInt ≤ 24 → p1.toInt ≤ i.toInt → i.toInt ≤ x.2 → (i.toInt, l) = E → i.toInt - p1.toInt ≤ 10 → alK l → v.toInt = kyY l → (∀ m : Nat, (m : Int) < j.toInt → l = wkY.getD m [] → d = 50 + m) → ((∀ m : Nat, (m : Int) < j.toInt → ¬ l = wkY.getD m []) → d = 80) → K n 84 [(0, .inr (.inr (some p0))), (1, .inl p1), (2, .inl i), (3, .inr (.inl v)), (5, .inl j)] [] τ := by
    intro n
    induction n using Nat.strongRecOn with
    | _ n ih =>
      intro τ j i v l d on wd k1 k2 k3 k4 k5 k6 hl hv f1 f2
      refine hB _ _ _ _ _ (fun m1 hm1 => ?_)
      dsimp only [ucgo, ucwp, ucsC, uqC, uoC, ctC, rfd, KX9_cutName, KX9_cutName_0, KX9_cutName_4, KX9_cutName_12, KX9_cutName_23, KX9_cutName_34, KX9_cutName_50, KX9_cutName_58, KX9_cutName_60, KX9_cutName_84, KX9_cutName_91, KX9_cutName_103, KX9_cutName_117, KX9_cutName_123, lkC, s1C, s2C, dlC, kyC, Nat.beq, rcd, rno, Nat.reduceAdd, Nat.reduceBEq, Nat.reduceDiv, List.drop, List.take, List.reverse, List.reverseAux, Int.toNat, Option.toList, List.append, List.cons_append, List.nil_append, fI_qI, fR_qI, fL_qI, fI_qL, fR_qL, fL_qL, ug302, ug304, ug305, ug306, ug308]
      have c2 : (Int32.ofInt 24).toInt = 24 := by decide
      refine ⟨fun h3 => ?_, fun h3 => ?_⟩
      · have g3 := leI (x := (Int32.ofInt 24)) (y := j) h3
        refine hB _ _ _ _ _ (fun m4 hm4 => ?_)
        dsimp only [ucgo, ucwp, ucsC, uqC, uoC, ctC, rfd, KX9_cutName, KX9_cutName_0, KX9_cutName_4, KX9_cutName_12, KX9_cutName_23, KX9_cutName_34, KX9_cutName_50, KX9_cutName_58, KX9_cutName_60, KX9_cutName_84, KX9_cutName_91, KX9_cutName_103, KX9_cutName_117, KX9_cutName_123, lkC, s1C, s2C, dlC, kyC, Nat.beq, rcd, rno, Nat.reduceAdd, Nat.reduceBEq, Nat.reduceDiv, List.drop, List.take, List.reverse, List.reverseAux, Int.toNat, Option.toList, List.append, List.cons_append, List.nil_append, fI_qI, fR_qI, fL_qI, fI_qL, fR_qL, fL_qL, ug302, ug304, ug305, ug306, ug308]
        have a5 : (i - p1).toInt = i.toInt - p1.toInt := subC (by omega) (by omega) (by omega)
        intro r9 e9
        cases e9
        rw [hE, ← k5]
        have y : d = wcY l := wk_c (fun m hm => f1 m (by omega)) (fun q => f2 (fun m hm => q m (by omega)))
        rw [y] at on
        exact Or.inr ⟨by omega, by omega, on⟩
      · have g3 := nleI (x := (Int32.ofInt 24)) (y := j) h3
        refine hB _ _ _ _ _ (fun m6 hm6 => ?_)
        dsimp only [ucgo, ucwp, ucsC, uqC, uoC, ctC, rfd, KX9_cutName, KX9_cutName_0, KX9_cutName_4, KX9_cutName_12, KX9_cutName_23, KX9_cutName_34, KX9_cutName_50, KX9_cutName_58, KX9_cutName_60, KX9_cutName_84, KX9_cutName_91, KX9_cutName_103, KX9_cutName_117, KX9_cutName_123, lkC, s1C, s2C, dlC, kyC, Nat.beq, rcd, rno, Nat.reduceAdd, Nat.reduceBEq, Nat.reduceDiv, List.drop, List.take, List.reverse, List.reverseAux, Int.toNat, Option.toList, List.append, List.cons_append, List.nil_append, fI_qI, fR_qI, fL_qI, fI_qL, fR_qL, fL_qL, ug302, ug304, ug305, ug306, ug308]
        intro a7 e7 ob7
        cases e7
        intro a8 e8 t8 v8
        have f9 : (lg_cmp (eLC τ a8 j.toNatClampNeg) v).toInt = 0 → (eLC τ a8 j.toNatClampNeg) = v := lcmpC
        have f9_ : (eLC τ a8 j.toNatClampNeg) = v → (lg_cmp (eLC τ a8 j.toNatClampNeg) v).toInt = 0 := fun e => by rw [e]; exact lcmp0
        refine ⟨fun h10 => ?_, fun h10 => ?_⟩
        · have g10 := (neI (x := (lg_cmp (eLC τ a8 j.toNatClampNeg) v)) (y := 0) h10 : ¬ ((lg_cmp (eLC τ a8 j.toNatClampNeg) v) : Int32).toInt = (0 : Int32).toInt)
          refine hB _ _ _ _ _ (fun m11 hm11 => ?_)
          dsimp only [ucgo, ucwp, ucsC, uqC, uoC, ctC, rfd, KX9_cutName, KX9_cutName_0, KX9_cutName_4, KX9_cutName_12, KX9_cutName_23, KX9_cutName_34, KX9_cutName_50, KX9_cutName_58, KX9_cutName_60, KX9_cutName_84, KX9_cutName_91, KX9_cutName_103, KX9_cutName_117, KX9_cutName_123, lkC, s1C, s2C, dlC, kyC, Nat.beq, rcd, rno, Nat.reduceAdd, Nat.reduceBEq, Nat.reduceDiv, List.drop, List.take, List.reverse, List.reverseAux, Int.toNat, Option.toList, List.append, List.cons_append, List.nil_append, fI_qI, fR_qI, fL_qI, fI_qL, fR_qL, fL_qL, ug302, ug304, ug305, ug306, ug308]
          have c12 : (Int32.ofInt 1).toInt = 1 := by decide
          have a13 : (j + (Int32.ofInt 1)).toInt = j.toInt + 1 := addC (by omega) (by omega) (by omega)
          have y1 := wd a8 e8 j.toInt.toNat (by omega)
          have y2 : (eLC τ a8 j.toNatClampNeg).toInt = kyY (wkY.getD j.toInt.toNat []) := y1
          have y3 : ¬ l = wkY.getD j.toInt.toNat [] := fun e => absurd (f9_ (Int64.toInt_inj.mp (by rw [y2, hv, e]))) (by omega)
          exact hW _ _ _ _ _ _ (List.forall_mem_cons.2 ⟨List.Mem.tail _ (List.Mem.head _), List.forall_mem_cons.2 ⟨List.Mem.tail _ (List.Mem.tail _ (List.Mem.head _)), List.forall_mem_cons.2 ⟨List.Mem.tail _ (List.Mem.tail _ (List.Mem.tail _ (List.Mem.head _))), List.forall_mem_cons.2 ⟨List.Mem.tail _ (List.Mem.tail _ (List.Mem.tail _ (List.Mem.tail _ (List.Mem.head _)))), List.forall_mem_cons.2 ⟨List.Mem.head _, fun _ h => absurd h List.not_mem_nil⟩⟩⟩⟩⟩) (ih _ (by omega) _ (j + (Int32.ofInt 1)) i v l _ on wd (by omega) (by omega) k3 k4 k5 k6 hl hv (fun m hm e => by
            rcases Decidable.em ((m : Int) < j.toInt) with q | q
            · exact f1 m q e
            · exact absurd e (by rw [show m = j.toInt.toNat by omega]; exact y3)) (fun q => f2 (fun m hm => q m (by omega))))
        · have g10 := (eqI (x := (lg_cmp (eLC τ a8 j.toNatClampNeg) v)) (y := 0) h10 : ((lg_cmp (eLC τ a8 j.toNatClampNeg) v) : Int32).toInt = (0 : Int32).toInt)
          refine hB _ _ _ _ _ (fun m14 hm14 => ?_)
          dsimp only [ucgo, ucwp, ucsC, uqC, uoC, ctC, rfd, KX9_cutName, KX9_cutName_0, KX9_cutName_4, KX9_cutName_12, KX9_cutName_23, KX9_cutName_34, KX9_cutName_50, KX9_cutName_58, KX9_cutName_60, KX9_cutName_84, KX9_cutName_91, KX9_cutName_103, KX9_cutName_117, KX9_cutName_123, lkC, s1C, s2C, dlC, kyC, Nat.beq, rcd, rno, Nat.reduceAdd, Nat.reduceBEq, Nat.reduceDiv, List.drop, List.take, List.reverse, List.reverseAux, Int.toNat, Option.toList, List.append, List.cons_append, List.nil_append, fI_qI, fR_qI, fL_qI, fI_qL, fR_qL, fL_qL, ug302, ug304, ug305, ug306, ug308]
          intro a15 e15 ob15
          cases e15
          intro a16 e16 ob16
          cases e16
          have c17 : (Int32.ofInt 50).toInt = 50 := by decide
          have a18 : ((Int32.ofInt 50) + j).toInt = 50 + j.toInt := addC (by omega) (by omega) (by omega)
          intro a19 e19 t19 v19
          refine hB _ _ _ _ _ (fun m20 hm20 => ?_)
          dsimp only [ucgo, ucwp, ucsC, uqC, uoC, ctC, rfd, KX9_cutName, KX9_cutName_0, KX9_cutName_4, KX9_cutName_12, KX9_cutName_23, KX9_cutName_34, KX9_cutName_50, KX9_cutName_58, KX9_cutName_60, KX9_cutName_84, KX9_cutName_91, KX9_cutName_103, KX9_cutName_117, KX9_cutName_123, lkC, s1C, s2C, dlC, kyC, Nat.beq, rcd, rno, Nat.reduceAdd, Nat.reduceBEq, Nat.reduceDiv, List.drop, List.take, List.reverse, List.reverseAux, Int.toNat, Option.toList, List.append, List.cons_append, List.nil_append, fI_qI, fR_qI, fL_qI, fI_qL, fR_qL, fL_qL, ug302, ug304, ug305, ug306, ug308]
          have c21 : (Int32.ofInt 1).toInt = 1 := by decide
          have a22 : (j + (Int32.ofInt 1)).toInt = j.toInt + 1 := addC (by omega) (by omega) (by omega)
          have y1 := wd a8 e8 j.toInt.toNat (by omega)
          have y2 : (eLC τ a8 j.toNatClampNeg).toInt = kyY (wkY.getD j.toInt.toNat []) := y1
          have y3 : l = wkY.getD j.toInt.toNat [] := ky_i hl (wk_g (by omega)) (by rw [← hv, ← f9 (by omega), y2])
          exact hW _ _ _ _ _ _ (List.forall_mem_cons.2 ⟨List.Mem.tail _ (List.Mem.head _), List.forall_mem_cons.2 ⟨List.Mem.tail _ (List.Mem.tail _ (List.Mem.head _)), List.forall_mem_cons.2 ⟨List.Mem.tail _ (List.Mem.tail _ (List.Mem.tail _ (List.Mem.head _))), List.forall_mem_cons.2 ⟨List.Mem.tail _ (List.Mem.tail _ (List.Mem.tail _ (List.Mem.tail _ (List.Mem.head _)))), List.forall_mem_cons.2 ⟨List.Mem.head _, fun _ h => absurd h List.not_mem_nil⟩⟩⟩⟩⟩) (ih _ (by omega) _ (j + (Int32.ofInt 1)) i v l _ (OnC.st (z := 1) (Or.inr on) e19) wd (by omega) (by omega) k3 k4 k5 k6 hl hv (fun m hm e => by
            have y4 : m = j.toInt.toNat := by
              rcases Decidable.em (m = j.toInt.toNat) with q | q
              · exact q
              · exact absurd (y3.symm.trans e) (wk_d _ _ (by omega) (by omega) (fun z => q z.symm))
            omega) (fun q => absurd y3 (q j.toInt.toNat (by omega))))
  have t50 : ∀ (n : Nat) (i : Int32) (v : Int64) (l : List Int), p1.toInt ≤ i.toInt → i.toInt ≤ x.2 → alK l → (l.length : Int) = i.toInt - p1.toInt → (l.length ≤ 10 → v.toInt = kyY l) → (i.toInt, l) = E → K n 50 [(0, .inr (.inr (some p0))), (1, .inl p1), (2, .inl i), (3, .inr (.inl v))] [] σ := by
    intro n i v l hi0 hi1 hl hn hv hiE
    refine hB _ _ _ _ _ (fun m201 hm201 => ?_)
    dsimp only [ucgo, ucwp, ucsC, uqC, uoC, ctC, rfd, KX9_cutName, KX9_cutName_0, KX9_cutName_4, KX9_cutName_12, KX9_cutName_23, KX9_cutName_34, KX9_cutName_50, KX9_cutName_58, KX9_cutName_60, KX9_cutName_84, KX9_cutName_91, KX9_cutName_103, KX9_cutName_117, KX9_cutName_123, lkC, s1C, s2C, dlC, kyC, Nat.beq, rcd, rno, Nat.reduceAdd, Nat.reduceBEq, Nat.reduceDiv, List.drop, List.take, List.reverse, List.reverseAux, Int.toNat, Option.toList, List.append, List.cons_append, List.nil_append, fI_qI, fR_qI, fL_qI, fI_qL, fR_qL, fL_qL, ug302, ug304, ug305, ug306, ug308]
    have a202 : (i - p1).toInt = i.toInt - p1.toInt := subC (by omega) (by omega) (by omega)
    have c203 : (Int32.ofInt 10).toInt = 10 := by decide
    refine ⟨fun h204 => ?_, fun h204 => ?_⟩
    · have g204 := leI (x := (i - p1)) (y := (Int32.ofInt 10)) h204
      refine hB _ _ _ _ _ (fun m205 hm205 => ?_)
      dsimp only [ucgo, ucwp, ucsC, uqC, uoC, ctC, rfd, KX9_cutName, KX9_cutName_0, KX9_cutName_4, KX9_cutName_12, KX9_cutName_23, KX9_cutName_34, KX9_cutName_50, KX9_cutName_58, KX9_cutName_60, KX9_cutName_84, KX9_cutName_91, KX9_cutName_103, KX9_cutName_117, KX9_cutName_123, lkC, s1C, s2C, dlC, kyC, Nat.beq, rcd, rno, Nat.reduceAdd, Nat.reduceBEq, Nat.reduceDiv, List.drop, List.take, List.reverse, List.reverseAux, Int.toNat, Option.toList, List.append, List.cons_append, List.nil_append, fI_qI, fR_qI, fL_qI, fI_qL, fR_qL, fL_qL, ug302, ug304, ug305, ug306, ug308]
      intro a206 e206 ob206
      cases e206
      intro a207 e207 ob207
      cases e207
      have c208 : (Int32.ofInt 80).toInt = 80 := by decide
      intro a209 e209 t209 v209
      intro a210 e210 ob210
      cases e210
      intro a211 e211 ob211
      cases e211
      intro a212 e212 t212 v212
      have c213 : (Int32.ofInt 0).toInt = 0 := by decide
      exact hW _ _ _ _ _ _ (List.forall_mem_cons.2 ⟨List.Mem.tail _ (List.Mem.head _), List.forall_mem_cons.2 ⟨List.Mem.tail _ (List.Mem.tail _ (List.Mem.head _)), List.forall_mem_cons.2 ⟨List.Mem.tail _ (List.Mem.tail _ (List.Mem.tail _ (List.Mem.head _))), List.forall_mem_cons.2 ⟨List.Mem.tail _ (List.Mem.tail _ (List.Mem.tail _ (List.Mem.tail _ (List.Mem.head _)))), List.forall_mem_cons.2 ⟨List.Mem.head _, fun _ h => absurd h List.not_mem_nil⟩⟩⟩⟩⟩) (L84 _ _ _ i v l _ (OnC.q e209).l (fun c hc k hk => by
        have y : ¬ c = a212 := fun q => by
          have y1 : a6 = c := Option.some.inj (ea6.symm.trans hc)
          have y2 : a4 = a212 := Option.some.inj (ea4.symm.trans e212)
          rw [← y1, ← y2] at q
          rw [q, ga4] at ga6
          cases ga6
        rw [← hwd c hc k hk]
        show (u1C (eLC σ) a212 _ c k).toInt = _
        rw [u1C_ne y]) (by decide) (by decide) hi0 hi1 hiE (by omega) hl (hv (by omega)) (fun m hm => absurd hm (by rw [show (Int32.ofInt 0).toInt = 0 from by decide]; omega)) (fun _ => by decide))
    · have g204 := nleI (x := (i - p1)) (y := (Int32.ofInt 10)) h204
      refine hB _ _ _ _ _ (fun m214 hm214 => ?_)
      dsimp only [ucgo, ucwp, ucsC, uqC, uoC, ctC, rfd, KX9_cutName, KX9_cutName_0, KX9_cutName_4, KX9_cutName_12, KX9_cutName_23, KX9_cutName_34, KX9_cutName_50, KX9_cutName_58, KX9_cutName_60, KX9_cutName_84, KX9_cutName_91, KX9_cutName_103, KX9_cutName_117, KX9_cutName_123, lkC, s1C, s2C, dlC, kyC, Nat.beq, rcd, rno, Nat.reduceAdd, Nat.reduceBEq, Nat.reduceDiv, List.drop, List.take, List.reverse, List.reverseAux, Int.toNat, Option.toList, List.append, List.cons_append, List.nil_append, fI_qI, fR_qI, fL_qI, fI_qL, fR_qL, fL_qL, ug302, ug304, ug305, ug306, ug308]
      have c215 : (Int32.ofInt 0).toInt = 0 := by decide
      intro r9 e9
      cases e9
      rw [hE, ← hiE]
      exact Or.inl ⟨by omega, rfl, SaC.rf⟩
  have L4 : ∀ (n : Nat) (i : Int32) (v : Int64) (l : List Int), p1.toInt ≤ i.toInt → i.toInt ≤ x.2 → alK l → (l.length : Int) = i.toInt - p1.toInt → (l.length ≤ 10 → v.toInt = kyY l) → nmY x (x.2 - i.toInt).toNat i.toInt l = E → K n 4 [(0, .inr (.inr (some p0))), (1, .inl p1), (2, .inl i), (3, .inr (.inl v))] [] σ := by
    intro n
    induction n using Nat.strongRecOn with
    | _ n ih =>
      intro i v l hi0 hi1 hl hn hv hb
      refine hB _ _ _ _ _ (fun m401 hm401 => ?_)
      dsimp only [ucgo, ucwp, ucsC, uqC, uoC, ctC, rfd, KX9_cutName, KX9_cutName_0, KX9_cutName_4, KX9_cutName_12, KX9_cutName_23, KX9_cutName_34, KX9_cutName_50, KX9_cutName_58, KX9_cutName_60, KX9_cutName_84, KX9_cutName_91, KX9_cutName_103, KX9_cutName_117, KX9_cutName_123, lkC, s1C, s2C, dlC, kyC, Nat.beq, rcd, rno, Nat.reduceAdd, Nat.reduceBEq, Nat.reduceDiv, List.drop, List.take, List.reverse, List.reverseAux, Int.toNat, Option.toList, List.append, List.cons_append, List.nil_append, fI_qI, fR_qI, fL_qI, fI_qL, fR_qL, fL_qL, ug302, ug304, ug305, ug306, ug308]
      intro a402 e402 ob402
      cases e402
      refine ⟨fun h403 => ?_, fun h403 => ?_⟩
      · have g403 := leI (x := (fIC σ p0 308)) (y := i) h403
        refine hW _ _ _ _ _ _ (List.forall_mem_cons.2 ⟨List.Mem.head _, List.forall_mem_cons.2 ⟨List.Mem.tail _ (List.Mem.head _), List.forall_mem_cons.2 ⟨List.Mem.tail _ (List.Mem.tail _ (List.Mem.head _)), List.forall_mem_cons.2 ⟨List.Mem.tail _ (List.Mem.tail _ (List.Mem.tail _ (List.Mem.head _))), fun _ h => absurd h List.not_mem_nil⟩⟩⟩⟩) (t50 _ i v l hi0 hi1 hl hn hv ?_)
        first
          | (rw [fu_z (x := x) (i := i.toInt) (by omega)] at hb; exact hb)
          | (rw [fu_s (x := x) (i := i.toInt) (by omega), nmY, if_neg (al_0 (by omega))] at hb; exact hb)
      · have g403 := nleI (x := (fIC σ p0 308)) (y := i) h403
        refine hB _ _ _ _ _ (fun m404 hm404 => ?_)
        dsimp only [ucgo, ucwp, ucsC, uqC, uoC, ctC, rfd, KX9_cutName, KX9_cutName_0, KX9_cutName_4, KX9_cutName_12, KX9_cutName_23, KX9_cutName_34, KX9_cutName_50, KX9_cutName_58, KX9_cutName_60, KX9_cutName_84, KX9_cutName_91, KX9_cutName_103, KX9_cutName_117, KX9_cutName_123, lkC, s1C, s2C, dlC, kyC, Nat.beq, rcd, rno, Nat.reduceAdd, Nat.reduceBEq, Nat.reduceDiv, List.drop, List.take, List.reverse, List.reverseAux, Int.toNat, Option.toList, List.append, List.cons_append, List.nil_append, fI_qI, fR_qI, fL_qI, fI_qL, fR_qL, fL_qL, ug302, ug304, ug305, ug306, ug308]
        intro w405 τ405 o405 q405
        obtain ⟨r405, rfl, rfl⟩ := o405
        have b405 : r405.toInt = btY x i.toInt := q405 x hx r405 rfl
        dsimp only [Option.toList, List.cons_append, List.nil_append, s1C, s2C, dlC, kyC, Nat.beq, lkC, rcd, rno]
        intro w406 τ406 o406 q406
        obtain ⟨r406, rfl, rfl, -, -⟩ := o406
        have d406 := ltrI (q406 () trivial r406 rfl)
        dsimp only [Option.toList, List.cons_append, List.nil_append, s1C, s2C, dlC, kyC, Nat.beq, lkC, rcd, rno]
        refine ⟨fun h407 => ?_, fun h407 => ?_⟩
        · have g407 := (neI (x := r406) (y := 0) h407 : ¬ (r406 : Int32).toInt = (0 : Int32).toInt)
          refine hB _ _ _ _ _ (fun m408 hm408 => ?_)
          dsimp only [ucgo, ucwp, ucsC, uqC, uoC, ctC, rfd, KX9_cutName, KX9_cutName_0, KX9_cutName_4, KX9_cutName_12, KX9_cutName_23, KX9_cutName_34, KX9_cutName_50, KX9_cutName_58, KX9_cutName_60, KX9_cutName_84, KX9_cutName_91, KX9_cutName_103, KX9_cutName_117, KX9_cutName_123, lkC, s1C, s2C, dlC, kyC, Nat.beq, rcd, rno, Nat.reduceAdd, Nat.reduceBEq, Nat.reduceDiv, List.drop, List.take, List.reverse, List.reverseAux, Int.toNat, Option.toList, List.append, List.cons_append, List.nil_append, fI_qI, fR_qI, fL_qI, fI_qL, fR_qL, fL_qL, ug302, ug304, ug305, ug306, ug308]
          intro w409 τ409 o409 q409
          obtain ⟨r409, rfl, rfl⟩ := o409
          have b409 : r409.toInt = btY x i.toInt := q409 x hx r409 rfl
          dsimp only [Option.toList, List.cons_append, List.nil_append, s1C, s2C, dlC, kyC, Nat.beq, lkC, rcd, rno]
          intro w410 τ410 o410 q410
          obtain ⟨v410, rfl, rfl⟩ := o410
          obtain ⟨c410, x410, rfl⟩ := q410 () ⟨by omega, by omega⟩ v410 rfl
          dsimp only [Option.toList, List.cons_append, List.nil_append, s1C, s2C, dlC, kyC, Nat.beq, lkC, rcd, rno]
          have c411 : (Int32.ofInt 1).toInt = 1 := by decide
          have a412 : (i + (Int32.ofInt 1)).toInt = i.toInt + 1 := addC (by omega) (by omega) (by omega)
          have al : isLY (btY x i.toInt) ∨ isDY (btY x i.toInt) := al_1 (by omega)
          rw [fu_s (x := x) (i := i.toInt) (by omega), nmY, if_pos al] at hb
          refine hW _ _ _ _ _ _ (List.forall_mem_cons.2 ⟨List.Mem.tail _ (List.Mem.tail _ (List.Mem.head _)), List.forall_mem_cons.2 ⟨List.Mem.tail _ (List.Mem.tail _ (List.Mem.tail _ (List.Mem.head _))), List.forall_mem_cons.2 ⟨List.Mem.head _, List.forall_mem_cons.2 ⟨List.Mem.tail _ (List.Mem.head _), fun _ h => absurd h List.not_mem_nil⟩⟩⟩⟩) (ih _ (by omega) (i + (Int32.ofInt 1)) _ (btY x i.toInt :: l) (by omega) (by omega) (fun y hy => (List.mem_cons.mp hy).elim (fun e => by rw [e]; exact al) (hl y)) (by rw [List.length_cons]; omega) (fun h10 => ?_) ?_)
          · rw [List.length_cons] at h10
            exact ky_s hl (by omega) (hv (by omega)) al (by rw [x410, show r409.toInt = btY x i.toInt from by omega])
          · rw [show ((i + (Int32.ofInt 1)) : Int32).toInt = (i.toInt + 1) from by omega]
            exact hb
        · have g407 := (eqI (x := r406) (y := 0) h407 : (r406 : Int32).toInt = (0 : Int32).toInt)
          refine hB _ _ _ _ _ (fun m413 hm413 => ?_)
          dsimp only [ucgo, ucwp, ucsC, uqC, uoC, ctC, rfd, KX9_cutName, KX9_cutName_0, KX9_cutName_4, KX9_cutName_12, KX9_cutName_23, KX9_cutName_34, KX9_cutName_50, KX9_cutName_58, KX9_cutName_60, KX9_cutName_84, KX9_cutName_91, KX9_cutName_103, KX9_cutName_117, KX9_cutName_123, lkC, s1C, s2C, dlC, kyC, Nat.beq, rcd, rno, Nat.reduceAdd, Nat.reduceBEq, Nat.reduceDiv, List.drop, List.take, List.reverse, List.reverseAux, Int.toNat, Option.toList, List.append, List.cons_append, List.nil_append, fI_qI, fR_qI, fL_qI, fI_qL, fR_qL, fL_qL, ug302, ug304, ug305, ug306, ug308]
          intro w414 τ414 o414 q414
          obtain ⟨r414, rfl, rfl⟩ := o414
          have b414 : r414.toInt = btY x i.toInt := q414 x hx r414 rfl
          dsimp only [Option.toList, List.cons_append, List.nil_append, s1C, s2C, dlC, kyC, Nat.beq, lkC, rcd, rno]
          intro w415 τ415 o415 q415
          obtain ⟨r415, rfl, rfl, -, -⟩ := o415
          have d415 := digI (q415 () trivial r415 rfl)
          dsimp only [Option.toList, List.cons_append, List.nil_append, s1C, s2C, dlC, kyC, Nat.beq, lkC, rcd, rno]
          refine ⟨fun h416 => ?_, fun h416 => ?_⟩
          · have g416 := (eqI (x := r415) (y := 0) h416 : (r415 : Int32).toInt = (0 : Int32).toInt)
            refine hW _ _ _ _ _ _ (List.forall_mem_cons.2 ⟨List.Mem.head _, List.forall_mem_cons.2 ⟨List.Mem.tail _ (List.Mem.head _), List.forall_mem_cons.2 ⟨List.Mem.tail _ (List.Mem.tail _ (List.Mem.head _)), List.forall_mem_cons.2 ⟨List.Mem.tail _ (List.Mem.tail _ (List.Mem.tail _ (List.Mem.head _))), fun _ h => absurd h List.not_mem_nil⟩⟩⟩⟩) (t50 _ i v l hi0 hi1 hl hn hv ?_)
            first
              | (rw [fu_z (x := x) (i := i.toInt) (by omega)] at hb; exact hb)
              | (rw [fu_s (x := x) (i := i.toInt) (by omega), nmY, if_neg (al_0 (by omega))] at hb; exact hb)
          · have g416 := (neI (x := r415) (y := 0) h416 : ¬ (r415 : Int32).toInt = (0 : Int32).toInt)
            refine hB _ _ _ _ _ (fun m417 hm417 => ?_)
            dsimp only [ucgo, ucwp, ucsC, uqC, uoC, ctC, rfd, KX9_cutName, KX9_cutName_0, KX9_cutName_4, KX9_cutName_12, KX9_cutName_23, KX9_cutName_34, KX9_cutName_50, KX9_cutName_58, KX9_cutName_60, KX9_cutName_84, KX9_cutName_91, KX9_cutName_103, KX9_cutName_117, KX9_cutName_123, lkC, s1C, s2C, dlC, kyC, Nat.beq, rcd, rno, Nat.reduceAdd, Nat.reduceBEq, Nat.reduceDiv, List.drop, List.take, List.reverse, List.reverseAux, Int.toNat, Option.toList, List.append, List.cons_append, List.nil_append, fI_qI, fR_qI, fL_qI, fI_qL, fR_qL, fL_qL, ug302, ug304, ug305, ug306, ug308]
            intro w418 τ418 o418 q418
            obtain ⟨r418, rfl, rfl⟩ := o418
            have b418 : r418.toInt = btY x i.toInt := q418 x hx r418 rfl
            dsimp only [Option.toList, List.cons_append, List.nil_append, s1C, s2C, dlC, kyC, Nat.beq, lkC, rcd, rno]
            intro w419 τ419 o419 q419
            obtain ⟨v419, rfl, rfl⟩ := o419
            obtain ⟨c419, x419, rfl⟩ := q419 () ⟨by omega, by omega⟩ v419 rfl
            dsimp only [Option.toList, List.cons_append, List.nil_append, s1C, s2C, dlC, kyC, Nat.beq, lkC, rcd, rno]
            have c420 : (Int32.ofInt 1).toInt = 1 := by decide
            have a421 : (i + (Int32.ofInt 1)).toInt = i.toInt + 1 := addC (by omega) (by omega) (by omega)
            have al : isLY (btY x i.toInt) ∨ isDY (btY x i.toInt) := al_1 (by omega)
            rw [fu_s (x := x) (i := i.toInt) (by omega), nmY, if_pos al] at hb
            refine hW _ _ _ _ _ _ (List.forall_mem_cons.2 ⟨List.Mem.tail _ (List.Mem.tail _ (List.Mem.head _)), List.forall_mem_cons.2 ⟨List.Mem.tail _ (List.Mem.tail _ (List.Mem.tail _ (List.Mem.head _))), List.forall_mem_cons.2 ⟨List.Mem.head _, List.forall_mem_cons.2 ⟨List.Mem.tail _ (List.Mem.head _), fun _ h => absurd h List.not_mem_nil⟩⟩⟩⟩) (ih _ (by omega) (i + (Int32.ofInt 1)) _ (btY x i.toInt :: l) (by omega) (by omega) (fun y hy => (List.mem_cons.mp hy).elim (fun e => by rw [e]; exact al) (hl y)) (by rw [List.length_cons]; omega) (fun h10 => ?_) ?_)
            · rw [List.length_cons] at h10
              exact ky_s hl (by omega) (hv (by omega)) al (by rw [x419, show r418.toInt = btY x i.toInt from by omega])
            · rw [show ((i + (Int32.ofInt 1)) : Int32).toInt = (i.toInt + 1) from by omega]
              exact hb
  refine hB _ _ _ _ _ (fun m1 hm1 => ?_)
  dsimp only [ucgo, ucwp, ucsC, uqC, uoC, ctC, rfd, KX9_cutName, KX9_cutName_0, KX9_cutName_4, KX9_cutName_12, KX9_cutName_23, KX9_cutName_34, KX9_cutName_50, KX9_cutName_58, KX9_cutName_60, KX9_cutName_84, KX9_cutName_91, KX9_cutName_103, KX9_cutName_117, KX9_cutName_123, lkC, s1C, s2C, dlC, kyC, Nat.beq, rcd, rno, Nat.reduceAdd, Nat.reduceBEq, Nat.reduceDiv, List.drop, List.take, List.reverse, List.reverseAux, Int.toNat, Option.toList, List.append, List.cons_append, List.nil_append, fI_qI, fR_qI, fL_qI, fI_qL, fR_qL, fL_qL, ug302, ug304, ug305, ug306, ug308]
  exact hW _ _ _ _ _ _ (List.forall_mem_cons.2 ⟨List.Mem.tail _ (List.Mem.tail _ (List.Mem.head _)), List.forall_mem_cons.2 ⟨List.Mem.tail _ (List.Mem.tail _ (List.Mem.tail _ (List.Mem.head _))), List.forall_mem_cons.2 ⟨List.Mem.tail _ (List.Mem.head _), List.forall_mem_cons.2 ⟨List.Mem.head _, fun _ h => absurd h List.not_mem_nil⟩⟩⟩⟩) (L4 _ p1 _ [] (Int.le_refl _) (by omega) (fun _ h => absurd h List.not_mem_nil) (by show (0 : Int) = _; omega) (fun _ => by decide) hE)
abbrev U_cutName : CqC := fun As σ w τ => ∀ x, Pp_name x As σ → Qp_cutName x As σ w τ
theorem n_cutName (l : Launch) : CMetC l 2 194 P_X9_cutName (fun As σ w τ => Q_X9_cutName As σ w τ ∧ U_cutName As σ w τ) := CMetC.of KX9_cutName (uc2C [(189, P_X9_byteAt, Q_X9_byteAt), (192, P_X9_isLetter, Q_X9_isLetter), (185, P_X9_longerKey, Q_X9_longerKey), (193, P_X9_isDigit, Q_X9_isDigit)] [(189, U_byteAt), (192, U_isLetter), (193, U_isDigit), (185, U_longerKey)]) hX9_cutName (by decide) (by decide) okX9_cutName (cc1C (n_byteAt l) (by decide) (cc1C (n_isLetter l) (by decide) (cc1C (n_longerKey l) (by decide) (cc1C (n_isDigit l) (by decide) cc0C)))) lg_X9_cutName (b_X9_cutName.and p_cutName)

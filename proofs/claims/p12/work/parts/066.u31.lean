/-- the first k characters of a constant, last first -/
def chL (s : Nat) : Nat → List Int
  | 0 => []
  | k + 1 => (chrV s (Int32.ofInt k)).toInt :: chL s k
abbrev Pp_keyOf (s : Nat) : CpC := fun As σ => match As with
  | [.inr (.inr (some p0))] => p0 = 1000003 + s ∧ (s = 1 ∨ s = 2)
  | _ => False
abbrev Qp_keyOf (s : Nat) : CqC := fun As σ w τ => match As with
  | [.inr (.inr (some p0))] => ∀ v, w = some (.inr (.inl v)) → v.toInt = kyY (chL s (slnC p0).toNat)
  | _ => True
theorem p_keyOf (s : Nat) : PbC KX9_keyOf [(239, P_J0_length_8abf5, Q_J0_length_8abf5), (238, P_J0_charAt_5068e, Q_J0_charAt_5068e), (185, P_X9_longerKey, Q_X9_longerKey)] [(185, U_longerKey)] (fun As σ => P_X9_keyOf As σ ∧ Pp_keyOf s As σ) (Qp_keyOf s) := by
  rintro As σ ⟨⟨p0, rfl, H0, -⟩, hs⟩ K hB hW n
  replace hs : p0 = 1000003 + s ∧ (s = 1 ∨ s = 2) := hs
  obtain ⟨rfl, hs⟩ := hs
  have hal : ∀ k : Nat, (k : Int) < slnC (1000003 + s) → isLY (chrV s (Int32.ofInt k)).toInt ∨ isDY (chrV s (Int32.ofInt k)).toInt := by
    intro k hk
    rcases hs with rfl | rfl
    · have : k < 3 := by have : slnC (1000003 + 1) = 3 := by decide
                         omega
      exact (by decide : ∀ k : Fin 3, isLY (chrV 1 (Int32.ofInt k.1)).toInt ∨ isDY (chrV 1 (Int32.ofInt k.1)).toInt) ⟨k, this⟩
    · have : k < 2 := by have : slnC (1000003 + 2) = 2 := by decide
                         omega
      exact (by decide : ∀ k : Fin 2, isLY (chrV 2 (Int32.ofInt k.1)).toInt ∨ isDY (chrV 2 (Int32.ofInt k.1)).toInt) ⟨k, this⟩
  have hln : slnC (1000003 + s) ≤ 3 := by rcases hs with rfl | rfl <;> decide
  have hAl : ∀ k : Nat, (k : Int) ≤ slnC (1000003 + s) → alK (chL s k) ∧ (chL s k).length = k := by
    intro k
    induction k with
    | zero => exact fun _ => ⟨fun _ h => absurd h List.not_mem_nil, rfl⟩
    | succ k ih =>
      intro hk
      have h1 := ih (by omega)
      refine ⟨fun d hd => (List.mem_cons.mp hd).elim (fun e => by rw [e]; exact hal k (by omega)) (h1.1 d), ?_⟩
      rw [chL, List.length_cons, h1.2]
  change K n 0 [(0, .inr (.inr (some (1000003 + s))))] [] σ
  have L4 : ∀ (n : Nat) (i : Int32) (v : Int64), 0 ≤ i.toInt → i.toInt ≤ slnC (1000003 + s) → v.toInt = kyY (chL s i.toInt.toNat) → K n 4 [(0, .inr (.inr (some (1000003 + s)))), (1, .inr (.inl v)), (3, .inl i)] [] σ := by
    intro n
    induction n using Nat.strongRecOn with
    | _ n ih =>
      intro i v hi0 hi1 hv
      refine hB _ _ _ _ _ (fun m1 hm1 => ?_)
      dsimp only [ucgo, ucwp, ucsC, uqC, uoC, ctC, rfd, KX9_keyOf, KX9_keyOf_0, KX9_keyOf_4, KX9_keyOf_12, KX9_keyOf_28, lkC, s1C, s2C, dlC, kyC, Nat.beq, rcd, rno, Nat.reduceAdd, Nat.reduceBEq, Nat.reduceDiv, List.drop, List.take, List.reverse, List.reverseAux, Int.toNat, Option.toList, List.append, List.cons_append, List.nil_append, fI_qI, fR_qI, fL_qI, fI_qL, fR_qL, fL_qL]
      intro w2 τ2 o2 q2
      obtain ⟨r2, rfl, rfl, -, -, l2⟩ := o2
      dsimp only [Option.toList, List.cons_append, List.nil_append, s1C, s2C, dlC, kyC, Nat.beq, lkC, rcd, rno]
      refine ⟨fun h3 => ?_, fun h3 => ?_⟩
      · have g3 := leI (x := r2) (y := i) h3
        refine hB _ _ _ _ _ (fun m4 hm4 => ?_)
        dsimp only [ucgo, ucwp, ucsC, uqC, uoC, ctC, rfd, KX9_keyOf, KX9_keyOf_0, KX9_keyOf_4, KX9_keyOf_12, KX9_keyOf_28, lkC, s1C, s2C, dlC, kyC, Nat.beq, rcd, rno, Nat.reduceAdd, Nat.reduceBEq, Nat.reduceDiv, List.drop, List.take, List.reverse, List.reverseAux, Int.toNat, Option.toList, List.append, List.cons_append, List.nil_append, fI_qI, fR_qI, fL_qI, fI_qL, fR_qL, fL_qL]
        intro v9 e9
        cases e9
        rw [hv, show (slnC (1000003 + s)).toNat = i.toInt.toNat by omega]
      · have g3 := nleI (x := r2) (y := i) h3
        refine hB _ _ _ _ _ (fun m5 hm5 => ?_)
        dsimp only [ucgo, ucwp, ucsC, uqC, uoC, ctC, rfd, KX9_keyOf, KX9_keyOf_0, KX9_keyOf_4, KX9_keyOf_12, KX9_keyOf_28, lkC, s1C, s2C, dlC, kyC, Nat.beq, rcd, rno, Nat.reduceAdd, Nat.reduceBEq, Nat.reduceDiv, List.drop, List.take, List.reverse, List.reverseAux, Int.toNat, Option.toList, List.append, List.cons_append, List.nil_append, fI_qI, fR_qI, fL_qI, fI_qL, fR_qL, fL_qL]
        intro w6 τ6 o6 q6
        obtain ⟨r6, rfl, rfl, l6⟩ := o6
        replace l6 : r6 = chrV s (Int32.ofInt (i.toInt.toNat : Int)) := by rw [Int.toNat_of_nonneg hi0, Int32.ofInt_toInt, l6, show 1000003 + s - 1000003 = s by omega]
        dsimp only [Option.toList, List.cons_append, List.nil_append, s1C, s2C, dlC, kyC, Nat.beq, lkC, rcd, rno]
        intro w7 τ7 o7 q7
        have al := hal i.toInt.toNat (by omega)
        rw [← l6] at al
        obtain ⟨v7, rfl, rfl⟩ := o7
        obtain ⟨c7, x7, rfl⟩ := q7 () ⟨by rcases al with (q | q) | q <;> omega, by rcases al with (q | q) | q <;> omega⟩ v7 rfl
        dsimp only [Option.toList, List.cons_append, List.nil_append, s1C, s2C, dlC, kyC, Nat.beq, lkC, rcd, rno]
        have c8 : (Int32.ofInt 1).toInt = 1 := by decide
        have a9 : (i + (Int32.ofInt 1)).toInt = i.toInt + 1 := addC (by omega) (by omega) (by omega)
        refine hW _ _ _ _ _ _ (List.forall_mem_cons.2 ⟨List.Mem.tail _ (List.Mem.tail _ (List.Mem.head _)), List.forall_mem_cons.2 ⟨List.Mem.tail _ (List.Mem.head _), List.forall_mem_cons.2 ⟨List.Mem.head _, fun _ h => absurd h List.not_mem_nil⟩⟩⟩) (ih _ (by omega) (i + (Int32.ofInt 1)) _ (by omega) (by omega) ?_)
        have h1 := hAl i.toInt.toNat (by omega)
        rw [show ((i + (Int32.ofInt 1)) : Int32).toInt.toNat = i.toInt.toNat + 1 by omega, chL, ← l6]
        exact ky_s h1.1 (by omega) hv al x7
  refine hB _ _ _ _ _ (fun m1 hm1 => ?_)
  dsimp only [ucgo, ucwp, ucsC, uqC, uoC, ctC, rfd, KX9_keyOf, KX9_keyOf_0, KX9_keyOf_4, KX9_keyOf_12, KX9_keyOf_28, lkC, s1C, s2C, dlC, kyC, Nat.beq, rcd, rno, Nat.reduceAdd, Nat.reduceBEq, Nat.reduceDiv, List.drop, List.take, List.reverse, List.reverseAux, Int.toNat, Option.toList, List.append, List.cons_append, List.nil_append, fI_qI, fR_qI, fL_qI, fI_qL, fR_qL, fL_qL]
  exact hW _ _ _ _ _ _ (List.forall_mem_cons.2 ⟨List.Mem.tail _ (List.Mem.tail _ (List.Mem.head _)), List.forall_mem_cons.2 ⟨List.Mem.tail _ (List.Mem.head _), List.forall_mem_cons.2 ⟨List.Mem.head _, fun _ h => absurd h List.not_mem_nil⟩⟩⟩) (L4 _ _ _ (by decide) (by rcases hs with rfl | rfl <;> decide) (by rcases hs with rfl | rfl <;> decide))
abbrev U_keyOf : CqC := fun As σ w τ => ∀ s, Pp_keyOf s As σ → Qp_keyOf s As σ w τ
theorem n_keyOf (l : Launch) : CMetC l 11 186 P_X9_keyOf (fun As σ w τ => Q_X9_keyOf As σ w τ ∧ U_keyOf As σ w τ) := CMetC.of KX9_keyOf (uc2C [(239, P_J0_length_8abf5, Q_J0_length_8abf5), (238, P_J0_charAt_5068e, Q_J0_charAt_5068e), (185, P_X9_longerKey, Q_X9_longerKey)] [(185, U_longerKey)]) hX9_keyOf (by decide) (by decide) okX9_keyOf (cc1C (m_J0_length_8abf5 l) (by decide) (cc1C (m_J0_charAt_5068e l) (by decide) (cc1C (n_longerKey l) (by decide) cc0C))) lg_X9_keyOf (b_X9_keyOf.and p_keyOf)

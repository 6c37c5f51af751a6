/-- the sign's characters from i on stand in the text from q on -/
def sthY (x : TxY) : Nat → Int → Int → Prop
  | 0, _, _ => True
  | f + 1, i, q => (chrV 3 (Int32.ofInt i)).toInt = btY x q ∧ sthY x f (i + 1) (q + 1)
abbrev Pp_standsThere (x : TxY) : CpC := fun As σ => match As with
  | [.inr (.inr (some p0)), .inl p1, .inl p2, .inl p3] => TxC σ p0 x ∧ 0 ≤ p3.toInt ∧ p3.toInt ≤ 2500 ∧ p1.toInt ≤ p2.toInt
  | _ => False
abbrev Qp_standsThere (x : TxY) : CqC := fun As σ w τ => match As with
  | [.inr (.inr (some p0)), .inl p1, .inl p2, .inl p3] => ∀ r, w = some (.inl r) → (r.toInt = 1 ∧ sthY x (p2.toInt - p1.toInt).toNat p1.toInt p3.toInt) ∨ (r.toInt = 0 ∧ ¬ sthY x (p2.toInt - p1.toInt).toNat p1.toInt p3.toInt)
  | _ => True
theorem sth_s {x : TxY} {i j q : Int} (h : i < j) : sthY x (j - i).toNat i q ↔ (chrV 3 (Int32.ofInt i)).toInt = btY x q ∧ sthY x (j - (i + 1)).toNat (i + 1) (q + 1) := by
  rw [show (j - i).toNat = (j - (i + 1)).toNat + 1 by omega, sthY]
theorem sth_z {x : TxY} {i j q : Int} (h : ¬ i < j) : sthY x (j - i).toNat i q := by
  rw [show (j - i).toNat = 0 by omega, sthY]
  trivial
theorem p_standsThere (x : TxY) : PbC KX9_standsThere [(238, P_J0_charAt_5068e, Q_J0_charAt_5068e), (189, P_X9_byteAt, Q_X9_byteAt)] [(189, U_byteAt)] (fun As σ => P_X9_standsThere As σ ∧ Pp_standsThere x As σ) (Qp_standsThere x) := by
  rintro As σ ⟨⟨p0, p1, p2, p3, rfl, H0, h0, k1, k2, k3, k4⟩, hx⟩ K hB hW n
  replace hx : TxC σ p0 x ∧ 0 ≤ p3.toInt ∧ p3.toInt ≤ 2500 ∧ p1.toInt ≤ p2.toInt := hx
  obtain ⟨hx, hp0, hp1, hp2⟩ := hx
  have hx3 := hx.2.2.2.2
  have z0 := z0I
  change K n 0 [(0, .inr (.inr (some p0))), (1, .inl p1), (2, .inl p2), (3, .inl p3)] [] σ
  generalize hE : sthY x (p2.toInt - p1.toInt).toNat p1.toInt p3.toInt = E
  have L3 : ∀ (n : Nat) (i : Int32), p1.toInt ≤ i.toInt → i.toInt ≤ p2.toInt → (sthY x (p2.toInt - i.toInt).toNat i.toInt (p3.toInt + i.toInt - p1.toInt) ↔ E) → K n 3 [(0, .inr (.inr (some p0))), (1, .inl p1), (2, .inl p2), (3, .inl p3), (4, .inl i)] [] σ := by
    intro n
    induction n using Nat.strongRecOn with
    | _ n ih =>
      intro i hi0 hi1 hb
      refine hB _ _ _ _ _ (fun m1 hm1 => ?_)
      dsimp only [ucgo, ucwp, ucsC, uqC, uoC, ctC, rfd, KX9_standsThere, KX9_standsThere_0, KX9_standsThere_3, KX9_standsThere_9, KX9_standsThere_29, KX9_standsThere_31, KX9_standsThere_37, lkC, s1C, s2C, dlC, kyC, Nat.beq, rcd, rno, Nat.reduceAdd, Nat.reduceBEq, Nat.reduceDiv, List.drop, List.take, List.reverse, List.reverseAux, Int.toNat, Option.toList, List.append, List.cons_append, List.nil_append, fI_qI, fR_qI, fL_qI, fI_qL, fR_qL, fL_qL]
      refine ⟨fun h2 => ?_, fun h2 => ?_⟩
      · have g2 := leI (x := p2) (y := i) h2
        refine hB _ _ _ _ _ (fun m3 hm3 => ?_)
        dsimp only [ucgo, ucwp, ucsC, uqC, uoC, ctC, rfd, KX9_standsThere, KX9_standsThere_0, KX9_standsThere_3, KX9_standsThere_9, KX9_standsThere_29, KX9_standsThere_31, KX9_standsThere_37, lkC, s1C, s2C, dlC, kyC, Nat.beq, rcd, rno, Nat.reduceAdd, Nat.reduceBEq, Nat.reduceDiv, List.drop, List.take, List.reverse, List.reverseAux, Int.toNat, Option.toList, List.append, List.cons_append, List.nil_append, fI_qI, fR_qI, fL_qI, fI_qL, fR_qL, fL_qL]
        have c4 : (Int32.ofInt 1).toInt = 1 := by decide
        intro r9 e9
        cases e9
        exact Or.inl ⟨rfl, by rw [hE]; exact hb.mp (sth_z (by omega))⟩
      · have g2 := nleI (x := p2) (y := i) h2
        refine hB _ _ _ _ _ (fun m5 hm5 => ?_)
        dsimp only [ucgo, ucwp, ucsC, uqC, uoC, ctC, rfd, KX9_standsThere, KX9_standsThere_0, KX9_standsThere_3, KX9_standsThere_9, KX9_standsThere_29, KX9_standsThere_31, KX9_standsThere_37, lkC, s1C, s2C, dlC, kyC, Nat.beq, rcd, rno, Nat.reduceAdd, Nat.reduceBEq, Nat.reduceDiv, List.drop, List.take, List.reverse, List.reverseAux, Int.toNat, Option.toList, List.append, List.cons_append, List.nil_append, fI_qI, fR_qI, fL_qI, fI_qL, fR_qL, fL_qL]
        intro w6 τ6 o6 q6
        obtain ⟨r6, rfl, rfl, l6⟩ := o6
        replace l6 : r6 = chrV 3 (Int32.ofInt i.toInt) := by rw [Int32.ofInt_toInt]; exact l6
        dsimp only [Option.toList, List.cons_append, List.nil_append, s1C, s2C, dlC, kyC, Nat.beq, lkC, rcd, rno]
        have a7 : (p3 + i).toInt = p3.toInt + i.toInt := addC (by omega) (by omega) (by omega)
        have a8 : ((p3 + i) - p1).toInt = (p3.toInt + i.toInt) - p1.toInt := subC (by omega) (by omega) (by omega)
        intro w9 τ9 o9 q9
        obtain ⟨r9, rfl, rfl⟩ := o9
        have b9 : r9.toInt = btY x ((p3.toInt + i.toInt) - p1.toInt) := (q9 x hx r9 rfl).trans (by first | rfl | rw [show (((p3 + i) - p1) : Int32).toInt = ((p3.toInt + i.toInt) - p1.toInt) from by omega])
        dsimp only [Option.toList, List.cons_append, List.nil_append, s1C, s2C, dlC, kyC, Nat.beq, lkC, rcd, rno]
        refine ⟨fun h10 => ?_, fun h10 => ?_⟩
        · have g10 := (eqI (x := r6) (y := r9) h10 : (r6 : Int32).toInt = (r9 : Int32).toInt)
          refine hB _ _ _ _ _ (fun m11 hm11 => ?_)
          dsimp only [ucgo, ucwp, ucsC, uqC, uoC, ctC, rfd, KX9_standsThere, KX9_standsThere_0, KX9_standsThere_3, KX9_standsThere_9, KX9_standsThere_29, KX9_standsThere_31, KX9_standsThere_37, lkC, s1C, s2C, dlC, kyC, Nat.beq, rcd, rno, Nat.reduceAdd, Nat.reduceBEq, Nat.reduceDiv, List.drop, List.take, List.reverse, List.reverseAux, Int.toNat, Option.toList, List.append, List.cons_append, List.nil_append, fI_qI, fR_qI, fL_qI, fI_qL, fR_qL, fL_qL]
          have c12 : (Int32.ofInt 1).toInt = 1 := by decide
          have a13 : (i + (Int32.ofInt 1)).toInt = i.toInt + 1 := addC (by omega) (by omega) (by omega)
          refine hW _ _ _ _ _ _ (List.forall_mem_cons.2 ⟨List.Mem.tail _ (List.Mem.head _), List.forall_mem_cons.2 ⟨List.Mem.tail _ (List.Mem.tail _ (List.Mem.head _)), List.forall_mem_cons.2 ⟨List.Mem.tail _ (List.Mem.tail _ (List.Mem.tail _ (List.Mem.head _))), List.forall_mem_cons.2 ⟨List.Mem.tail _ (List.Mem.tail _ (List.Mem.tail _ (List.Mem.tail _ (List.Mem.head _)))), List.forall_mem_cons.2 ⟨List.Mem.head _, fun _ h => absurd h List.not_mem_nil⟩⟩⟩⟩⟩) (ih _ (by omega) (i + (Int32.ofInt 1)) (by omega) (by omega) ?_)
          rw [sth_s (by omega), ← l6] at hb
          rw [show ((i + (Int32.ofInt 1)) : Int32).toInt = (i.toInt + 1) from by omega, show p3.toInt + (i.toInt + 1) - p1.toInt = p3.toInt + i.toInt - p1.toInt + 1 by omega]
          exact ⟨fun q => hb.mp ⟨by omega, q⟩, fun q => (hb.mpr q).2⟩
        · have g10 := (neI (x := r6) (y := r9) h10 : ¬ (r6 : Int32).toInt = (r9 : Int32).toInt)
          refine hB _ _ _ _ _ (fun m14 hm14 => ?_)
          dsimp only [ucgo, ucwp, ucsC, uqC, uoC, ctC, rfd, KX9_standsThere, KX9_standsThere_0, KX9_standsThere_3, KX9_standsThere_9, KX9_standsThere_29, KX9_standsThere_31, KX9_standsThere_37, lkC, s1C, s2C, dlC, kyC, Nat.beq, rcd, rno, Nat.reduceAdd, Nat.reduceBEq, Nat.reduceDiv, List.drop, List.take, List.reverse, List.reverseAux, Int.toNat, Option.toList, List.append, List.cons_append, List.nil_append, fI_qI, fR_qI, fL_qI, fI_qL, fR_qL, fL_qL]
          have c15 : (Int32.ofInt 0).toInt = 0 := by decide
          intro r9 e9
          cases e9
          rw [sth_s (by omega), ← l6] at hb
          exact Or.inr ⟨rfl, fun q => absurd (hb.mpr (hE ▸ q)).1 (by omega)⟩
  refine hB _ _ _ _ _ (fun m1 hm1 => ?_)
  dsimp only [ucgo, ucwp, ucsC, uqC, uoC, ctC, rfd, KX9_standsThere, KX9_standsThere_0, KX9_standsThere_3, KX9_standsThere_9, KX9_standsThere_29, KX9_standsThere_31, KX9_standsThere_37, lkC, s1C, s2C, dlC, kyC, Nat.beq, rcd, rno, Nat.reduceAdd, Nat.reduceBEq, Nat.reduceDiv, List.drop, List.take, List.reverse, List.reverseAux, Int.toNat, Option.toList, List.append, List.cons_append, List.nil_append, fI_qI, fR_qI, fL_qI, fI_qL, fR_qL, fL_qL]
  exact hW _ _ _ _ _ _ (List.forall_mem_cons.2 ⟨List.Mem.tail _ (List.Mem.head _), List.forall_mem_cons.2 ⟨List.Mem.tail _ (List.Mem.tail _ (List.Mem.head _)), List.forall_mem_cons.2 ⟨List.Mem.tail _ (List.Mem.tail _ (List.Mem.tail _ (List.Mem.head _))), List.forall_mem_cons.2 ⟨List.Mem.tail _ (List.Mem.tail _ (List.Mem.tail _ (List.Mem.tail _ (List.Mem.head _)))), List.forall_mem_cons.2 ⟨List.Mem.head _, fun _ h => absurd h List.not_mem_nil⟩⟩⟩⟩⟩) (L3 _ p1 (Int.le_refl _) hp2 (by rw [← hE, show p3.toInt + p1.toInt - p1.toInt = p3.toInt by omega]))
abbrev U_standsThere : CqC := fun As σ w τ => ∀ x, Pp_standsThere x As σ → Qp_standsThere x As σ w τ
theorem n_standsThere (l : Launch) : CMetC l 11 198 P_X9_standsThere (fun As σ w τ => Q_X9_standsThere As σ w τ ∧ U_standsThere As σ w τ) := CMetC.of KX9_standsThere (uc2C [(238, P_J0_charAt_5068e, Q_J0_charAt_5068e), (189, P_X9_byteAt, Q_X9_byteAt)] [(189, U_byteAt)]) hX9_standsThere (by decide) (by decide) okX9_standsThere (cc1C (m_J0_charAt_5068e l) (by decide) (cc1C (n_byteAt l) (by decide) cc0C)) lg_X9_standsThere (b_X9_standsThere.and p_standsThere)

def sthB (x : TxY) : Nat → Int → Int → Bool
  | 0, _, _ => true
  | f + 1, i, q => decide ((chrV 3 (Int32.ofInt i)).toInt = btY x q) && sthB x f (i + 1) (q + 1)
theorem sth_b {x : TxY} : ∀ (f : Nat) (i q : Int), sthB x f i q = true ↔ sthY x f i q := by
  intro f
  induction f with
  | zero => exact fun i q => ⟨fun _ => trivial, fun _ => rfl⟩
  | succ f ih =>
    intro i q
    rw [sthB, sthY, Bool.and_eq_true, decide_eq_true_eq, ih]
/-- the longest sign: c where we are in SIGNS, b where the sign begins, s its number; z, d size and number of the longest so far -/
def sgLY (x : TxY) (q : Int) : Nat → Int → Int → Int → Int → Int → Int × Int
  | 0, _, _, _, z, d => (z, d)
  | f + 1, c, b, s, z, d => if c = 112 ∨ (chrV 3 (Int32.ofInt c)).toInt = 32 then (if z < c - b ∧ sthB x (c - b).toNat b q = true then sgLY x q f (c + 1) (c + 1) (s + 1) (c - b) s else sgLY x q f (c + 1) (c + 1) (s + 1) z d) else sgLY x q f (c + 1) b s z d
theorem OnC.st {σ τ : CsC} {p0 c : Nat} {z d : Int} {v : Int32} (h : (z = 0 ∧ SaC σ τ) ∨ OnC σ τ p0 d) (hc : fRC τ p0 302 = some c) : OnC σ (qIC τ c (upd (eIC τ c) (fIC τ p0 305).toNatClampNeg v)) p0 v.toInt := by
  rcases h with ⟨-, h⟩ | h
  · rw [h.1]
    rw [h.2.1] at hc
    exact OnC.p h.1 h.2.1 h.2.2 hc
  · rw [h.1]
    rw [h.2.1] at hc
    exact h.q2 hc
abbrev Qp_cutSign (x : TxY) : CqC := fun As σ w τ => match As with
  | [.inr (.inr (some p0)), .inl p1] => ∀ r, w = some (.inl r) → r.toInt = (sgLY x p1.toInt 113 0 0 0 0 0).1 ∧ ((r.toInt = 0 ∧ SaC σ τ) ∨ OnC σ τ p0 (sgLY x p1.toInt 113 0 0 0 0 0).2)
  | _ => True
theorem p_cutSign (x : TxY) : PbC KX9_cutSign [(239, P_J0_length_8abf5, Q_J0_length_8abf5), (238, P_J0_charAt_5068e, Q_J0_charAt_5068e), (198, P_X9_standsThere, Q_X9_standsThere)] [(198, U_standsThere)] (fun As σ => P_X9_cutSign As σ ∧ Pp_cut x As σ) (Qp_cutSign x) := by
  rintro As σ ⟨⟨p0, p1, rfl, H0, h0⟩, hx⟩ K hB hW n
  replace hx : TxC σ p0 x ∧ 0 ≤ p1.toInt ∧ p1.toInt < x.2 := hx
  obtain ⟨hx0, hp0, hp1⟩ := hx
  have hx3 := hx0.2.2.2.2
  have z0 := z0I
  obtain ⟨a0, -, ea0, ta0⟩ := cg307 H0.1 h0
  change K n 0 [(0, .inr (.inr (some p0))), (1, .inl p1)] [] σ
  generalize hE : sgLY x p1.toInt 113 0 0 0 0 0 = E
  have L10 : ∀ (n : Nat) (τ : CsC) (c b s z : Int32) (d : Int), TxC τ p0 x → (∀ a, fRC τ p0 307 = some a → tgC τ a = 101) → ((z.toInt = 0 ∧ SaC σ τ) ∨ OnC σ τ p0 d) → 0 ≤ b.toInt → b.toInt ≤ c.toInt → c.toInt ≤ 113 → 0 ≤ s.toInt → s.toInt ≤ c.toInt → 0 ≤ z.toInt → z.toInt ≤ 113 → sgLY x p1.toInt (113 - c.toInt).toNat c.toInt b.toInt s.toInt z.toInt d = E → K n 10 [(0, .inr (.inr (some p0))), (1, .inl p1), (2, .inl z), (3, .inl s), (4, .inl b), (5, .inl c)] [] τ := by
    intro n
    induction n using Nat.strongRecOn with
    | _ n ih =>
      intro τ c b s z d hx hT cd k1 k2 k3 k4 k5 k6 k7 hb
      refine hB _ _ _ _ _ (fun m1 hm1 => ?_)
      dsimp only [ucgo, ucwp, ucsC, uqC, uoC, ctC, rfd, KX9_cutSign, KX9_cutSign_0, KX9_cutSign_10, KX9_cutSign_20, KX9_cutSign_30, KX9_cutSign_42, KX9_cutSign_51, KX9_cutSign_63, KX9_cutSign_79, KX9_cutSign_88, KX9_cutSign_94, lkC, s1C, s2C, dlC, kyC, Nat.beq, rcd, rno, Nat.reduceAdd, Nat.reduceBEq, Nat.reduceDiv, List.drop, List.take, List.reverse, List.reverseAux, Int.toNat, Option.toList, List.append, List.cons_append, List.nil_append, fI_qI, fR_qI, fL_qI, fI_qL, fR_qL, fL_qL, ug302, ug305]
      intro w2 τ2 o2 q2
      obtain ⟨r2, rfl, rfl, -, -, l2⟩ := o2
      replace l2 : r2.toInt = 112 := l2
      dsimp only [Option.toList, List.cons_append, List.nil_append, s1C, s2C, dlC, kyC, Nat.beq, lkC, rcd, rno]
      refine ⟨fun h3 => ?_, fun h3 => ?_⟩
      · have g3 := ltI (x := r2) (y := c) h3
        refine hB _ _ _ _ _ (fun m4 hm4 => ?_)
        dsimp only [ucgo, ucwp, ucsC, uqC, uoC, ctC, rfd, KX9_cutSign, KX9_cutSign_0, KX9_cutSign_10, KX9_cutSign_20, KX9_cutSign_30, KX9_cutSign_42, KX9_cutSign_51, KX9_cutSign_63, KX9_cutSign_79, KX9_cutSign_88, KX9_cutSign_94, lkC, s1C, s2C, dlC, kyC, Nat.beq, rcd, rno, Nat.reduceAdd, Nat.reduceBEq, Nat.reduceDiv, List.drop, List.take, List.reverse, List.reverseAux, Int.toNat, Option.toList, List.append, List.cons_append, List.nil_append, fI_qI, fR_qI, fL_qI, fI_qL, fR_qL, fL_qL, ug302, ug305]
        intro r9 e9
        cases e9
        rw [show (113 - c.toInt).toNat = 0 by omega, sgLY] at hb
        rw [hE, ← hb]
        exact ⟨rfl, cd⟩
      · have g3 := nltI (x := r2) (y := c) h3
        refine hB _ _ _ _ _ (fun m5 hm5 => ?_)
        dsimp only [ucgo, ucwp, ucsC, uqC, uoC, ctC, rfd, KX9_cutSign, KX9_cutSign_0, KX9_cutSign_10, KX9_cutSign_20, KX9_cutSign_30, KX9_cutSign_42, KX9_cutSign_51, KX9_cutSign_63, KX9_cutSign_79, KX9_cutSign_88, KX9_cutSign_94, lkC, s1C, s2C, dlC, kyC, Nat.beq, rcd, rno, Nat.reduceAdd, Nat.reduceBEq, Nat.reduceDiv, List.drop, List.take, List.reverse, List.reverseAux, Int.toNat, Option.toList, List.append, List.cons_append, List.nil_append, fI_qI, fR_qI, fL_qI, fI_qL, fR_qL, fL_qL, ug302, ug305]
        intro w6 τ6 o6 q6
        obtain ⟨r6, rfl, rfl, -, -, l6⟩ := o6
        replace l6 : r6.toInt = 112 := l6
        dsimp only [Option.toList, List.cons_append, List.nil_append, s1C, s2C, dlC, kyC, Nat.beq, lkC, rcd, rno]
        refine ⟨fun h7 => ?_, fun h7 => ?_⟩
        · have g7 := (eqI (x := c) (y := r6) h7 : (c : Int32).toInt = (r6 : Int32).toInt)
          refine hB _ _ _ _ _ (fun m8 hm8 => ?_)
          dsimp only [ucgo, ucwp, ucsC, uqC, uoC, ctC, rfd, KX9_cutSign, KX9_cutSign_0, KX9_cutSign_10, KX9_cutSign_20, KX9_cutSign_30, KX9_cutSign_42, KX9_cutSign_51, KX9_cutSign_63, KX9_cutSign_79, KX9_cutSign_88, KX9_cutSign_94, lkC, s1C, s2C, dlC, kyC, Nat.beq, rcd, rno, Nat.reduceAdd, Nat.reduceBEq, Nat.reduceDiv, List.drop, List.take, List.reverse, List.reverseAux, Int.toNat, Option.toList, List.append, List.cons_append, List.nil_append, fI_qI, fR_qI, fL_qI, fI_qL, fR_qL, fL_qL, ug302, ug305]
          have a9 : (c - b).toInt = c.toInt - b.toInt := subC (by omega) (by omega) (by omega)
          refine ⟨fun h10 => ?_, fun h10 => ?_⟩
          · have g10 := leI (x := (c - b)) (y := z) h10
            refine hB _ _ _ _ _ (fun m11 hm11 => ?_)
            dsimp only [ucgo, ucwp, ucsC, uqC, uoC, ctC, rfd, KX9_cutSign, KX9_cutSign_0, KX9_cutSign_10, KX9_cutSign_20, KX9_cutSign_30, KX9_cutSign_42, KX9_cutSign_51, KX9_cutSign_63, KX9_cutSign_79, KX9_cutSign_88, KX9_cutSign_94, lkC, s1C, s2C, dlC, kyC, Nat.beq, rcd, rno, Nat.reduceAdd, Nat.reduceBEq, Nat.reduceDiv, List.drop, List.take, List.reverse, List.reverseAux, Int.toNat, Option.toList, List.append, List.cons_append, List.nil_append, fI_qI, fR_qI, fL_qI, fI_qL, fR_qL, fL_qL, ug302, ug305]
            have c12 : (Int32.ofInt 1).toInt = 1 := by decide
            have a13 : (c + (Int32.ofInt 1)).toInt = c.toInt + 1 := addC (by omega) (by omega) (by omega)
            have c14 : (Int32.ofInt 1).toInt = 1 := by decide
            have a15 : (s + (Int32.ofInt 1)).toInt = s.toInt + 1 := addC (by omega) (by omega) (by omega)
            refine hB _ _ _ _ _ (fun m16 hm16 => ?_)
            dsimp only [ucgo, ucwp, ucsC, uqC, uoC, ctC, rfd, KX9_cutSign, KX9_cutSign_0, KX9_cutSign_10, KX9_cutSign_20, KX9_cutSign_30, KX9_cutSign_42, KX9_cutSign_51, KX9_cutSign_63, KX9_cutSign_79, KX9_cutSign_88, KX9_cutSign_94, lkC, s1C, s2C, dlC, kyC, Nat.beq, rcd, rno, Nat.reduceAdd, Nat.reduceBEq, Nat.reduceDiv, List.drop, List.take, List.reverse, List.reverseAux, Int.toNat, Option.toList, List.append, List.cons_append, List.nil_append, fI_qI, fR_qI, fL_qI, fI_qL, fR_qL, fL_qL, ug302, ug305]
            have c17 : (Int32.ofInt 1).toInt = 1 := by decide
            have a18 : (c + (Int32.ofInt 1)).toInt = c.toInt + 1 := addC (by omega) (by omega) (by omega)
            rw [show (113 - c.toInt).toNat = (113 - (c.toInt + 1)).toNat + 1 by omega, sgLY] at hb
            rw [if_pos (by first | exact Or.inl (by omega) | exact Or.inr (by rw [← l0]; omega)), if_neg (by omega)] at hb
            refine hW _ _ _ _ _ _ (List.forall_mem_cons.2 ⟨List.Mem.tail _ (List.Mem.tail _ (List.Mem.tail _ (List.Mem.head _))), List.forall_mem_cons.2 ⟨List.Mem.tail _ (List.Mem.tail _ (List.Mem.tail _ (List.Mem.tail _ (List.Mem.head _)))), List.forall_mem_cons.2 ⟨List.Mem.tail _ (List.Mem.tail _ (List.Mem.tail _ (List.Mem.tail _ (List.Mem.tail _ (List.Mem.head _))))), List.forall_mem_cons.2 ⟨List.Mem.tail _ (List.Mem.head _), List.forall_mem_cons.2 ⟨List.Mem.tail _ (List.Mem.tail _ (List.Mem.head _)), List.forall_mem_cons.2 ⟨List.Mem.head _, fun _ h => absurd h List.not_mem_nil⟩⟩⟩⟩⟩⟩) (ih _ (by omega) _ (c + (Int32.ofInt 1)) (c + (Int32.ofInt 1)) (s + (Int32.ofInt 1)) z _ hx hT cd (by omega) (by omega) (by omega) (by omega) (by omega) (by omega) (by omega) ?_)
            rw [show ((c + (Int32.ofInt 1)) : Int32).toInt = (c.toInt + 1) from by omega, show ((s + (Int32.ofInt 1)) : Int32).toInt = (s.toInt + 1) from by omega]
            exact hb
          · have g10 := nleI (x := (c - b)) (y := z) h10
            refine hB _ _ _ _ _ (fun m19 hm19 => ?_)
            dsimp only [ucgo, ucwp, ucsC, uqC, uoC, ctC, rfd, KX9_cutSign, KX9_cutSign_0, KX9_cutSign_10, KX9_cutSign_20, KX9_cutSign_30, KX9_cutSign_42, KX9_cutSign_51, KX9_cutSign_63, KX9_cutSign_79, KX9_cutSign_88, KX9_cutSign_94, lkC, s1C, s2C, dlC, kyC, Nat.beq, rcd, rno, Nat.reduceAdd, Nat.reduceBEq, Nat.reduceDiv, List.drop, List.take, List.reverse, List.reverseAux, Int.toNat, Option.toList, List.append, List.cons_append, List.nil_append, fI_qI, fR_qI, fL_qI, fI_qL, fR_qL, fL_qL, ug302, ug305]
            intro w20 τ20 o20 q20
            obtain ⟨r20, rfl, rfl, -, -⟩ := o20
            have u20 := q20 x ⟨hx, hp0, by omega, by omega⟩ r20 rfl
            rw [← sth_b] at u20
            dsimp only [Option.toList, List.cons_append, List.nil_append, s1C, s2C, dlC, kyC, Nat.beq, lkC, rcd, rno]
            refine ⟨fun h21 => ?_, fun h21 => ?_⟩
            · have g21 := (eqI (x := r20) (y := 0) h21 : (r20 : Int32).toInt = (0 : Int32).toInt)
              refine hB _ _ _ _ _ (fun m22 hm22 => ?_)
              dsimp only [ucgo, ucwp, ucsC, uqC, uoC, ctC, rfd, KX9_cutSign, KX9_cutSign_0, KX9_cutSign_10, KX9_cutSign_20, KX9_cutSign_30, KX9_cutSign_42, KX9_cutSign_51, KX9_cutSign_63, KX9_cutSign_79, KX9_cutSign_88, KX9_cutSign_94, lkC, s1C, s2C, dlC, kyC, Nat.beq, rcd, rno, Nat.reduceAdd, Nat.reduceBEq, Nat.reduceDiv, List.drop, List.take, List.reverse, List.reverseAux, Int.toNat, Option.toList, List.append, List.cons_append, List.nil_append, fI_qI, fR_qI, fL_qI, fI_qL, fR_qL, fL_qL, ug302, ug305]
              have c23 : (Int32.ofInt 1).toInt = 1 := by decide
              have a24 : (c + (Int32.ofInt 1)).toInt = c.toInt + 1 := addC (by omega) (by omega) (by omega)
              have c25 : (Int32.ofInt 1).toInt = 1 := by decide
              have a26 : (s + (Int32.ofInt 1)).toInt = s.toInt + 1 := addC (by omega) (by omega) (by omega)
              refine hB _ _ _ _ _ (fun m27 hm27 => ?_)
              dsimp only [ucgo, ucwp, ucsC, uqC, uoC, ctC, rfd, KX9_cutSign, KX9_cutSign_0, KX9_cutSign_10, KX9_cutSign_20, KX9_cutSign_30, KX9_cutSign_42, KX9_cutSign_51, KX9_cutSign_63, KX9_cutSign_79, KX9_cutSign_88, KX9_cutSign_94, lkC, s1C, s2C, dlC, kyC, Nat.beq, rcd, rno, Nat.reduceAdd, Nat.reduceBEq, Nat.reduceDiv, List.drop, List.take, List.reverse, List.reverseAux, Int.toNat, Option.toList, List.append, List.cons_append, List.nil_append, fI_qI, fR_qI, fL_qI, fI_qL, fR_qL, fL_qL, ug302, ug305]
              have c28 : (Int32.ofInt 1).toInt = 1 := by decide
              have a29 : (c + (Int32.ofInt 1)).toInt = c.toInt + 1 := addC (by omega) (by omega) (by omega)
              rw [show (113 - c.toInt).toNat = (113 - (c.toInt + 1)).toNat + 1 by omega, sgLY] at hb
              rw [if_pos (by first | exact Or.inl (by omega) | exact Or.inr (by rw [← l0]; omega)), if_neg (fun q => u20.elim (fun y => absurd y.1 (by omega)) (fun y => y.2 q.2))] at hb
              refine hW _ _ _ _ _ _ (List.forall_mem_cons.2 ⟨List.Mem.tail _ (List.Mem.tail _ (List.Mem.tail _ (List.Mem.head _))), List.forall_mem_cons.2 ⟨List.Mem.tail _ (List.Mem.tail _ (List.Mem.tail _ (List.Mem.tail _ (List.Mem.head _)))), List.forall_mem_cons.2 ⟨List.Mem.tail _ (List.Mem.tail _ (List.Mem.tail _ (List.Mem.tail _ (List.Mem.tail _ (List.Mem.head _))))), List.forall_mem_cons.2 ⟨List.Mem.tail _ (List.Mem.head _), List.forall_mem_cons.2 ⟨List.Mem.tail _ (List.Mem.tail _ (List.Mem.head _)), List.forall_mem_cons.2 ⟨List.Mem.head _, fun _ h => absurd h List.not_mem_nil⟩⟩⟩⟩⟩⟩) (ih _ (by omega) _ (c + (Int32.ofInt 1)) (c + (Int32.ofInt 1)) (s + (Int32.ofInt 1)) z _ hx hT cd (by omega) (by omega) (by omega) (by omega) (by omega) (by omega) (by omega) ?_)
              rw [show ((c + (Int32.ofInt 1)) : Int32).toInt = (c.toInt + 1) from by omega, show ((s + (Int32.ofInt 1)) : Int32).toInt = (s.toInt + 1) from by omega]
              exact hb
            · have g21 := (neI (x := r20) (y := 0) h21 : ¬ (r20 : Int32).toInt = (0 : Int32).toInt)
              refine hB _ _ _ _ _ (fun m30 hm30 => ?_)
              dsimp only [ucgo, ucwp, ucsC, uqC, uoC, ctC, rfd, KX9_cutSign, KX9_cutSign_0, KX9_cutSign_10, KX9_cutSign_20, KX9_cutSign_30, KX9_cutSign_42, KX9_cutSign_51, KX9_cutSign_63, KX9_cutSign_79, KX9_cutSign_88, KX9_cutSign_94, lkC, s1C, s2C, dlC, kyC, Nat.beq, rcd, rno, Nat.reduceAdd, Nat.reduceBEq, Nat.reduceDiv, List.drop, List.take, List.reverse, List.reverseAux, Int.toNat, Option.toList, List.append, List.cons_append, List.nil_append, fI_qI, fR_qI, fL_qI, fI_qL, fR_qL, fL_qL, ug302, ug305]
              have a31 : (c - b).toInt = c.toInt - b.toInt := subC (by omega) (by omega) (by omega)
              intro a32 e32 ob32
              cases e32
              intro a33 e33 ob33
              cases e33
              intro a34 e34 t34 v34
              refine hB _ _ _ _ _ (fun m35 hm35 => ?_)
              dsimp only [ucgo, ucwp, ucsC, uqC, uoC, ctC, rfd, KX9_cutSign, KX9_cutSign_0, KX9_cutSign_10, KX9_cutSign_20, KX9_cutSign_30, KX9_cutSign_42, KX9_cutSign_51, KX9_cutSign_63, KX9_cutSign_79, KX9_cutSign_88, KX9_cutSign_94, lkC, s1C, s2C, dlC, kyC, Nat.beq, rcd, rno, Nat.reduceAdd, Nat.reduceBEq, Nat.reduceDiv, List.drop, List.take, List.reverse, List.reverseAux, Int.toNat, Option.toList, List.append, List.cons_append, List.nil_append, fI_qI, fR_qI, fL_qI, fI_qL, fR_qL, fL_qL, ug302, ug305]
              have c36 : (Int32.ofInt 1).toInt = 1 := by decide
              have a37 : (c + (Int32.ofInt 1)).toInt = c.toInt + 1 := addC (by omega) (by omega) (by omega)
              have c38 : (Int32.ofInt 1).toInt = 1 := by decide
              have a39 : (s + (Int32.ofInt 1)).toInt = s.toInt + 1 := addC (by omega) (by omega) (by omega)
              refine hB _ _ _ _ _ (fun m40 hm40 => ?_)
              dsimp only [ucgo, ucwp, ucsC, uqC, uoC, ctC, rfd, KX9_cutSign, KX9_cutSign_0, KX9_cutSign_10, KX9_cutSign_20, KX9_cutSign_30, KX9_cutSign_42, KX9_cutSign_51, KX9_cutSign_63, KX9_cutSign_79, KX9_cutSign_88, KX9_cutSign_94, lkC, s1C, s2C, dlC, kyC, Nat.beq, rcd, rno, Nat.reduceAdd, Nat.reduceBEq, Nat.reduceDiv, List.drop, List.take, List.reverse, List.reverseAux, Int.toNat, Option.toList, List.append, List.cons_append, List.nil_append, fI_qI, fR_qI, fL_qI, fI_qL, fR_qL, fL_qL, ug302, ug305]
              have c41 : (Int32.ofInt 1).toInt = 1 := by decide
              have a42 : (c + (Int32.ofInt 1)).toInt = c.toInt + 1 := addC (by omega) (by omega) (by omega)
              rw [show (113 - c.toInt).toNat = (113 - (c.toInt + 1)).toNat + 1 by omega, sgLY] at hb
              rw [if_pos (by first | exact Or.inl (by omega) | exact Or.inr (by rw [← l0]; omega)), if_pos ⟨by omega, u20.elim (fun y => y.2) (fun y => absurd y.1 (by omega))⟩] at hb
              refine hW _ _ _ _ _ _ (List.forall_mem_cons.2 ⟨List.Mem.tail _ (List.Mem.tail _ (List.Mem.tail _ (List.Mem.tail _ (List.Mem.head _)))), List.forall_mem_cons.2 ⟨List.Mem.tail _ (List.Mem.tail _ (List.Mem.tail _ (List.Mem.tail _ (List.Mem.tail _ (List.Mem.head _))))), List.forall_mem_cons.2 ⟨List.Mem.tail _ (List.Mem.tail _ (List.Mem.tail _ (List.Mem.head _))), List.forall_mem_cons.2 ⟨List.Mem.tail _ (List.Mem.head _), List.forall_mem_cons.2 ⟨List.Mem.tail _ (List.Mem.tail _ (List.Mem.head _)), List.forall_mem_cons.2 ⟨List.Mem.head _, fun _ h => absurd h List.not_mem_nil⟩⟩⟩⟩⟩⟩) (ih _ (by omega) _ (c + (Int32.ofInt 1)) (c + (Int32.ofInt 1)) (s + (Int32.ofInt 1)) (c - b) _ (hx.on rfl rfl (fun a ha => u1C_ne (fun q => absurd ((congrArg (tgC τ) q).symm.trans (hT a ha)) (by rw [show tgC τ a34 = 100 from t34.2]; decide)))) hT (Or.inr (OnC.st cd e34)) (by omega) (by omega) (by omega) (by omega) (by omega) (by omega) (by omega) ?_)
              rw [show ((c + (Int32.ofInt 1)) : Int32).toInt = (c.toInt + 1) from by omega, show ((s + (Int32.ofInt 1)) : Int32).toInt = (s.toInt + 1) from by omega, show ((c - b) : Int32).toInt = (c.toInt - b.toInt) from by omega]
              exact hb
        · have g7 := (neI (x := c) (y := r6) h7 : ¬ (c : Int32).toInt = (r6 : Int32).toInt)
          refine hB _ _ _ _ _ (fun m43 hm43 => ?_)
          dsimp only [ucgo, ucwp, ucsC, uqC, uoC, ctC, rfd, KX9_cutSign, KX9_cutSign_0, KX9_cutSign_10, KX9_cutSign_20, KX9_cutSign_30, KX9_cutSign_42, KX9_cutSign_51, KX9_cutSign_63, KX9_cutSign_79, KX9_cutSign_88, KX9_cutSign_94, lkC, s1C, s2C, dlC, kyC, Nat.beq, rcd, rno, Nat.reduceAdd, Nat.reduceBEq, Nat.reduceDiv, List.drop, List.take, List.reverse, List.reverseAux, Int.toNat, Option.toList, List.append, List.cons_append, List.nil_append, fI_qI, fR_qI, fL_qI, fI_qL, fR_qL, fL_qL, ug302, ug305]
          intro w44 τ44 o44 q44
          obtain ⟨r44, rfl, rfl, l44⟩ := o44
          replace l44 : r44 = chrV 3 (Int32.ofInt c.toInt) := by rw [Int32.ofInt_toInt]; exact l44
          dsimp only [Option.toList, List.cons_append, List.nil_append, s1C, s2C, dlC, kyC, Nat.beq, lkC, rcd, rno]
          have c45 : (Int32.ofInt 32).toInt = 32 := by decide
          refine ⟨fun h46 => ?_, fun h46 => ?_⟩
          · have g46 := (neI (x := r44) (y := (Int32.ofInt 32)) h46 : ¬ (r44 : Int32).toInt = ((Int32.ofInt 32) : Int32).toInt)
            refine hB _ _ _ _ _ (fun m47 hm47 => ?_)
            dsimp only [ucgo, ucwp, ucsC, uqC, uoC, ctC, rfd, KX9_cutSign, KX9_cutSign_0, KX9_cutSign_10, KX9_cutSign_20, KX9_cutSign_30, KX9_cutSign_42, KX9_cutSign_51, KX9_cutSign_63, KX9_cutSign_79, KX9_cutSign_88, KX9_cutSign_94, lkC, s1C, s2C, dlC, kyC, Nat.beq, rcd, rno, Nat.reduceAdd, Nat.reduceBEq, Nat.reduceDiv, List.drop, List.take, List.reverse, List.reverseAux, Int.toNat, Option.toList, List.append, List.cons_append, List.nil_append, fI_qI, fR_qI, fL_qI, fI_qL, fR_qL, fL_qL, ug302, ug305]
            have c48 : (Int32.ofInt 1).toInt = 1 := by decide
            have a49 : (c + (Int32.ofInt 1)).toInt = c.toInt + 1 := addC (by omega) (by omega) (by omega)
            rw [show (113 - c.toInt).toNat = (113 - (c.toInt + 1)).toNat + 1 by omega, sgLY] at hb
            rw [if_neg (by rw [← l44]; omega)] at hb
            refine hW _ _ _ _ _ _ (List.forall_mem_cons.2 ⟨List.Mem.tail _ (List.Mem.head _), List.forall_mem_cons.2 ⟨List.Mem.tail _ (List.Mem.tail _ (List.Mem.head _)), List.forall_mem_cons.2 ⟨List.Mem.tail _ (List.Mem.tail _ (List.Mem.tail _ (List.Mem.head _))), List.forall_mem_cons.2 ⟨List.Mem.tail _ (List.Mem.tail _ (List.Mem.tail _ (List.Mem.tail _ (List.Mem.head _)))), List.forall_mem_cons.2 ⟨List.Mem.tail _ (List.Mem.tail _ (List.Mem.tail _ (List.Mem.tail _ (List.Mem.tail _ (List.Mem.head _))))), List.forall_mem_cons.2 ⟨List.Mem.head _, fun _ h => absurd h List.not_mem_nil⟩⟩⟩⟩⟩⟩) (ih _ (by omega) _ (c + (Int32.ofInt 1)) b s z _ hx hT cd (by omega) (by omega) (by omega) (by omega) (by omega) (by omega) (by omega) ?_)
            rw [show ((c + (Int32.ofInt 1)) : Int32).toInt = (c.toInt + 1) from by omega]
            exact hb
          · have g46 := (eqI (x := r44) (y := (Int32.ofInt 32)) h46 : (r44 : Int32).toInt = ((Int32.ofInt 32) : Int32).toInt)
            refine hB _ _ _ _ _ (fun m50 hm50 => ?_)
            dsimp only [ucgo, ucwp, ucsC, uqC, uoC, ctC, rfd, KX9_cutSign, KX9_cutSign_0, KX9_cutSign_10, KX9_cutSign_20, KX9_cutSign_30, KX9_cutSign_42, KX9_cutSign_51, KX9_cutSign_63, KX9_cutSign_79, KX9_cutSign_88, KX9_cutSign_94, lkC, s1C, s2C, dlC, kyC, Nat.beq, rcd, rno, Nat.reduceAdd, Nat.reduceBEq, Nat.reduceDiv, List.drop, List.take, List.reverse, List.reverseAux, Int.toNat, Option.toList, List.append, List.cons_append, List.nil_append, fI_qI, fR_qI, fL_qI, fI_qL, fR_qL, fL_qL, ug302, ug305]
            have a51 : (c - b).toInt = c.toInt - b.toInt := subC (by omega) (by omega) (by omega)
            refine ⟨fun h52 => ?_, fun h52 => ?_⟩
            · have g52 := leI (x := (c - b)) (y := z) h52
              refine hB _ _ _ _ _ (fun m53 hm53 => ?_)
              dsimp only [ucgo, ucwp, ucsC, uqC, uoC, ctC, rfd, KX9_cutSign, KX9_cutSign_0, KX9_cutSign_10, KX9_cutSign_20, KX9_cutSign_30, KX9_cutSign_42, KX9_cutSign_51, KX9_cutSign_63, KX9_cutSign_79, KX9_cutSign_88, KX9_cutSign_94, lkC, s1C, s2C, dlC, kyC, Nat.beq, rcd, rno, Nat.reduceAdd, Nat.reduceBEq, Nat.reduceDiv, List.drop, List.take, List.reverse, List.reverseAux, Int.toNat, Option.toList, List.append, List.cons_append, List.nil_append, fI_qI, fR_qI, fL_qI, fI_qL, fR_qL, fL_qL, ug302, ug305]
              have c54 : (Int32.ofInt 1).toInt = 1 := by decide
              have a55 : (c + (Int32.ofInt 1)).toInt = c.toInt + 1 := addC (by omega) (by omega) (by omega)
              have c56 : (Int32.ofInt 1).toInt = 1 := by decide
              have a57 : (s + (Int32.ofInt 1)).toInt = s.toInt + 1 := addC (by omega) (by omega) (by omega)
              refine hB _ _ _ _ _ (fun m58 hm58 => ?_)
              dsimp only [ucgo, ucwp, ucsC, uqC, uoC, ctC, rfd, KX9_cutSign, KX9_cutSign_0, KX9_cutSign_10, KX9_cutSign_20, KX9_cutSign_30, KX9_cutSign_42, KX9_cutSign_51, KX9_cutSign_63, KX9_cutSign_79, KX9_cutSign_88, KX9_cutSign_94, lkC, s1C, s2C, dlC, kyC, Nat.beq, rcd, rno, Nat.reduceAdd, Nat.reduceBEq, Nat.reduceDiv, List.drop, List.take, List.reverse, List.reverseAux, Int.toNat, Option.toList, List.append, List.cons_append, List.nil_append, fI_qI, fR_qI, fL_qI, fI_qL, fR_qL, fL_qL, ug302, ug305]
              have c59 : (Int32.ofInt 1).toInt = 1 := by decide
              have a60 : (c + (Int32.ofInt 1)).toInt = c.toInt + 1 := addC (by omega) (by omega) (by omega)
              rw [show (113 - c.toInt).toNat = (113 - (c.toInt + 1)).toNat + 1 by omega, sgLY] at hb
              rw [if_pos (by first | exact Or.inl (by omega) | exact Or.inr (by rw [← l44]; omega)), if_neg (by omega)] at hb
              refine hW _ _ _ _ _ _ (List.forall_mem_cons.2 ⟨List.Mem.tail _ (List.Mem.tail _ (List.Mem.tail _ (List.Mem.head _))), List.forall_mem_cons.2 ⟨List.Mem.tail _ (List.Mem.tail _ (List.Mem.tail _ (List.Mem.tail _ (List.Mem.head _)))), List.forall_mem_cons.2 ⟨List.Mem.tail _ (List.Mem.tail _ (List.Mem.tail _ (List.Mem.tail _ (List.Mem.tail _ (List.Mem.head _))))), List.forall_mem_cons.2 ⟨List.Mem.tail _ (List.Mem.head _), List.forall_mem_cons.2 ⟨List.Mem.tail _ (List.Mem.tail _ (List.Mem.head _)), List.forall_mem_cons.2 ⟨List.Mem.head _, fun _ h => absurd h List.not_mem_nil⟩⟩⟩⟩⟩⟩) (ih _ (by omega) _ (c + (Int32.ofInt 1)) (c + (Int32.ofInt 1)) (s + (Int32.ofInt 1)) z _ hx hT cd (by omega) (by omega) (by omega) (by omega) (by omega) (by omega) (by omega) ?_)
              rw [show ((c + (Int32.ofInt 1)) : Int32).toInt = (c.toInt + 1) from by omega, show ((s + (Int32.ofInt 1)) : Int32).toInt = (s.toInt + 1) from by omega]
              exact hb
            · have g52 := nleI (x := (c - b)) (y := z) h52
              refine hB _ _ _ _ _ (fun m61 hm61 => ?_)
              dsimp only [ucgo, ucwp, ucsC, uqC, uoC, ctC, rfd, KX9_cutSign, KX9_cutSign_0, KX9_cutSign_10, KX9_cutSign_20, KX9_cutSign_30, KX9_cutSign_42, KX9_cutSign_51, KX9_cutSign_63, KX9_cutSign_79, KX9_cutSign_88, KX9_cutSign_94, lkC, s1C, s2C, dlC, kyC, Nat.beq, rcd, rno, Nat.reduceAdd, Nat.reduceBEq, Nat.reduceDiv, List.drop, List.take, List.reverse, List.reverseAux, Int.toNat, Option.toList, List.append, List.cons_append, List.nil_append, fI_qI, fR_qI, fL_qI, fI_qL, fR_qL, fL_qL, ug302, ug305]
              intro w62 τ62 o62 q62
              obtain ⟨r62, rfl, rfl, -, -⟩ := o62
              have u62 := q62 x ⟨hx, hp0, by omega, by omega⟩ r62 rfl
              rw [← sth_b] at u62
              dsimp only [Option.toList, List.cons_append, List.nil_append, s1C, s2C, dlC, kyC, Nat.beq, lkC, rcd, rno]
              refine ⟨fun h63 => ?_, fun h63 => ?_⟩
              · have g63 := (eqI (x := r62) (y := 0) h63 : (r62 : Int32).toInt = (0 : Int32).toInt)
                refine hB _ _ _ _ _ (fun m64 hm64 => ?_)
                dsimp only [ucgo, ucwp, ucsC, uqC, uoC, ctC, rfd, KX9_cutSign, KX9_cutSign_0, KX9_cutSign_10, KX9_cutSign_20, KX9_cutSign_30, KX9_cutSign_42, KX9_cutSign_51, KX9_cutSign_63, KX9_cutSign_79, KX9_cutSign_88, KX9_cutSign_94, lkC, s1C, s2C, dlC, kyC, Nat.beq, rcd, rno, Nat.reduceAdd, Nat.reduceBEq, Nat.reduceDiv, List.drop, List.take, List.reverse, List.reverseAux, Int.toNat, Option.toList, List.append, List.cons_append, List.nil_append, fI_qI, fR_qI, fL_qI, fI_qL, fR_qL, fL_qL, ug302, ug305]
                have c65 : (Int32.ofInt 1).toInt = 1 := by decide
                have a66 : (c + (Int32.ofInt 1)).toInt = c.toInt + 1 := addC (by omega) (by omega) (by omega)
                have c67 : (Int32.ofInt 1).toInt = 1 := by decide
                have a68 : (s + (Int32.ofInt 1)).toInt = s.toInt + 1 := addC (by omega) (by omega) (by omega)
                refine hB _ _ _ _ _ (fun m69 hm69 => ?_)
                dsimp only [ucgo, ucwp, ucsC, uqC, uoC, ctC, rfd, KX9_cutSign, KX9_cutSign_0, KX9_cutSign_10, KX9_cutSign_20, KX9_cutSign_30, KX9_cutSign_42, KX9_cutSign_51, KX9_cutSign_63, KX9_cutSign_79, KX9_cutSign_88, KX9_cutSign_94, lkC, s1C, s2C, dlC, kyC, Nat.beq, rcd, rno, Nat.reduceAdd, Nat.reduceBEq, Nat.reduceDiv, List.drop, List.take, List.reverse, List.reverseAux, Int.toNat, Option.toList, List.append, List.cons_append, List.nil_append, fI_qI, fR_qI, fL_qI, fI_qL, fR_qL, fL_qL, ug302, ug305]
                have c70 : (Int32.ofInt 1).toInt = 1 := by decide
                have a71 : (c + (Int32.ofInt 1)).toInt = c.toInt + 1 := addC (by omega) (by omega) (by omega)
                rw [show (113 - c.toInt).toNat = (113 - (c.toInt + 1)).toNat + 1 by omega, sgLY] at hb
                rw [if_pos (by first | exact Or.inl (by omega) | exact Or.inr (by rw [← l44]; omega)), if_neg (fun q => u62.elim (fun y => absurd y.1 (by omega)) (fun y => y.2 q.2))] at hb
                refine hW _ _ _ _ _ _ (List.forall_mem_cons.2 ⟨List.Mem.tail _ (List.Mem.tail _ (List.Mem.tail _ (List.Mem.head _))), List.forall_mem_cons.2 ⟨List.Mem.tail _ (List.Mem.tail _ (List.Mem.tail _ (List.Mem.tail _ (List.Mem.head _)))), List.forall_mem_cons.2 ⟨List.Mem.tail _ (List.Mem.tail _ (List.Mem.tail _ (List.Mem.tail _ (List.Mem.tail _ (List.Mem.head _))))), List.forall_mem_cons.2 ⟨List.Mem.tail _ (List.Mem.head _), List.forall_mem_cons.2 ⟨List.Mem.tail _ (List.Mem.tail _ (List.Mem.head _)), List.forall_mem_cons.2 ⟨List.Mem.head _, fun _ h => absurd h List.not_mem_nil⟩⟩⟩⟩⟩⟩) (ih _ (by omega) _ (c + (Int32.ofInt 1)) (c + (Int32.ofInt 1)) (s + (Int32.ofInt 1)) z _ hx hT cd (by omega) (by omega) (by omega) (by omega) (by omega) (by omega) (by omega) ?_)
                rw [show ((c + (Int32.ofInt 1)) : Int32).toInt = (c.toInt + 1) from by omega, show ((s + (Int32.ofInt 1)) : Int32).toInt = (s.toInt + 1) from by omega]
                exact hb
              · have g63 := (neI (x := r62) (y := 0) h63 : ¬ (r62 : Int32).toInt = (0 : Int32).toInt)
                refine hB _ _ _ _ _ (fun m72 hm72 => ?_)
                dsimp only [ucgo, ucwp, ucsC, uqC, uoC, ctC, rfd, KX9_cutSign, KX9_cutSign_0, KX9_cutSign_10, KX9_cutSign_20, KX9_cutSign_30, KX9_cutSign_42, KX9_cutSign_51, KX9_cutSign_63, KX9_cutSign_79, KX9_cutSign_88, KX9_cutSign_94, lkC, s1C, s2C, dlC, kyC, Nat.beq, rcd, rno, Nat.reduceAdd, Nat.reduceBEq, Nat.reduceDiv, List.drop, List.take, List.reverse, List.reverseAux, Int.toNat, Option.toList, List.append, List.cons_append, List.nil_append, fI_qI, fR_qI, fL_qI, fI_qL, fR_qL, fL_qL, ug302, ug305]
                have a73 : (c - b).toInt = c.toInt - b.toInt := subC (by omega) (by omega) (by omega)
                intro a74 e74 ob74
                cases e74
                intro a75 e75 ob75
                cases e75
                intro a76 e76 t76 v76
                refine hB _ _ _ _ _ (fun m77 hm77 => ?_)
                dsimp only [ucgo, ucwp, ucsC, uqC, uoC, ctC, rfd, KX9_cutSign, KX9_cutSign_0, KX9_cutSign_10, KX9_cutSign_20, KX9_cutSign_30, KX9_cutSign_42, KX9_cutSign_51, KX9_cutSign_63, KX9_cutSign_79, KX9_cutSign_88, KX9_cutSign_94, lkC, s1C, s2C, dlC, kyC, Nat.beq, rcd, rno, Nat.reduceAdd, Nat.reduceBEq, Nat.reduceDiv, List.drop, List.take, List.reverse, List.reverseAux, Int.toNat, Option.toList, List.append, List.cons_append, List.nil_append, fI_qI, fR_qI, fL_qI, fI_qL, fR_qL, fL_qL, ug302, ug305]
                have c78 : (Int32.ofInt 1).toInt = 1 := by decide
                have a79 : (c + (Int32.ofInt 1)).toInt = c.toInt + 1 := addC (by omega) (by omega) (by omega)
                have c80 : (Int32.ofInt 1).toInt = 1 := by decide
                have a81 : (s + (Int32.ofInt 1)).toInt = s.toInt + 1 := addC (by omega) (by omega) (by omega)
                refine hB _ _ _ _ _ (fun m82 hm82 => ?_)
                dsimp only [ucgo, ucwp, ucsC, uqC, uoC, ctC, rfd, KX9_cutSign, KX9_cutSign_0, KX9_cutSign_10, KX9_cutSign_20, KX9_cutSign_30, KX9_cutSign_42, KX9_cutSign_51, KX9_cutSign_63, KX9_cutSign_79, KX9_cutSign_88, KX9_cutSign_94, lkC, s1C, s2C, dlC, kyC, Nat.beq, rcd, rno, Nat.reduceAdd, Nat.reduceBEq, Nat.reduceDiv, List.drop, List.take, List.reverse, List.reverseAux, Int.toNat, Option.toList, List.append, List.cons_append, List.nil_append, fI_qI, fR_qI, fL_qI, fI_qL, fR_qL, fL_qL, ug302, ug305]
                have c83 : (Int32.ofInt 1).toInt = 1 := by decide
                have a84 : (c + (Int32.ofInt 1)).toInt = c.toInt + 1 := addC (by omega) (by omega) (by omega)
                rw [show (113 - c.toInt).toNat = (113 - (c.toInt + 1)).toNat + 1 by omega, sgLY] at hb
                rw [if_pos (by first | exact Or.inl (by omega) | exact Or.inr (by rw [← l44]; omega)), if_pos ⟨by omega, u62.elim (fun y => y.2) (fun y => absurd y.1 (by omega))⟩] at hb
                refine hW _ _ _ _ _ _ (List.forall_mem_cons.2 ⟨List.Mem.tail _ (List.Mem.tail _ (List.Mem.tail _ (List.Mem.tail _ (List.Mem.head _)))), List.forall_mem_cons.2 ⟨List.Mem.tail _ (List.Mem.tail _ (List.Mem.tail _ (List.Mem.tail _ (List.Mem.tail _ (List.Mem.head _))))), List.forall_mem_cons.2 ⟨List.Mem.tail _ (List.Mem.tail _ (List.Mem.tail _ (List.Mem.head _))), List.forall_mem_cons.2 ⟨List.Mem.tail _ (List.Mem.head _), List.forall_mem_cons.2 ⟨List.Mem.tail _ (List.Mem.tail _ (List.Mem.head _)), List.forall_mem_cons.2 ⟨List.Mem.head _, fun _ h => absurd h List.not_mem_nil⟩⟩⟩⟩⟩⟩) (ih _ (by omega) _ (c + (Int32.ofInt 1)) (c + (Int32.ofInt 1)) (s + (Int32.ofInt 1)) (c - b) _ (hx.on rfl rfl (fun a ha => u1C_ne (fun q => absurd ((congrArg (tgC τ) q).symm.trans (hT a ha)) (by rw [show tgC τ a76 = 100 from t76.2]; decide)))) hT (Or.inr (OnC.st cd e76)) (by omega) (by omega) (by omega) (by omega) (by omega) (by omega) (by omega) ?_)
                rw [show ((c + (Int32.ofInt 1)) : Int32).toInt = (c.toInt + 1) from by omega, show ((s + (Int32.ofInt 1)) : Int32).toInt = (s.toInt + 1) from by omega, show ((c - b) : Int32).toInt = (c.toInt - b.toInt) from by omega]
                exact hb
  refine hB _ _ _ _ _ (fun m1 hm1 => ?_)
  dsimp only [ucgo, ucwp, ucsC, uqC, uoC, ctC, rfd, KX9_cutSign, KX9_cutSign_0, KX9_cutSign_10, KX9_cutSign_20, KX9_cutSign_30, KX9_cutSign_42, KX9_cutSign_51, KX9_cutSign_63, KX9_cutSign_79, KX9_cutSign_88, KX9_cutSign_94, lkC, s1C, s2C, dlC, kyC, Nat.beq, rcd, rno, Nat.reduceAdd, Nat.reduceBEq, Nat.reduceDiv, List.drop, List.take, List.reverse, List.reverseAux, Int.toNat, Option.toList, List.append, List.cons_append, List.nil_append, fI_qI, fR_qI, fL_qI, fI_qL, fR_qL, fL_qL, ug302, ug305]
  exact hW _ _ _ _ _ _ (List.forall_mem_cons.2 ⟨List.Mem.tail _ (List.Mem.tail _ (List.Mem.tail _ (List.Mem.tail _ (List.Mem.head _)))), List.forall_mem_cons.2 ⟨List.Mem.tail _ (List.Mem.tail _ (List.Mem.tail _ (List.Mem.tail _ (List.Mem.tail _ (List.Mem.head _))))), List.forall_mem_cons.2 ⟨List.Mem.tail _ (List.Mem.tail _ (List.Mem.tail _ (List.Mem.head _))), List.forall_mem_cons.2 ⟨List.Mem.tail _ (List.Mem.tail _ (List.Mem.head _)), List.forall_mem_cons.2 ⟨List.Mem.tail _ (List.Mem.head _), List.forall_mem_cons.2 ⟨List.Mem.head _, fun _ h => absurd h List.not_mem_nil⟩⟩⟩⟩⟩⟩) (L10 _ σ _ _ _ _ 0 hx0 (fun a ha => by rw [← Option.some.inj (ea0.symm.trans ha)]; exact ta0.2.1) (Or.inl ⟨rfl, SaC.rf⟩) (by decide) (by decide) (by decide) (by decide) (by decide) (by decide) (by decide) hE)
abbrev U_cutSign : CqC := fun As σ w τ => ∀ x, Pp_cut x As σ → Qp_cutSign x As σ w τ
theorem n_cutSign (l : Launch) : CMetC l 12 197 P_X9_cutSign (fun As σ w τ => Q_X9_cutSign As σ w τ ∧ U_cutSign As σ w τ) := CMetC.of KX9_cutSign (uc2C [(239, P_J0_length_8abf5, Q_J0_length_8abf5), (238, P_J0_charAt_5068e, Q_J0_charAt_5068e), (198, P_X9_standsThere, Q_X9_standsThere)] [(198, U_standsThere)]) hX9_cutSign (by decide) (by decide) okX9_cutSign (cc1C (m_J0_length_8abf5 l) (by decide) (cc1C (m_J0_charAt_5068e l) (by decide) (cc1C (n_standsThere l) (by decide) cc0C))) lg_X9_cutSign (b_X9_cutSign.and p_cutSign)

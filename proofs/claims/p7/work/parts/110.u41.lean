theorem ug370 (σ : CsC) (a : Nat) : gtC σ a 370 = .inl (fIC σ a 370) := rfl
/-- what told answers -/
def tldY (m : Nat) (z : LzY) (i w : Int) : Int := if w = 0 then (m : Int) else if w = 1 then (z.1.length : Int) else if w = 2 then (z.2.length : Int) else if w = 3 then i else -1
theorem tl_0 {m : Nat} {z : LzY} {i w r : Int} (g : w = 0) (e : r = m) : r = tldY m z i w := by unfold tldY; rw [if_pos g]; exact e
theorem tl_1 {m : Nat} {z : LzY} {i w r : Int} (g : w = 1) (e : r = z.1.length) : r = tldY m z i w := by unfold tldY; rw [if_neg (by omega), if_pos g]; exact e
theorem tl_2 {m : Nat} {z : LzY} {i w r : Int} (g : w = 2) (e : r = z.2.length) : r = tldY m z i w := by unfold tldY; rw [if_neg (by omega), if_neg (by omega), if_pos g]; exact e
theorem tl_3 {m : Nat} {z : LzY} {i w r : Int} (g : w = 3) (e : r = i) : r = tldY m z i w := by unfold tldY; rw [if_neg (by omega), if_neg (by omega), if_neg (by omega), if_pos g]; exact e
theorem tl_4 {m : Nat} {z : LzY} {i w : Int} (g0 : ¬ w = 0) (g1 : ¬ w = 1) (g2 : ¬ w = 2) (g3 : ¬ w = 3) : (-1 : Int) = tldY m z i w := by unfold tldY; rw [if_neg g0, if_neg g1, if_neg g2, if_neg g3]
abbrev Pp_told (z : TxY × Nat × LzY) : CpC := fun As σ => match As with
  | [.inr (.inr (some p0)), .inl p1] => TcP σ p0 z.1 z.2.1 ∧ LcP σ p0 z.2.2
  | _ => False
abbrev Qp_told (z : TxY × Nat × LzY) : CqC := fun As σ w τ => match As with
  | [.inr (.inr (some p0)), .inl p1] => ∀ r, w = some (.inl r) → r.toInt = tldY z.2.1 z.2.2 (fIC σ p0 370).toInt p1.toInt
  | _ => True
theorem p_told (z : TxY × Nat × LzY) : PbC KX11_told [(234, P_Jx4a65c_size_8abf5, Q_Jx4a65c_size_8abf5)] [] (fun As σ => P_X11_told As σ ∧ Pp_told z As σ) (Qp_told z) := by
  obtain ⟨y, m, lz⟩ := z
  rintro As σ ⟨⟨p0, p1, rfl, H0, h0⟩, hx⟩ K hB hW n
  replace hx : TcP σ p0 y m ∧ LcP σ p0 lz := hx
  obtain ⟨⟨P, t, hP, ht, a0, a1, a2, f012, i5, hr⟩, P2, la, lb, hP2, ⟨⟨fa, fb⟩, -⟩, sa, sb⟩ := hx
  obtain rfl : P = P2 := Option.some.inj (hP.symm.trans hP2)
  have z0 := z0I
  change K n 0 [(0, .inr (.inr (some p0))), (1, .inl p1)] [] σ
  refine hB _ _ _ _ _ (fun m51 hm51 => ?_)
  dsimp only [ucgo, ucwp, ucsC, uqC, uoC, ctC, rfd, rsw, KX11_told, KX11_told_0, KX11_told_32, KX11_told_43, KX11_told_54, KX11_told_65, KX11_told_70, lkC, s1C, s2C, dlC, kyC, Nat.beq, rcd, rno, Nat.reduceAdd, Nat.reduceBEq, Nat.reduceDiv, List.drop, List.take, List.reverse, List.reverseAux, Int.toNat, Option.toList, List.append, List.cons_append, List.nil_append, fI_qI, fR_qI, fL_qI, fI_qL, fR_qL, fL_qL, ug210, ug211, ug212, ug305, ug363, ug370]
  refine ⟨fun h52 => ?_, fun h52 => ?_⟩
  · have g52 : (p1 : Int32).toInt = 0 := h52
    refine hB _ _ _ _ _ (fun m53 hm53 => ?_)
    dsimp only [ucgo, ucwp, ucsC, uqC, uoC, ctC, rfd, rsw, KX11_told, KX11_told_0, KX11_told_32, KX11_told_43, KX11_told_54, KX11_told_65, KX11_told_70, lkC, s1C, s2C, dlC, kyC, Nat.beq, rcd, rno, Nat.reduceAdd, Nat.reduceBEq, Nat.reduceDiv, List.drop, List.take, List.reverse, List.reverseAux, Int.toNat, Option.toList, List.append, List.cons_append, List.nil_append, fI_qI, fR_qI, fL_qI, fI_qL, fR_qL, fL_qL, ug210, ug211, ug212, ug305, ug363, ug370]
    intro a54 e54 ob54
    cases e54
    intro a55 e55 ob55
    obtain rfl : P = a55 := Option.some.inj (hP.symm.trans e55)
    intro a56 e56 ob56
    obtain rfl : t = a56 := Option.some.inj (ht.symm.trans e56)
    intro r9 e9
    obtain rfl := Sum.inl.inj (Option.some.inj e9)
    exact tl_0 (by omega) i5
  have g52 : ¬ (p1 : Int32).toInt = 0 := h52
  refine ⟨fun h57 => ?_, fun h57 => ?_⟩
  · have g57 : (p1 : Int32).toInt = 1 := h57
    refine hB _ _ _ _ _ (fun m58 hm58 => ?_)
    dsimp only [ucgo, ucwp, ucsC, uqC, uoC, ctC, rfd, rsw, KX11_told, KX11_told_0, KX11_told_32, KX11_told_43, KX11_told_54, KX11_told_65, KX11_told_70, lkC, s1C, s2C, dlC, kyC, Nat.beq, rcd, rno, Nat.reduceAdd, Nat.reduceBEq, Nat.reduceDiv, List.drop, List.take, List.reverse, List.reverseAux, Int.toNat, Option.toList, List.append, List.cons_append, List.nil_append, fI_qI, fR_qI, fL_qI, fI_qL, fR_qL, fL_qL, ug210, ug211, ug212, ug305, ug363, ug370]
    intro a59 e59 ob59
    cases e59
    intro a60 e60 ob60
    obtain rfl : P = a60 := Option.some.inj (hP.symm.trans e60)
    split
    case h_2 => trivial
    rename_i b61 rs61 hq61
    obtain ⟨hq1_61, hq2_61⟩ := List.cons.inj hq61
    subst hq2_61
    have rc61 := Sum.inr.inj (Sum.inr.inj hq1_61)
    intro w61 τ61 o61 q61
    obtain ⟨r61, rfl, rfl, -, -, s61, -⟩ := o61
    obtain rfl : la = b61 := Option.some.inj (fa.symm.trans rc61)
    have sz : (r61 : Int32).toInt = lz.1.length := by rw [← s61]; exact sa
    dsimp only [Option.toList, List.cons_append, List.nil_append, s1C, s2C, dlC, kyC, Nat.beq, lkC, rcd, rno]
    intro r9 e9
    obtain rfl := Sum.inl.inj (Option.some.inj e9)
    exact tl_1 (by omega) sz
  have g57 : ¬ (p1 : Int32).toInt = 1 := h57
  refine ⟨fun h62 => ?_, fun h62 => ?_⟩
  · have g62 : (p1 : Int32).toInt = 2 := h62
    refine hB _ _ _ _ _ (fun m63 hm63 => ?_)
    dsimp only [ucgo, ucwp, ucsC, uqC, uoC, ctC, rfd, rsw, KX11_told, KX11_told_0, KX11_told_32, KX11_told_43, KX11_told_54, KX11_told_65, KX11_told_70, lkC, s1C, s2C, dlC, kyC, Nat.beq, rcd, rno, Nat.reduceAdd, Nat.reduceBEq, Nat.reduceDiv, List.drop, List.take, List.reverse, List.reverseAux, Int.toNat, Option.toList, List.append, List.cons_append, List.nil_append, fI_qI, fR_qI, fL_qI, fI_qL, fR_qL, fL_qL, ug210, ug211, ug212, ug305, ug363, ug370]
    intro a64 e64 ob64
    cases e64
    intro a65 e65 ob65
    obtain rfl : P = a65 := Option.some.inj (hP.symm.trans e65)
    split
    case h_2 => trivial
    rename_i b66 rs66 hq66
    obtain ⟨hq1_66, hq2_66⟩ := List.cons.inj hq66
    subst hq2_66
    have rc66 := Sum.inr.inj (Sum.inr.inj hq1_66)
    intro w66 τ66 o66 q66
    obtain ⟨r66, rfl, rfl, -, -, s66, -⟩ := o66
    obtain rfl : lb = b66 := Option.some.inj (fb.symm.trans rc66)
    have sz : (r66 : Int32).toInt = lz.2.length := by rw [← s66]; exact sb
    dsimp only [Option.toList, List.cons_append, List.nil_append, s1C, s2C, dlC, kyC, Nat.beq, lkC, rcd, rno]
    intro r9 e9
    obtain rfl := Sum.inl.inj (Option.some.inj e9)
    exact tl_2 (by omega) sz
  have g62 : ¬ (p1 : Int32).toInt = 2 := h62
  refine ⟨fun h67 => ?_, fun h67 => ?_⟩
  · have g67 : (p1 : Int32).toInt = 3 := h67
    refine hB _ _ _ _ _ (fun m68 hm68 => ?_)
    dsimp only [ucgo, ucwp, ucsC, uqC, uoC, ctC, rfd, rsw, KX11_told, KX11_told_0, KX11_told_32, KX11_told_43, KX11_told_54, KX11_told_65, KX11_told_70, lkC, s1C, s2C, dlC, kyC, Nat.beq, rcd, rno, Nat.reduceAdd, Nat.reduceBEq, Nat.reduceDiv, List.drop, List.take, List.reverse, List.reverseAux, Int.toNat, Option.toList, List.append, List.cons_append, List.nil_append, fI_qI, fR_qI, fL_qI, fI_qL, fR_qL, fL_qL, ug210, ug211, ug212, ug305, ug363, ug370]
    intro a69 e69 ob69
    cases e69
    intro r9 e9
    obtain rfl := Sum.inl.inj (Option.some.inj e9)
    exact tl_3 (by omega) rfl
  have g67 : ¬ (p1 : Int32).toInt = 3 := h67
  refine hB _ _ _ _ _ (fun m70 hm70 => ?_)
  dsimp only [ucgo, ucwp, ucsC, uqC, uoC, ctC, rfd, rsw, KX11_told, KX11_told_0, KX11_told_32, KX11_told_43, KX11_told_54, KX11_told_65, KX11_told_70, lkC, s1C, s2C, dlC, kyC, Nat.beq, rcd, rno, Nat.reduceAdd, Nat.reduceBEq, Nat.reduceDiv, List.drop, List.take, List.reverse, List.reverseAux, Int.toNat, Option.toList, List.append, List.cons_append, List.nil_append, fI_qI, fR_qI, fL_qI, fI_qL, fR_qL, fL_qL, ug210, ug211, ug212, ug305, ug363, ug370]
  have c71 : (Int32.ofInt (-1)).toInt = -1 := by decide
  intro r9 e9
  obtain rfl := Sum.inl.inj (Option.some.inj e9)
  exact (show (Int32.ofInt (-1)).toInt = -1 from by decide).trans (tl_4 (by omega) (by omega) (by omega) (by omega))
abbrev U_told : CqC := fun As σ w τ => ∀ z, Pp_told z As σ → Qp_told z As σ w τ
theorem n_told (l : Launch) : CMetC l 11 207 P_X11_told (fun As σ w τ => Q_X11_told As σ w τ ∧ U_told As σ w τ) := CMetC.of KX11_told (uc2C [(234, P_Jx4a65c_size_8abf5, Q_Jx4a65c_size_8abf5)] []) hX11_told (by decide) (by decide) okX11_told (cc1C (m_Jx4a65c_size_8abf5 l) (by decide) cc0C) lg_X11_told (b_X11_told.and p_told)

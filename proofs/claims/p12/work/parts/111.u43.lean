theorem ug180 (σ : CsC) (a : Nat) : gtC σ a 180 = .inl (fIC σ a 180) := rfl
theorem ug182 (σ : CsC) (a : Nat) : gtC σ a 182 = .inl (fIC σ a 182) := rfl
theorem ug185 (σ : CsC) (a : Nat) : gtC σ a 185 = .inl (fIC σ a 185) := rfl
theorem ug183 (σ : CsC) (a : Nat) : gtC σ a 183 = .inr (.inr (fRC σ a 183)) := rfl
/-- element k of a list that begins with the last one -/
def nE {α : Type} : List α → Nat → Option α
  | [], _ => none
  | x :: l, k => if k = l.length then some x else nE l k
theorem nE_some {α : Type} : ∀ (l : List α) (k : Nat), k < l.length → ∃ v, nE l k = some v := by
  intro l
  induction l with
  | nil => exact fun k h => absurd h (Nat.not_lt_zero _)
  | cons x l ih =>
    intro k h
    rw [List.length_cons] at h
    rw [nE]
    rcases Decidable.em (k = l.length) with c | c
    · exact ⟨x, if_pos c⟩
    · obtain ⟨v, hv⟩ := ih k (by omega)
      exact ⟨v, (if_neg c).trans hv⟩
theorem PtC.atk {σ : CsC} {r : Nat} : ∀ (l : List Int), PtC σ r l → ∀ k v, nE l k = some v → (eIC σ r k).toInt = v := by
  intro l
  induction l with
  | nil => exact fun _ _ _ h => by cases h
  | cons x l ih =>
    rintro ⟨h1, h2⟩ k v h
    have e : (if k = l.length then some x else nE l k) = some v := h
    rcases Decidable.em (k = l.length) with c | c
    · rw [if_pos c] at e
      cases e
      rw [c]
      exact h1
    · rw [if_neg c] at e
      exact ih h2 k v e
theorem MlC.atk {σ : CsC} {a lo hi : Nat} : ∀ (l : List (Int × Int × List Int)), MlC σ a lo hi l → ∀ k m, nE l k = some m → ∃ o r, (elC σ a k = some o ∧ fRC σ o 183 = some r) ∧ r < cnC σ ∧ MoC σ o r m := by
  intro l
  induction l with
  | nil => exact fun _ _ _ h => by cases h
  | cons x l ih =>
    rintro ⟨⟨o, r, h1, h2, -, h3⟩, h4⟩ k v h
    have e : (if k = l.length then some x else nE l k) = some v := h
    rcases Decidable.em (k = l.length) with c | c
    · rw [if_pos c] at e
      cases e
      rw [c]
      exact ⟨o, r, h1, h2.2.1, h3⟩
    · rw [if_neg c] at e
      exact ih h4 k v e
/-- what method answers -/
def mtvY (l : List Int) (k : Nat) : Int := match nE l k with
  | some x => x
  | none => -1
def mtqY (m : Int × Int × List Int) (w : Int) : Int := if w = 0 then m.1 else if w = 1 then m.2.1 else if w = 2 then (m.2.2.length : Int) else if 10 ≤ w ∧ w - 10 < (m.2.2.length : Int) then mtvY m.2.2 (w - 10).toNat else -1
def meqY (l : List (Int × Int × List Int)) (k w : Int) : Int := if k < 0 ∨ (l.length : Int) ≤ k then -1 else match nE l k.toNat with
  | some m => mtqY m w
  | none => -1
theorem mq_b {l : List (Int × Int × List Int)} {k w : Int} (h : k < 0 ∨ (l.length : Int) ≤ k) : (-1 : Int) = meqY l k w := by unfold meqY; rw [if_pos h]
theorem mq_s {l : List (Int × Int × List Int)} {k w r : Int} {m : Int × Int × List Int} (h : ¬ (k < 0 ∨ (l.length : Int) ≤ k)) (e : nE l k.toNat = some m) (q : r = mtqY m w) : r = meqY l k w := by unfold meqY; rw [if_neg h, e]; exact q
theorem mq_0 {m : Int × Int × List Int} {w r : Int} (h : w = 0) (e : r = m.1) : r = mtqY m w := by unfold mtqY; rw [if_pos h]; exact e
theorem mq_1 {m : Int × Int × List Int} {w r : Int} (h : w = 1) (e : r = m.2.1) : r = mtqY m w := by unfold mtqY; rw [if_neg (by omega), if_pos h]; exact e
theorem mq_2 {m : Int × Int × List Int} {w r : Int} (h : w = 2) (e : r = m.2.2.length) : r = mtqY m w := by unfold mtqY; rw [if_neg (by omega), if_neg (by omega), if_pos h]; exact e
theorem mq_3 {m : Int × Int × List Int} {w r : Int} (h : 10 ≤ w ∧ w - 10 < (m.2.2.length : Int)) (e : nE m.2.2 (w - 10).toNat = some r) : r = mtqY m w := by
  unfold mtqY mtvY
  rw [if_neg (by omega), if_neg (by omega), if_neg (by omega), if_pos h, e]
theorem mq_4 {m : Int × Int × List Int} {w : Int} (h0 : ¬ w = 0) (h1 : ¬ w = 1) (h2 : ¬ w = 2) (h3 : ¬ (10 ≤ w ∧ w - 10 < (m.2.2.length : Int))) : (-1 : Int) = mtqY m w := by unfold mtqY; rw [if_neg h0, if_neg h1, if_neg h2, if_neg h3]
/-- get, exactly -/
abbrev U_get : CqC := fun As σ w _ => match As with
  | [.inr (.inr (some p0)), .inl p1] => ∀ r, w = some (.inr (.inr (some r))) → elC σ p0 p1.toNatClampNeg = some r
  | _ => True
theorem n_get (l : Launch) : CMetC l 10 235 P_Jx4a65c_get_915e3 (fun As σ w τ => Q_Jx4a65c_get_915e3 As σ w τ ∧ U_get As σ w τ) := by
  refine CMetC.of KJx4a65c_get_915e3 [(247, P_ck15, Q_ck15), (241, P_eld, Q_eld)] hJx4a65c_get_915e3 (by decide) (by decide) okJx4a65c_get_915e3 (cc1C (m_ck15 l) (by decide) (cc1C (m_eld l) (by decide) cc0C)) ?_ ?_
  · rintro As σ ⟨p0, p1, rfl, -⟩
    exact Nat.le_of_ble_eq_true rfl
  · rintro As σ0 ⟨p0, p1, rfl, H0, t0, h0, h1⟩ hgr G hB hW
    change G 0 [(0, .inr (.inr (some p0))), (1, .inl p1)] [] σ0
    obtain ⟨x, e1, e2, h3, h4⟩ := cg2 H0.1 t0
    have h1' : p1.toInt < x.toInt := by rw [← e2]; exact h1
    obtain ⟨r, hr, ⟨hr1, hr2, hr3⟩, hsz, hel⟩ : ∃ r, fRC σ0 p0 1 = some r ∧ (r < cnC σ0 ∧ tgC σ0 r = 103 ∧ ghC σ0 r = p0 + 1) ∧ ((fIC σ0 p0 2).toInt ≤ alC σ0 r ∧ alC σ0 r ≤ 20000 ∧ 10 ≤ alC σ0 r ∧ (ghC σ0 p0 = 6 → (fIC σ0 p0 2).toInt ≤ 100)) ∧ ∀ j, j < (fIC σ0 p0 2).toNatClampNeg → ∃ b, eRC σ0 r j = some b ∧ ElC σ0 (ghC σ0 p0) b := by
      rcases (H0.1 p0 t0.1).2.1 t0.2.1 with ⟨-, q⟩ | q
      · omega
      · exact q
    refine hB _ _ _ _ (kgoC (is := KJx4a65c_get_915e3_0) rfl (k_iload_n rfl (k_aload_n rfl (k_get kg2 t0 e1 (k_stat (P := P_ck15) (Q := Q_ck15) rfl rfl (Nat.le_of_ble_eq_true rfl) rfl rfl (Nat.le_of_ble_eq_true rfl) ⟨p1, x, rfl, h0, h1'⟩ (fun w σ1 hq => ?_))))))
    obtain ⟨rfl, rfl⟩ := hq
    refine k_st (st' := [.inl p1]) rfl (k_popI (k_aload_n rfl (k_iload_n rfl (k_inv (P := P_eld) (Q := Q_eld) rfl rfl rfl rfl (Nat.le_of_ble_eq_true rfl) (t0.rc (by decide)) ⟨p0, p1, r, rfl, t0.ob (by decide), hr, ⟨hr1, hr2⟩, h0, by omega⟩ (fun w σ1 hq => ?_)))))
    obtain ⟨rfl, hw⟩ := hq
    obtain rfl := hw r hr
    have h9 := cpsC h0
    have h10 : 0 ≤ (fIC σ0 p0 2).toInt := by rw [e2]; exact h3
    have h11 := cpsC h10
    obtain ⟨b, hb1, hb2⟩ := hel p1.toNatClampNeg (by omega)
    refine k_st (st' := [.inr (.inr (some b))]) (by rw [hb1]; rfl) (k_areturn ⟨⟨b, rfl, rfl, hb2⟩, fun r9 q9 => by
      obtain rfl : b = r9 := Option.some.inj (Sum.inr.inj (Sum.inr.inj (Option.some.inj q9)))
      rw [el_of hr]
      exact hb1⟩)
abbrev Pp_method (z : LzY) : CpC := fun As σ => match As with
  | [.inr (.inr (some p0)), .inl p1, .inl p2] => cnC σ < 1000000 ∧ LcP σ p0 z
  | _ => False
abbrev Qp_method (z : LzY) : CqC := fun As σ w τ => match As with
  | [.inr (.inr (some p0)), .inl p1, .inl p2] => ∀ r, w = some (.inl r) → r.toInt = meqY z.1 p1.toInt p2.toInt
  | _ => True
theorem p_method (z : LzY) : PbC KX11_method [(234, P_Jx4a65c_size_8abf5, Q_Jx4a65c_size_8abf5), (235, P_Jx4a65c_get_915e3, Q_Jx4a65c_get_915e3)] [(235, U_get)] (fun As σ => P_X11_method As σ ∧ Pp_method z As σ) (Qp_method z) := by
  rintro As σ ⟨⟨p0, p1, p2, rfl, H0, h0⟩, hx⟩ K hB hW n
  replace hx : cnC σ < 1000000 ∧ LcP σ p0 z := hx
  obtain ⟨hcn, P, la, lb, hP, ⟨⟨fa, fb⟩, -⟩, ⟨sa, sb⟩, -, hM, -⟩ := hx
  have z0 := z0I
  have tp2 := tiC p2
  change K n 0 [(0, .inr (.inr (some p0))), (1, .inl p1), (2, .inl p2)] [] σ
  refine hB _ _ _ _ _ (fun m51 hm51 => ?_)
  dsimp only [ucgo, ucwp, ucsC, uqC, uoC, ctC, rfd, rsw, KX11_method, KX11_method_0, KX11_method_4, KX11_method_18, KX11_method_20, KX11_method_64, KX11_method_69, KX11_method_74, KX11_method_79, KX11_method_85, KX11_method_96, KX11_method_108, KX11_method_109, lkC, s1C, s2C, dlC, kyC, Nat.beq, rcd, rno, Nat.reduceAdd, Nat.reduceBEq, Nat.reduceDiv, List.drop, List.take, List.reverse, List.reverseAux, Int.toNat, Option.toList, List.append, List.cons_append, List.nil_append, fI_qI, fR_qI, fL_qI, fI_qL, fR_qL, fL_qL, ug180, ug182, ug183, ug185, ug211, ug363]
  refine ⟨fun h52 => ?_, fun h52 => ?_⟩
  · have g52 := ltI (x := p1) (y := 0) h52
    refine hB _ _ _ _ _ (fun m53 hm53 => ?_)
    dsimp only [ucgo, ucwp, ucsC, uqC, uoC, ctC, rfd, rsw, KX11_method, KX11_method_0, KX11_method_4, KX11_method_18, KX11_method_20, KX11_method_64, KX11_method_69, KX11_method_74, KX11_method_79, KX11_method_85, KX11_method_96, KX11_method_108, KX11_method_109, lkC, s1C, s2C, dlC, kyC, Nat.beq, rcd, rno, Nat.reduceAdd, Nat.reduceBEq, Nat.reduceDiv, List.drop, List.take, List.reverse, List.reverseAux, Int.toNat, Option.toList, List.append, List.cons_append, List.nil_append, fI_qI, fR_qI, fL_qI, fI_qL, fR_qL, fL_qL, ug180, ug182, ug183, ug185, ug211, ug363]
    have c54 : (Int32.ofInt (-1)).toInt = -1 := by decide
    intro r9 q9
    obtain rfl := Sum.inl.inj (Option.some.inj q9)
    exact (show (Int32.ofInt (-1)).toInt = -1 from by decide).trans (mq_b (by omega))
  · have g52 := nltI (x := p1) (y := 0) h52
    refine hB _ _ _ _ _ (fun m55 hm55 => ?_)
    dsimp only [ucgo, ucwp, ucsC, uqC, uoC, ctC, rfd, rsw, KX11_method, KX11_method_0, KX11_method_4, KX11_method_18, KX11_method_20, KX11_method_64, KX11_method_69, KX11_method_74, KX11_method_79, KX11_method_85, KX11_method_96, KX11_method_108, KX11_method_109, lkC, s1C, s2C, dlC, kyC, Nat.beq, rcd, rno, Nat.reduceAdd, Nat.reduceBEq, Nat.reduceDiv, List.drop, List.take, List.reverse, List.reverseAux, Int.toNat, Option.toList, List.append, List.cons_append, List.nil_append, fI_qI, fR_qI, fL_qI, fI_qL, fR_qL, fL_qL, ug180, ug182, ug183, ug185, ug211, ug363]
    intro a56 e56 ob56
    cases e56
    intro a57 e57 ob57
    obtain rfl : P = a57 := Option.some.inj (hP.symm.trans e57)
    split
    case h_2 => trivial
    rename_i b58 rs58 hq58
    obtain ⟨hq1_58, hq2_58⟩ := List.cons.inj hq58
    subst hq2_58
    have rc58 := Sum.inr.inj (Sum.inr.inj hq1_58)
    intro w58 τ58 o58 q58
    obtain ⟨r58, rfl, rfl, -, -, s58, -⟩ := o58
    obtain rfl : la = b58 := Option.some.inj (fa.symm.trans rc58)
    have sz : (r58 : Int32).toInt = z.1.length := by rw [← s58]; exact sa
    dsimp only [Option.toList, List.cons_append, List.nil_append, s1C, s2C, dlC, kyC, Nat.beq, lkC, rcd, rno]
    refine ⟨fun h59 => ?_, fun h59 => ?_⟩
    · have g59 := ltI (x := p1) (y := r58) h59
      refine hB _ _ _ _ _ (fun m60 hm60 => ?_)
      dsimp only [ucgo, ucwp, ucsC, uqC, uoC, ctC, rfd, rsw, KX11_method, KX11_method_0, KX11_method_4, KX11_method_18, KX11_method_20, KX11_method_64, KX11_method_69, KX11_method_74, KX11_method_79, KX11_method_85, KX11_method_96, KX11_method_108, KX11_method_109, lkC, s1C, s2C, dlC, kyC, Nat.beq, rcd, rno, Nat.reduceAdd, Nat.reduceBEq, Nat.reduceDiv, List.drop, List.take, List.reverse, List.reverseAux, Int.toNat, Option.toList, List.append, List.cons_append, List.nil_append, fI_qI, fR_qI, fL_qI, fI_qL, fR_qL, fL_qL, ug180, ug182, ug183, ug185, ug211, ug363]
      intro a61 e61 ob61
      cases e61
      intro a62 e62 ob62
      obtain rfl : P = a62 := Option.some.inj (hP.symm.trans e62)
      split
      case h_2 => trivial
      rename_i b63 rs63 hq63
      obtain ⟨hq1_63, hq2_63⟩ := List.cons.inj hq63
      subst hq2_63
      have rc63 := Sum.inr.inj (Sum.inr.inj hq1_63)
      intro w63 τ63 o63 q63
      obtain rfl : la = b63 := Option.some.inj (fa.symm.trans rc63)
      obtain ⟨r63, rfl, rfl, -⟩ := o63
      have el := q63 r63 rfl
      have nk : ¬ (p1.toInt < 0 ∨ (z.1.length : Int) ≤ p1.toInt) := by omega
      obtain ⟨v, hv⟩ := nE_some z.1 p1.toInt.toNat (by omega)
      obtain ⟨o9, rr, ⟨e9, er⟩, lr, ⟨hv0, hv1, hv2⟩, hv3⟩ := MlC.atk z.1 hM _ v hv
      obtain rfl : o9 = r63 := Option.some.inj (e9.symm.trans el)
      dsimp only [Option.toList, List.cons_append, List.nil_append, s1C, s2C, dlC, kyC, Nat.beq, lkC, rcd, rno]
      intro oc64
      refine ⟨fun h65 => ?_, fun h65 => ?_⟩
      · have g65 : (p2 : Int32).toInt = 0 := h65
        refine hB _ _ _ _ _ (fun m66 hm66 => ?_)
        dsimp only [ucgo, ucwp, ucsC, uqC, uoC, ctC, rfd, rsw, KX11_method, KX11_method_0, KX11_method_4, KX11_method_18, KX11_method_20, KX11_method_64, KX11_method_69, KX11_method_74, KX11_method_79, KX11_method_85, KX11_method_96, KX11_method_108, KX11_method_109, lkC, s1C, s2C, dlC, kyC, Nat.beq, rcd, rno, Nat.reduceAdd, Nat.reduceBEq, Nat.reduceDiv, List.drop, List.take, List.reverse, List.reverseAux, Int.toNat, Option.toList, List.append, List.cons_append, List.nil_append, fI_qI, fR_qI, fL_qI, fI_qL, fR_qL, fL_qL, ug180, ug182, ug183, ug185, ug211, ug363]
        intro a67 e67 ob67
        cases e67
        intro r9 q9
        obtain rfl := Sum.inl.inj (Option.some.inj q9)
        exact mq_s nk hv (mq_0 (by omega) hv0)
      have g65 : ¬ (p2 : Int32).toInt = 0 := h65
      refine ⟨fun h68 => ?_, fun h68 => ?_⟩
      · have g68 : (p2 : Int32).toInt = 1 := h68
        refine hB _ _ _ _ _ (fun m69 hm69 => ?_)
        dsimp only [ucgo, ucwp, ucsC, uqC, uoC, ctC, rfd, rsw, KX11_method, KX11_method_0, KX11_method_4, KX11_method_18, KX11_method_20, KX11_method_64, KX11_method_69, KX11_method_74, KX11_method_79, KX11_method_85, KX11_method_96, KX11_method_108, KX11_method_109, lkC, s1C, s2C, dlC, kyC, Nat.beq, rcd, rno, Nat.reduceAdd, Nat.reduceBEq, Nat.reduceDiv, List.drop, List.take, List.reverse, List.reverseAux, Int.toNat, Option.toList, List.append, List.cons_append, List.nil_append, fI_qI, fR_qI, fL_qI, fI_qL, fR_qL, fL_qL, ug180, ug182, ug183, ug185, ug211, ug363]
        intro a70 e70 ob70
        cases e70
        intro r9 q9
        obtain rfl := Sum.inl.inj (Option.some.inj q9)
        exact mq_s nk hv (mq_1 (by omega) hv1)
      have g68 : ¬ (p2 : Int32).toInt = 1 := h68
      refine ⟨fun h71 => ?_, fun h71 => ?_⟩
      · have g71 : (p2 : Int32).toInt = 2 := h71
        refine hB _ _ _ _ _ (fun m72 hm72 => ?_)
        dsimp only [ucgo, ucwp, ucsC, uqC, uoC, ctC, rfd, rsw, KX11_method, KX11_method_0, KX11_method_4, KX11_method_18, KX11_method_20, KX11_method_64, KX11_method_69, KX11_method_74, KX11_method_79, KX11_method_85, KX11_method_96, KX11_method_108, KX11_method_109, lkC, s1C, s2C, dlC, kyC, Nat.beq, rcd, rno, Nat.reduceAdd, Nat.reduceBEq, Nat.reduceDiv, List.drop, List.take, List.reverse, List.reverseAux, Int.toNat, Option.toList, List.append, List.cons_append, List.nil_append, fI_qI, fR_qI, fL_qI, fI_qL, fR_qL, fL_qL, ug180, ug182, ug183, ug185, ug211, ug363]
        intro a73 e73 ob73
        cases e73
        intro r9 q9
        obtain rfl := Sum.inl.inj (Option.some.inj q9)
        exact mq_s nk hv (mq_2 (by omega) hv2)
      have g71 : ¬ (p2 : Int32).toInt = 2 := h71
      refine hB _ _ _ _ _ (fun m74 hm74 => ?_)
      dsimp only [ucgo, ucwp, ucsC, uqC, uoC, ctC, rfd, rsw, KX11_method, KX11_method_0, KX11_method_4, KX11_method_18, KX11_method_20, KX11_method_64, KX11_method_69, KX11_method_74, KX11_method_79, KX11_method_85, KX11_method_96, KX11_method_108, KX11_method_109, lkC, s1C, s2C, dlC, kyC, Nat.beq, rcd, rno, Nat.reduceAdd, Nat.reduceBEq, Nat.reduceDiv, List.drop, List.take, List.reverse, List.reverseAux, Int.toNat, Option.toList, List.append, List.cons_append, List.nil_append, fI_qI, fR_qI, fL_qI, fI_qL, fR_qL, fL_qL, ug180, ug182, ug183, ug185, ug211, ug363]
      have c75 : (Int32.ofInt 10).toInt = 10 := by decide
      refine ⟨fun h76 => ?_, fun h76 => ?_⟩
      · have g76 := ltI (x := p2) (y := (Int32.ofInt 10)) h76
        refine hB _ _ _ _ _ (fun m77 hm77 => ?_)
        dsimp only [ucgo, ucwp, ucsC, uqC, uoC, ctC, rfd, rsw, KX11_method, KX11_method_0, KX11_method_4, KX11_method_18, KX11_method_20, KX11_method_64, KX11_method_69, KX11_method_74, KX11_method_79, KX11_method_85, KX11_method_96, KX11_method_108, KX11_method_109, lkC, s1C, s2C, dlC, kyC, Nat.beq, rcd, rno, Nat.reduceAdd, Nat.reduceBEq, Nat.reduceDiv, List.drop, List.take, List.reverse, List.reverseAux, Int.toNat, Option.toList, List.append, List.cons_append, List.nil_append, fI_qI, fR_qI, fL_qI, fI_qL, fR_qL, fL_qL, ug180, ug182, ug183, ug185, ug211, ug363]
        have c78 : (Int32.ofInt (-1)).toInt = -1 := by decide
        refine hB _ _ _ _ _ (fun m79 hm79 => ?_)
        dsimp only [ucgo, ucwp, ucsC, uqC, uoC, ctC, rfd, rsw, KX11_method, KX11_method_0, KX11_method_4, KX11_method_18, KX11_method_20, KX11_method_64, KX11_method_69, KX11_method_74, KX11_method_79, KX11_method_85, KX11_method_96, KX11_method_108, KX11_method_109, lkC, s1C, s2C, dlC, kyC, Nat.beq, rcd, rno, Nat.reduceAdd, Nat.reduceBEq, Nat.reduceDiv, List.drop, List.take, List.reverse, List.reverseAux, Int.toNat, Option.toList, List.append, List.cons_append, List.nil_append, fI_qI, fR_qI, fL_qI, fI_qL, fR_qL, fL_qL, ug180, ug182, ug183, ug185, ug211, ug363]
        intro r9 q9
        obtain rfl := Sum.inl.inj (Option.some.inj q9)
        exact (show (Int32.ofInt (-1)).toInt = -1 from by decide).trans (mq_s nk hv (mq_4 (by omega) (by omega) (by omega) (by omega)))
      · have g76 := nltI (x := p2) (y := (Int32.ofInt 10)) h76
        refine hB _ _ _ _ _ (fun m80 hm80 => ?_)
        dsimp only [ucgo, ucwp, ucsC, uqC, uoC, ctC, rfd, rsw, KX11_method, KX11_method_0, KX11_method_4, KX11_method_18, KX11_method_20, KX11_method_64, KX11_method_69, KX11_method_74, KX11_method_79, KX11_method_85, KX11_method_96, KX11_method_108, KX11_method_109, lkC, s1C, s2C, dlC, kyC, Nat.beq, rcd, rno, Nat.reduceAdd, Nat.reduceBEq, Nat.reduceDiv, List.drop, List.take, List.reverse, List.reverseAux, Int.toNat, Option.toList, List.append, List.cons_append, List.nil_append, fI_qI, fR_qI, fL_qI, fI_qL, fR_qL, fL_qL, ug180, ug182, ug183, ug185, ug211, ug363]
        have c81 : (Int32.ofInt 10).toInt = 10 := by decide
        have a82 : (p2 - (Int32.ofInt 10)).toInt = p2.toInt - 10 := subC (by omega) (by omega) (by omega)
        intro a83 e83 ob83
        cases e83
        refine ⟨fun h84 => ?_, fun h84 => ?_⟩
        · have g84 := leI (x := (fIC σ o9 185)) (y := (p2 - (Int32.ofInt 10))) h84
          refine hB _ _ _ _ _ (fun m85 hm85 => ?_)
          dsimp only [ucgo, ucwp, ucsC, uqC, uoC, ctC, rfd, rsw, KX11_method, KX11_method_0, KX11_method_4, KX11_method_18, KX11_method_20, KX11_method_64, KX11_method_69, KX11_method_74, KX11_method_79, KX11_method_85, KX11_method_96, KX11_method_108, KX11_method_109, lkC, s1C, s2C, dlC, kyC, Nat.beq, rcd, rno, Nat.reduceAdd, Nat.reduceBEq, Nat.reduceDiv, List.drop, List.take, List.reverse, List.reverseAux, Int.toNat, Option.toList, List.append, List.cons_append, List.nil_append, fI_qI, fR_qI, fL_qI, fI_qL, fR_qL, fL_qL, ug180, ug182, ug183, ug185, ug211, ug363]
          have c86 : (Int32.ofInt (-1)).toInt = -1 := by decide
          refine hB _ _ _ _ _ (fun m87 hm87 => ?_)
          dsimp only [ucgo, ucwp, ucsC, uqC, uoC, ctC, rfd, rsw, KX11_method, KX11_method_0, KX11_method_4, KX11_method_18, KX11_method_20, KX11_method_64, KX11_method_69, KX11_method_74, KX11_method_79, KX11_method_85, KX11_method_96, KX11_method_108, KX11_method_109, lkC, s1C, s2C, dlC, kyC, Nat.beq, rcd, rno, Nat.reduceAdd, Nat.reduceBEq, Nat.reduceDiv, List.drop, List.take, List.reverse, List.reverseAux, Int.toNat, Option.toList, List.append, List.cons_append, List.nil_append, fI_qI, fR_qI, fL_qI, fI_qL, fR_qL, fL_qL, ug180, ug182, ug183, ug185, ug211, ug363]
          intro r9 q9
          obtain rfl := Sum.inl.inj (Option.some.inj q9)
          exact (show (Int32.ofInt (-1)).toInt = -1 from by decide).trans (mq_s nk hv (mq_4 (by omega) (by omega) (by omega) (by omega)))
        · have g84 := nleI (x := (fIC σ o9 185)) (y := (p2 - (Int32.ofInt 10))) h84
          refine hB _ _ _ _ _ (fun m88 hm88 => ?_)
          dsimp only [ucgo, ucwp, ucsC, uqC, uoC, ctC, rfd, rsw, KX11_method, KX11_method_0, KX11_method_4, KX11_method_18, KX11_method_20, KX11_method_64, KX11_method_69, KX11_method_74, KX11_method_79, KX11_method_85, KX11_method_96, KX11_method_108, KX11_method_109, lkC, s1C, s2C, dlC, kyC, Nat.beq, rcd, rno, Nat.reduceAdd, Nat.reduceBEq, Nat.reduceDiv, List.drop, List.take, List.reverse, List.reverseAux, Int.toNat, Option.toList, List.append, List.cons_append, List.nil_append, fI_qI, fR_qI, fL_qI, fI_qL, fR_qL, fL_qL, ug180, ug182, ug183, ug185, ug211, ug363]
          intro a89 e89 ob89
          cases e89
          have c90 : (Int32.ofInt 10).toInt = 10 := by decide
          have a91 : (p2 - (Int32.ofInt 10)).toInt = p2.toInt - 10 := subC (by omega) (by omega) (by omega)
          intro a92 e92
          obtain rfl : rr = a92 := Option.some.inj (er.symm.trans e92)
          refine ⟨fun t92 v92 => ?_, fun y92 => absurd y92 (by omega), fun y92 => absurd y92 (by omega)⟩
          refine hB _ _ _ _ _ (fun m93 hm93 => ?_)
          dsimp only [ucgo, ucwp, ucsC, uqC, uoC, ctC, rfd, rsw, KX11_method, KX11_method_0, KX11_method_4, KX11_method_18, KX11_method_20, KX11_method_64, KX11_method_69, KX11_method_74, KX11_method_79, KX11_method_85, KX11_method_96, KX11_method_108, KX11_method_109, lkC, s1C, s2C, dlC, kyC, Nat.beq, rcd, rno, Nat.reduceAdd, Nat.reduceBEq, Nat.reduceDiv, List.drop, List.take, List.reverse, List.reverseAux, Int.toNat, Option.toList, List.append, List.cons_append, List.nil_append, fI_qI, fR_qI, fL_qI, fI_qL, fR_qL, fL_qL, ug180, ug182, ug183, ug185, ug211, ug363]
          intro r9 q9
          obtain rfl := Sum.inl.inj (Option.some.inj q9)
          obtain ⟨x, hx⟩ := nE_some v.2.2 (p2.toInt - 10).toNat (by omega)
          have e1 := PtC.atk v.2.2 hv3 _ x hx
          have e2 : (p2 - (Int32.ofInt 10)).toNatClampNeg = (p2.toInt - 10).toNat := by show (p2 - (Int32.ofInt 10)).toInt.toNat = _; omega
          exact mq_s nk hv (mq_3 (by omega) (by rw [hx, ← e1, e2]))
    · have g59 := nltI (x := p1) (y := r58) h59
      refine hB _ _ _ _ _ (fun m94 hm94 => ?_)
      dsimp only [ucgo, ucwp, ucsC, uqC, uoC, ctC, rfd, rsw, KX11_method, KX11_method_0, KX11_method_4, KX11_method_18, KX11_method_20, KX11_method_64, KX11_method_69, KX11_method_74, KX11_method_79, KX11_method_85, KX11_method_96, KX11_method_108, KX11_method_109, lkC, s1C, s2C, dlC, kyC, Nat.beq, rcd, rno, Nat.reduceAdd, Nat.reduceBEq, Nat.reduceDiv, List.drop, List.take, List.reverse, List.reverseAux, Int.toNat, Option.toList, List.append, List.cons_append, List.nil_append, fI_qI, fR_qI, fL_qI, fI_qL, fR_qL, fL_qL, ug180, ug182, ug183, ug185, ug211, ug363]
      have c95 : (Int32.ofInt (-1)).toInt = -1 := by decide
      intro r9 q9
      obtain rfl := Sum.inl.inj (Option.some.inj q9)
      exact (show (Int32.ofInt (-1)).toInt = -1 from by decide).trans (mq_b (by omega))
abbrev U_method : CqC := fun As σ w τ => ∀ z, Pp_method z As σ → Qp_method z As σ w τ
theorem n_method (l : Launch) : CMetC l 11 209 P_X11_method (fun As σ w τ => Q_X11_method As σ w τ ∧ U_method As σ w τ) := CMetC.of KX11_method (uc2C [(234, P_Jx4a65c_size_8abf5, Q_Jx4a65c_size_8abf5), (235, P_Jx4a65c_get_915e3, Q_Jx4a65c_get_915e3)] [(235, U_get)]) hX11_method (by decide) (by decide) okX11_method (cc1C (m_Jx4a65c_size_8abf5 l) (by decide) (cc1C (n_get l) (by decide) cc0C)) lg_X11_method (b_X11_method.and p_method)

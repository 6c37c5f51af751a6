theorem ug211 (σ : CsC) (a : Nat) : gtC σ a 211 = .inr (.inr (fRC σ a 211)) := rfl
theorem ug212 (σ : CsC) (a : Nat) : gtC σ a 212 = .inr (.inr (fRC σ a 212)) := rfl
theorem ug213 (σ : CsC) (a : Nat) : gtC σ a 213 = .inr (.inr (fRC σ a 213)) := rfl
theorem ug214 (σ : CsC) (a : Nat) : gtC σ a 214 = .inr (.inr (fRC σ a 214)) := rfl
theorem WeC.eR {σ τ : CsC} (h : WeC σ τ) : eRC τ = eRC σ := by unfold eRC; rw [h.2.1]
theorem rz {σ τ : CsC} {p0 : Nat} (e : ExC [0, 2] σ τ) (l : p0 < cnC σ) (k : Nat) : [0, 2].elem k = false → fRC τ p0 k = fRC σ p0 k := fun m => ((e.2.2 p0 l).2.2.2 k m).2
abbrev Pp_clear (_y : Unit) : CpC := fun _ _ => True
abbrev Qp_clear (_y : Unit) : CqC := fun As σ w τ => match As with
  | [.inr (.inr (some p0))] => ∀ a, (∀ k, k = 211 ∨ k = 212 ∨ k = 213 ∨ k = 214 → ¬ fRC σ p0 k = some a) → fIC τ a 2 = fIC σ a 2 ∧ (a < cnC σ → tgC σ a = 0 → ∀ j : Nat, (j : Int) < (fIC σ a 2).toInt → elC τ a j = elC σ a j)
  | _ => True
theorem p_clear (y : Unit) : PbC KX6_clear [(237, P_Jx4a65c_clear_da8c8, Q_Jx4a65c_clear_da8c8)] [] (fun As σ => P_X6_clear As σ ∧ Pp_clear y As σ) (Qp_clear y) := by
  rintro As σ ⟨⟨p0, rfl, H0, h0⟩, -⟩ K hB hW n
  have l0 := h0.1
  have r0 : ∀ k, [0, 2].elem k = false → fRC σ p0 k = fRC σ p0 k := fun _ _ => rfl
  have f0 : ∀ a, (∀ k, k = 211 ∨ k = 212 ∨ k = 213 ∨ k = 214 → ¬ fRC σ p0 k = some a) → fIC σ a 2 = fIC σ a 2 ∧ (a < cnC σ → tgC σ a = 0 → (a < cnC σ ∧ tgC σ a = 0) ∧ ∀ j : Nat, (j : Int) < (fIC σ a 2).toInt → elC σ a j = elC σ a j) := fun _ _ => ⟨rfl, fun h1 h2 => ⟨⟨h1, h2⟩, fun _ _ => rfl⟩⟩
  change K n 0 [(0, .inr (.inr (some p0)))] [] σ
  refine hB _ _ _ _ _ (fun m101 hm101 => ?_)
  dsimp only [ucgo, ucwp, ucsC, uqC, uoC, ctC, rfd, KX6_clear, KX6_clear_0, lkC, s1C, s2C, dlC, kyC, Nat.beq, rcd, rno, Nat.reduceAdd, Nat.reduceBEq, Nat.reduceDiv, List.drop, List.take, List.reverse, List.reverseAux, Int.toNat, Option.toList, List.append, List.cons_append, List.nil_append, fI_qI, fR_qI, fL_qI, fI_qL, fR_qL, fL_qL, ug211, ug212, ug213, ug214]
  intro a102 e102 ob102
  cases e102
  split
  case h_2 => trivial
  rename_i b103 rs103 hq103
  obtain ⟨hq1_103, hq2_103⟩ := List.cons.inj hq103
  subst hq2_103
  have rc103 := Sum.inr.inj (Sum.inr.inj hq1_103)
  intro w103 τ103 o103 q103
  obtain ⟨rfl, -, ex103, -, g103, gv103⟩ := o103
  have l1 : p0 < cnC τ103 := Nat.lt_of_lt_of_le l0 ex103.1
  have r1 : ∀ k, [0, 2].elem k = false → fRC τ103 p0 k = fRC σ p0 k := fun k m => (rz ex103 l0 k m).trans (r0 k m)
  have f1 : ∀ a, (∀ k, k = 211 ∨ k = 212 ∨ k = 213 ∨ k = 214 → ¬ fRC σ p0 k = some a) → fIC τ103 a 2 = fIC σ a 2 ∧ (a < cnC σ → tgC σ a = 0 → (a < cnC τ103 ∧ tgC τ103 a = 0) ∧ ∀ j : Nat, (j : Int) < (fIC σ a 2).toInt → elC τ103 a j = elC σ a j) := fun a ha => by
    have hne : a ≠ b103 := fun q => ha 211 (by decide) (by rw [← r0 211 rfl, q]; exact rc103)
    have p := f0 a ha
    refine ⟨(g103 a hne).trans p.1, fun h1 h2 => ?_⟩
    have p2 := p.2 h1 h2
    exact ⟨⟨Nat.lt_of_lt_of_le p2.1.1 ex103.1, (ex103.2.2 a p2.1.1).1.1.trans p2.1.2⟩, fun j hj => (gv103 a p2.1.1 p2.1.2 hne j (by rw [p.1]; exact hj)).trans (p2.2 j hj)⟩
  dsimp only [Option.toList, List.cons_append, List.nil_append, s1C, s2C, dlC, kyC, Nat.beq, lkC, rcd, rno]
  intro a104 e104 ob104
  cases e104
  split
  case h_2 => trivial
  rename_i b105 rs105 hq105
  obtain ⟨hq1_105, hq2_105⟩ := List.cons.inj hq105
  subst hq2_105
  have rc105 := Sum.inr.inj (Sum.inr.inj hq1_105)
  intro w105 τ105 o105 q105
  obtain ⟨rfl, -, ex105, -, g105, gv105⟩ := o105
  have l2 : p0 < cnC τ105 := Nat.lt_of_lt_of_le l1 ex105.1
  have r2 : ∀ k, [0, 2].elem k = false → fRC τ105 p0 k = fRC σ p0 k := fun k m => (rz ex105 l1 k m).trans (r1 k m)
  have f2 : ∀ a, (∀ k, k = 211 ∨ k = 212 ∨ k = 213 ∨ k = 214 → ¬ fRC σ p0 k = some a) → fIC τ105 a 2 = fIC σ a 2 ∧ (a < cnC σ → tgC σ a = 0 → (a < cnC τ105 ∧ tgC τ105 a = 0) ∧ ∀ j : Nat, (j : Int) < (fIC σ a 2).toInt → elC τ105 a j = elC σ a j) := fun a ha => by
    have hne : a ≠ b105 := fun q => ha 212 (by decide) (by rw [← r1 212 rfl, q]; exact rc105)
    have p := f1 a ha
    refine ⟨(g105 a hne).trans p.1, fun h1 h2 => ?_⟩
    have p2 := p.2 h1 h2
    exact ⟨⟨Nat.lt_of_lt_of_le p2.1.1 ex105.1, (ex105.2.2 a p2.1.1).1.1.trans p2.1.2⟩, fun j hj => (gv105 a p2.1.1 p2.1.2 hne j (by rw [p.1]; exact hj)).trans (p2.2 j hj)⟩
  dsimp only [Option.toList, List.cons_append, List.nil_append, s1C, s2C, dlC, kyC, Nat.beq, lkC, rcd, rno]
  intro a106 e106 ob106
  cases e106
  split
  case h_2 => trivial
  rename_i b107 rs107 hq107
  obtain ⟨hq1_107, hq2_107⟩ := List.cons.inj hq107
  subst hq2_107
  have rc107 := Sum.inr.inj (Sum.inr.inj hq1_107)
  intro w107 τ107 o107 q107
  obtain ⟨rfl, -, ex107, -, g107, gv107⟩ := o107
  have l3 : p0 < cnC τ107 := Nat.lt_of_lt_of_le l2 ex107.1
  have r3 : ∀ k, [0, 2].elem k = false → fRC τ107 p0 k = fRC σ p0 k := fun k m => (rz ex107 l2 k m).trans (r2 k m)
  have f3 : ∀ a, (∀ k, k = 211 ∨ k = 212 ∨ k = 213 ∨ k = 214 → ¬ fRC σ p0 k = some a) → fIC τ107 a 2 = fIC σ a 2 ∧ (a < cnC σ → tgC σ a = 0 → (a < cnC τ107 ∧ tgC τ107 a = 0) ∧ ∀ j : Nat, (j : Int) < (fIC σ a 2).toInt → elC τ107 a j = elC σ a j) := fun a ha => by
    have hne : a ≠ b107 := fun q => ha 213 (by decide) (by rw [← r2 213 rfl, q]; exact rc107)
    have p := f2 a ha
    refine ⟨(g107 a hne).trans p.1, fun h1 h2 => ?_⟩
    have p2 := p.2 h1 h2
    exact ⟨⟨Nat.lt_of_lt_of_le p2.1.1 ex107.1, (ex107.2.2 a p2.1.1).1.1.trans p2.1.2⟩, fun j hj => (gv107 a p2.1.1 p2.1.2 hne j (by rw [p.1]; exact hj)).trans (p2.2 j hj)⟩
  dsimp only [Option.toList, List.cons_append, List.nil_append, s1C, s2C, dlC, kyC, Nat.beq, lkC, rcd, rno]
  intro a108 e108 ob108
  cases e108
  split
  case h_2 => trivial
  rename_i b109 rs109 hq109
  obtain ⟨hq1_109, hq2_109⟩ := List.cons.inj hq109
  subst hq2_109
  have rc109 := Sum.inr.inj (Sum.inr.inj hq1_109)
  intro w109 τ109 o109 q109
  obtain ⟨rfl, -, ex109, -, g109, gv109⟩ := o109
  have l4 : p0 < cnC τ109 := Nat.lt_of_lt_of_le l3 ex109.1
  have r4 : ∀ k, [0, 2].elem k = false → fRC τ109 p0 k = fRC σ p0 k := fun k m => (rz ex109 l3 k m).trans (r3 k m)
  have f4 : ∀ a, (∀ k, k = 211 ∨ k = 212 ∨ k = 213 ∨ k = 214 → ¬ fRC σ p0 k = some a) → fIC τ109 a 2 = fIC σ a 2 ∧ (a < cnC σ → tgC σ a = 0 → (a < cnC τ109 ∧ tgC τ109 a = 0) ∧ ∀ j : Nat, (j : Int) < (fIC σ a 2).toInt → elC τ109 a j = elC σ a j) := fun a ha => by
    have hne : a ≠ b109 := fun q => ha 214 (by decide) (by rw [← r3 214 rfl, q]; exact rc109)
    have p := f3 a ha
    refine ⟨(g109 a hne).trans p.1, fun h1 h2 => ?_⟩
    have p2 := p.2 h1 h2
    exact ⟨⟨Nat.lt_of_lt_of_le p2.1.1 ex109.1, (ex109.2.2 a p2.1.1).1.1.trans p2.1.2⟩, fun j hj => (gv109 a p2.1.1 p2.1.2 hne j (by rw [p.1]; exact hj)).trans (p2.2 j hj)⟩
  dsimp only [Option.toList, List.cons_append, List.nil_append, s1C, s2C, dlC, kyC, Nat.beq, lkC, rcd, rno]
  have c110 : (Int32.ofInt 0).toInt = 0 := by decide
  intro a111 e111 ob111 fk111
  cases e111
  clear fk111
  have c112 : (Int32.ofInt 0).toInt = 0 := by decide
  intro a113 e113 ob113 fk113
  cases e113
  clear fk113
  intro τ9 we9 a ha
  refine ⟨?_, fun h1 h2 j hj => ?_⟩
  · rw [we9.fI]
    show u2C (u2C (fIC τ109) p0 217 (Int32.ofInt 0)) p0 218 (Int32.ofInt 0) a 2 = _
    rw [u2C_nk (by decide), u2C_nk (by decide)]
    exact (f4 a ha).1
  · have q := ((f4 a ha).2 h1 h2).2 j hj
    unfold elC at q ⊢
    rw [we9.fR, we9.eR]
    exact q
abbrev U_clear : CqC := fun As σ w τ => ∀ y, Pp_clear y As σ → Qp_clear y As σ w τ
theorem n_clear (l : Launch) : CMetC l 11 117 P_X6_clear (fun As σ w τ => Q_X6_clear As σ w τ ∧ U_clear As σ w τ) := CMetC.of KX6_clear (uc2C [(237, P_Jx4a65c_clear_da8c8, Q_Jx4a65c_clear_da8c8)] []) hX6_clear (by decide) (by decide) okX6_clear (cc1C (m_Jx4a65c_clear_da8c8 l) (by decide) cc0C) lg_X6_clear (b_X6_clear.and p_clear)

theorem bp_b (x : Int32) : x.toInt8.toInt32 &&& 255 = x &&& 255 := by
  apply Int32.toBitVec_inj.mp
  rw [Int32.toBitVec_and, Int32.toBitVec_and, Int8.toBitVec_toInt32, Int32.toBitVec_toInt8]
  apply BitVec.eq_of_getLsbD_eq
  intro i hi
  rw [BitVec.getLsbD_and, BitVec.getLsbD_and]
  have hm : ∀ i < 32, 8 ≤ i → (255 : Int32).toBitVec.getLsbD i = false := by decide
  rcases Nat.lt_or_ge i 8 with z | z
  · rw [BitVec.getLsbD_signExtend, BitVec.getLsbD_signExtend, if_pos z, if_pos hi]
    simp only [z, hi, decide_true, Bool.true_and]
  · rw [hm i hi z]; simp
theorem ug360 (σ : CsC) (a : Nat) : gtC σ a 360 = .inr (.inr (fRC σ a 360)) := rfl
theorem ug369 (σ : CsC) (a : Nat) : gtC σ a 369 = .inl (fIC σ a 369) := rfl
/-- the j-th byte of four -/
def byV (v : Int32) (j : Nat) : Int32 := (v >>> ((Int32.ofInt (24 - 8 * (j : Int))) &&& 31)) &&& 255
/-- j bytes are laid behind L -/
def apk (f : Nat → Int32) (L : Nat) (v : Int32) : Nat → Nat → Int32
  | 0 => f
  | j + 1 => fun i => if i = L + j then byV v j else apk f L v j i
theorem apk_eq {f g : Nat → Int32} {L : Nat} {v : Int32} (h : ∀ i, i < L → f i = g i) : ∀ j i, i < L + j → apk f L v j i = apk g L v j i := by
  intro j
  induction j with
  | zero => exact h
  | succ j ih =>
    intro i hi
    show (if i = L + j then byV v j else apk f L v j i) = (if i = L + j then byV v j else apk g L v j i)
    split
    · rfl
    · exact ih i (by omega)
theorem ap_j {s : Int} {j : Nat} (h : s = 24 - 8 * (j : Int)) (g : (0 : Int32).toInt ≤ s) (hj : j ≤ 4) : j + 1 ≤ 4 := by
  have z : (0 : Int32).toInt = 0 := rfl
  omega
theorem ap_s {s t : Int} {j : Nat} (h : s = 24 - 8 * (j : Int)) (e : t = s + (-8)) : t = 24 - 8 * ((j + 1 : Nat) : Int) := by omega
theorem ap_l {s t : Int} {j : Nat} {L : Int} (h : s = L + j) (e : t = s + 1) : t = L + ((j + 1 : Nat) : Int) := by omega
theorem ap_x {s L : Int} {j : Nat} (h : s = L + j) (h0 : 0 ≤ L) : s.toNat = L.toNat + j := by omega
theorem ap_4 {s : Int} {j : Nat} (h : s = 24 - 8 * (j : Int)) (g : s < (0 : Int32).toInt) (hj : j ≤ 4) : j = 4 := by
  have z : (0 : Int32).toInt = 0 := rfl
  omega
theorem ap_d {l L : Int} {s : Int} {j : Nat} (h : s = 24 - 8 * (j : Int)) (g : (0 : Int32).toInt ≤ s) (hl : l = L + j) (h1 : L + 4 ≤ 2500) (h2 : (Int32.ofInt 2500).toInt ≤ l) : False := by
  have z : (0 : Int32).toInt = 0 := rfl
  have z2 : (Int32.ofInt 2500).toInt = 2500 := by decide
  omega
abbrev Pp_append (f : Nat → Int32) : CpC := fun As σ => match As with
  | [.inr (.inr (some p0)), .inl p1] => (0 ≤ (fIC σ p0 369).toInt ∧ (fIC σ p0 369).toInt + 4 ≤ 2500) ∧ ∀ c, fRC σ p0 360 = some c → ∀ i, eIC σ c i &&& 255 = f i
  | _ => False
abbrev Qp_append (f : Nat → Int32) : CqC := fun As σ w τ => match As with
  | [.inr (.inr (some p0)), .inl p1] => fRC τ p0 360 = fRC σ p0 360 ∧ (fIC τ p0 369).toInt = (fIC σ p0 369).toInt + 4 ∧ ∀ c, fRC τ p0 360 = some c → ∀ i, eIC τ c i &&& 255 = apk f (fIC σ p0 369).toInt.toNat p1 4 i
  | _ => True
theorem p_append (f : Nat → Int32) : PbC KX11_append [] [] (fun As σ => P_X11_append As σ ∧ Pp_append f As σ) (Qp_append f) := by
  rintro As σ ⟨⟨p0, p1, rfl, H0, h0⟩, hx⟩ K hB hW n
  replace hx : (0 ≤ (fIC σ p0 369).toInt ∧ (fIC σ p0 369).toInt + 4 ≤ 2500) ∧ ∀ c, fRC σ p0 360 = some c → ∀ i, eIC σ c i &&& 255 = f i := hx
  obtain ⟨⟨hL0, hL1⟩, hx⟩ := hx
  have z0 := z0I
  change K n 0 [(0, .inr (.inr (some p0))), (1, .inl p1)] [] σ
  have L3 : ∀ (n : Nat) (τ : CsC) (j : Nat) (s : Int32), j ≤ 4 → s.toInt = 24 - 8 * (j : Int) → fRC τ p0 360 = fRC σ p0 360 → (fIC τ p0 369).toInt = (fIC σ p0 369).toInt + j → (∀ c, fRC σ p0 360 = some c → ∀ i, eIC τ c i &&& 255 = apk f (fIC σ p0 369).toInt.toNat p1 j i) → K n 3 [(0, .inr (.inr (some p0))), (1, .inl p1), (2, .inl s)] [] τ := by
    intro n
    induction n using Nat.strongRecOn with
    | _ n ih =>
      intro τ j s hj hs hf hl he
      refine hB _ _ _ _ _ (fun m101 hm101 => ?_)
      dsimp only [ucgo, ucwp, ucsC, uqC, uoC, ctC, rfd, KX11_append, KX11_append_0, KX11_append_3, KX11_append_7, KX11_append_17, KX11_append_46, lkC, s1C, s2C, dlC, kyC, Nat.beq, rcd, rno, Nat.reduceAdd, Nat.reduceBEq, Nat.reduceDiv, List.drop, List.take, List.reverse, List.reverseAux, Int.toNat, Option.toList, List.append, List.cons_append, List.nil_append, fI_qI, fR_qI, fL_qI, fI_qL, fR_qL, fL_qL, ug360, ug369]
      refine ⟨fun h102 => ?_, fun h102 => ?_⟩
      · have gS := ltI (x := s) (y := 0) h102
        refine hB _ _ _ _ _ (fun m103 hm103 => ?_)
        dsimp only [ucgo, ucwp, ucsC, uqC, uoC, ctC, rfd, KX11_append, KX11_append_0, KX11_append_3, KX11_append_7, KX11_append_17, KX11_append_46, lkC, s1C, s2C, dlC, kyC, Nat.beq, rcd, rno, Nat.reduceAdd, Nat.reduceBEq, Nat.reduceDiv, List.drop, List.take, List.reverse, List.reverseAux, Int.toNat, Option.toList, List.append, List.cons_append, List.nil_append, fI_qI, fR_qI, fL_qI, fI_qL, fR_qL, fL_qL, ug360, ug369]
        intro τ9 we9
        have hj4 : j = 4 := ap_4 hs gS hj
        subst hj4
        refine ⟨by rw [we9.fR]; exact hf, by rw [we9.fI]; exact hl, fun c hc i => ?_⟩
        rw [we9.fR, hf] at hc
        rw [we9.eI]
        exact he c hc i
      · have gS := nltI (x := s) (y := 0) h102
        refine hB _ _ _ _ _ (fun m104 hm104 => ?_)
        dsimp only [ucgo, ucwp, ucsC, uqC, uoC, ctC, rfd, KX11_append, KX11_append_0, KX11_append_3, KX11_append_7, KX11_append_17, KX11_append_46, lkC, s1C, s2C, dlC, kyC, Nat.beq, rcd, rno, Nat.reduceAdd, Nat.reduceBEq, Nat.reduceDiv, List.drop, List.take, List.reverse, List.reverseAux, Int.toNat, Option.toList, List.append, List.cons_append, List.nil_append, fI_qI, fR_qI, fL_qI, fI_qL, fR_qL, fL_qL, ug360, ug369]
        intro a105 e105 ob105
        cases e105
        have c106 : (Int32.ofInt 2500).toInt = 2500 := by decide
        refine ⟨fun h107 => ?_, fun h107 => ?_⟩
        · have gD := leI (x := (Int32.ofInt 2500)) (y := (fIC τ p0 369)) h107
          exact (ap_d hs gS hl hL1 gD).elim
        · have gD := nleI (x := (Int32.ofInt 2500)) (y := (fIC τ p0 369)) h107
          refine hB _ _ _ _ _ (fun m108 hm108 => ?_)
          dsimp only [ucgo, ucwp, ucsC, uqC, uoC, ctC, rfd, KX11_append, KX11_append_0, KX11_append_3, KX11_append_7, KX11_append_17, KX11_append_46, lkC, s1C, s2C, dlC, kyC, Nat.beq, rcd, rno, Nat.reduceAdd, Nat.reduceBEq, Nat.reduceDiv, List.drop, List.take, List.reverse, List.reverseAux, Int.toNat, Option.toList, List.append, List.cons_append, List.nil_append, fI_qI, fR_qI, fL_qI, fI_qL, fR_qL, fL_qL, ug360, ug369]
          intro a109 e109 ob109
          cases e109
          intro a110 e110 ob110
          cases e110
          intro a111 e111 t111 v111
          intro a112 e112 ob112
          cases e112
          have c113 : (Int32.ofInt 1).toInt = 1 := by decide
          have aL : ((fIC τ p0 369) + (Int32.ofInt 1)).toInt = (fIC τ p0 369).toInt + 1 := addC (by omega) (by omega) (by omega)
          intro a115 e115 ob115 fk115
          cases e115
          have c116 : (Int32.ofInt (-8)).toInt = -8 := by decide
          have aS : (s + (Int32.ofInt (-8))).toInt = s.toInt + (-8) := addC (by omega) (by omega) (by omega)
          refine hW _ _ _ _ _ _ (List.forall_mem_cons.2 ⟨List.Mem.tail _ (List.Mem.head _), List.forall_mem_cons.2 ⟨List.Mem.tail _ (List.Mem.tail _ (List.Mem.head _)), List.forall_mem_cons.2 ⟨List.Mem.head _, fun _ h => absurd h List.not_mem_nil⟩⟩⟩) (ih _ (by omega) _ (j + 1) (s + (Int32.ofInt (-8))) (ap_j hs gS hj) (ap_s hs aS) hf ?_ (fun c hc i => ?_))
          · show (u2C (fIC τ) p0 369 _ p0 369).toInt = _
            rw [u2C_eq]
            exact ap_l hl aL
          · obtain rfl : c = a111 := Option.some.inj (hc.symm.trans (hf.symm.trans e111))
            rw [eI_p, eI_q1]
            have ix : (fIC τ p0 369).toNatClampNeg = (fIC σ p0 369).toInt.toNat + j := by
              exact ap_x hl hL0
            show (upd _ _ _ i) &&& 255 = (if i = (fIC σ p0 369).toInt.toNat + j then byV p1 j else apk f (fIC σ p0 369).toInt.toNat p1 j i)
            rcases Decidable.em (i = (fIC σ p0 369).toInt.toNat + j) with q | q
            · rw [if_pos q, q, ix, up_1, pk_vb, bp_b]
              unfold byV
              rw [← hs, Int32.ofInt_toInt]
            · rw [if_neg q, ix, up_2 q]
              exact he c hc i
  refine hB _ _ _ _ _ (fun m1 hm1 => ?_)
  dsimp only [ucgo, ucwp, ucsC, uqC, uoC, ctC, rfd, KX11_append, KX11_append_0, KX11_append_3, KX11_append_7, KX11_append_17, KX11_append_46, lkC, s1C, s2C, dlC, kyC, Nat.beq, rcd, rno, Nat.reduceAdd, Nat.reduceBEq, Nat.reduceDiv, List.drop, List.take, List.reverse, List.reverseAux, Int.toNat, Option.toList, List.append, List.cons_append, List.nil_append, fI_qI, fR_qI, fL_qI, fI_qL, fR_qL, fL_qL, ug360, ug369]
  exact hW _ _ _ _ _ _ (List.forall_mem_cons.2 ⟨List.Mem.tail _ (List.Mem.head _), List.forall_mem_cons.2 ⟨List.Mem.tail _ (List.Mem.tail _ (List.Mem.head _)), List.forall_mem_cons.2 ⟨List.Mem.head _, fun _ h => absurd h List.not_mem_nil⟩⟩⟩) (L3 _ σ 0 _ (by omega) (by decide) rfl (by omega) (fun c hc i => hx c hc i))
abbrev U_append : CqC := fun As σ w τ => ∀ f, Pp_append f As σ → Qp_append f As σ w τ
theorem n_append (l : Launch) : CMetC l 1 202 P_X11_append (fun As σ w τ => Q_X11_append As σ w τ ∧ U_append As σ w τ) := CMetC.of KX11_append (uc2C [] []) hX11_append (by decide) (by decide) okX11_append cc0C lg_X11_append (b_X11_append.and p_append)
abbrev fdk (f : Nat → Int32) (L : Nat) (a b c d e : Int32) : Nat → Int32 := apk (apk (apk (apk (apk f L a 4) (L + 4) b 4) (L + 8) c 4) (L + 12) d 4) (L + 16) e 4
theorem fdk_eq {f g : Nat → Int32} {L : Nat} {a b c d e : Int32} (h : ∀ i, i < L → f i = g i) : ∀ i, i < L + 20 → fdk f L a b c d e i = fdk g L a b c d e i :=
  apk_eq (L := L + 16) (apk_eq (L := L + 12) (apk_eq (L := L + 8) (apk_eq (L := L + 4) (apk_eq (L := L) h 4) 4) 4) 4) 4
abbrev Pp_feed (f : Nat → Int32) : CpC := fun As σ => match As with
  | [.inr (.inr (some p0)), .inl p1, .inl p2, .inl p3, .inl p4, .inl p5] => (0 ≤ (fIC σ p0 369).toInt ∧ (fIC σ p0 369).toInt ≤ 2500) ∧ ∀ c, fRC σ p0 360 = some c → ∀ i, eIC σ c i &&& 255 = f i
  | _ => False
abbrev Qp_feed (f : Nat → Int32) : CqC := fun As σ w τ => match As with
  | [.inr (.inr (some p0)), .inl p1, .inl p2, .inl p3, .inl p4, .inl p5] => (2500 < (fIC σ p0 369).toInt + 20 ∧ τ = σ) ∨ ((fIC σ p0 369).toInt + 20 ≤ 2500 ∧ ∀ c, fRC τ p0 360 = some c → ∀ i, eIC τ c i &&& 255 = fdk f (fIC σ p0 369).toInt.toNat p1 p2 p3 p4 p5 i)
  | _ => True
theorem p_feed (f : Nat → Int32) : PbC KX11_feed [(202, P_X11_append, Q_X11_append)] [(202, U_append)] (fun As σ => P_X11_feed As σ ∧ Pp_feed f As σ) (Qp_feed f) := by
  rintro As σ ⟨⟨p0, p1, p2, p3, p4, p5, rfl, H0, h0⟩, hx⟩ K hB hW n
  replace hx : (0 ≤ (fIC σ p0 369).toInt ∧ (fIC σ p0 369).toInt ≤ 2500) ∧ ∀ c, fRC σ p0 360 = some c → ∀ i, eIC σ c i &&& 255 = f i := hx
  obtain ⟨⟨hL0, hL1⟩, hx⟩ := hx
  have z0 := z0I
  change K n 0 [(0, .inr (.inr (some p0))), (1, .inl p1), (2, .inl p2), (3, .inl p3), (4, .inl p4), (5, .inl p5)] [] σ
  refine hB _ _ _ _ _ (fun m1 hm1 => ?_)
  dsimp only [ucgo, ucwp, ucsC, uqC, uoC, ctC, rfd, KX11_feed, KX11_feed_0, KX11_feed_13, KX11_feed_16, lkC, s1C, s2C, dlC, kyC, Nat.beq, rcd, rno, Nat.reduceAdd, Nat.reduceBEq, Nat.reduceDiv, List.drop, List.take, List.reverse, List.reverseAux, Int.toNat, Option.toList, List.append, List.cons_append, List.nil_append, fI_qI, fR_qI, fL_qI, fI_qL, fR_qL, fL_qL, ug369]
  intro a2 e2 ob2
  cases e2
  have c3 : (Int32.ofInt 20).toInt = 20 := by decide
  have a4 : ((fIC σ p0 369) + (Int32.ofInt 20)).toInt = (fIC σ p0 369).toInt + 20 := addC (by omega) (by omega) (by omega)
  have c5 : (Int32.ofInt 2500).toInt = 2500 := by decide
  refine ⟨fun h6 => ?_, fun h6 => ?_⟩
  · have g6 := leI (x := ((fIC σ p0 369) + (Int32.ofInt 20))) (y := (Int32.ofInt 2500)) h6
    refine hB _ _ _ _ _ (fun m7 hm7 => ?_)
    dsimp only [ucgo, ucwp, ucsC, uqC, uoC, ctC, rfd, KX11_feed, KX11_feed_0, KX11_feed_13, KX11_feed_16, lkC, s1C, s2C, dlC, kyC, Nat.beq, rcd, rno, Nat.reduceAdd, Nat.reduceBEq, Nat.reduceDiv, List.drop, List.take, List.reverse, List.reverseAux, Int.toNat, Option.toList, List.append, List.cons_append, List.nil_append, fI_qI, fR_qI, fL_qI, fI_qL, fR_qL, fL_qL, ug369]
    intro w8 τ8 o8 q8
    obtain ⟨rfl, -⟩ := o8
    obtain ⟨h1_8, h2_8, h3_8⟩ := q8 _ ⟨⟨by omega, by omega⟩, hx⟩
    dsimp only [Option.toList, List.cons_append, List.nil_append, s1C, s2C, dlC, kyC, Nat.beq, lkC, rcd, rno]
    intro w9 τ9 o9 q9
    obtain ⟨rfl, -⟩ := o9
    obtain ⟨h1_9, h2_9, h3_9⟩ := q9 _ ⟨⟨by omega, by omega⟩, h3_8⟩
    rw [show (fIC τ8 p0 369).toInt.toNat = (fIC σ p0 369).toInt.toNat + 4 by omega] at h3_9
    dsimp only [Option.toList, List.cons_append, List.nil_append, s1C, s2C, dlC, kyC, Nat.beq, lkC, rcd, rno]
    intro w10 τ10 o10 q10
    obtain ⟨rfl, -⟩ := o10
    obtain ⟨h1_10, h2_10, h3_10⟩ := q10 _ ⟨⟨by omega, by omega⟩, h3_9⟩
    rw [show (fIC τ9 p0 369).toInt.toNat = (fIC σ p0 369).toInt.toNat + 8 by omega] at h3_10
    dsimp only [Option.toList, List.cons_append, List.nil_append, s1C, s2C, dlC, kyC, Nat.beq, lkC, rcd, rno]
    intro w11 τ11 o11 q11
    obtain ⟨rfl, -⟩ := o11
    obtain ⟨h1_11, h2_11, h3_11⟩ := q11 _ ⟨⟨by omega, by omega⟩, h3_10⟩
    rw [show (fIC τ10 p0 369).toInt.toNat = (fIC σ p0 369).toInt.toNat + 12 by omega] at h3_11
    dsimp only [Option.toList, List.cons_append, List.nil_append, s1C, s2C, dlC, kyC, Nat.beq, lkC, rcd, rno]
    intro w12 τ12 o12 q12
    obtain ⟨rfl, -⟩ := o12
    obtain ⟨h1_12, h2_12, h3_12⟩ := q12 _ ⟨⟨by omega, by omega⟩, h3_11⟩
    rw [show (fIC τ11 p0 369).toInt.toNat = (fIC σ p0 369).toInt.toNat + 16 by omega] at h3_12
    dsimp only [Option.toList, List.cons_append, List.nil_append, s1C, s2C, dlC, kyC, Nat.beq, lkC, rcd, rno]
    intro a13 e13 ob13
    cases e13
    exact Or.inr ⟨by omega, h3_12⟩
  · have g6 := nleI (x := ((fIC σ p0 369) + (Int32.ofInt 20))) (y := (Int32.ofInt 2500)) h6
    refine hB _ _ _ _ _ (fun m14 hm14 => ?_)
    dsimp only [ucgo, ucwp, ucsC, uqC, uoC, ctC, rfd, KX11_feed, KX11_feed_0, KX11_feed_13, KX11_feed_16, lkC, s1C, s2C, dlC, kyC, Nat.beq, rcd, rno, Nat.reduceAdd, Nat.reduceBEq, Nat.reduceDiv, List.drop, List.take, List.reverse, List.reverseAux, Int.toNat, Option.toList, List.append, List.cons_append, List.nil_append, fI_qI, fR_qI, fL_qI, fI_qL, fR_qL, fL_qL, ug369]
    have c15 : (Int32.ofInt (-3)).toInt = -3 := by decide
    exact Or.inl ⟨by omega, rfl⟩
abbrev U_feed : CqC := fun As σ w τ => ∀ f, Pp_feed f As σ → Qp_feed f As σ w τ
theorem n_feed (l : Launch) : CMetC l 2 201 P_X11_feed (fun As σ w τ => Q_X11_feed As σ w τ ∧ U_feed As σ w τ) := CMetC.of KX11_feed (uc2C [(202, P_X11_append, Q_X11_append)] [(202, U_append)]) hX11_feed (by decide) (by decide) okX11_feed (cc1C (n_append l) (by decide) cc0C) lg_X11_feed (b_X11_feed.and p_feed)

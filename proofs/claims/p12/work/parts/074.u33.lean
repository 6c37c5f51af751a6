def wtT : List Int := [98, 111, 111, 108, 101, 97, 110, 32, 98, 121, 116, 101, 32, 99, 104, 97, 114, 32, 105, 110, 116, 32, 108, 111, 110, 103, 32, 118, 111, 105, 100, 32, 105, 102, 32, 101, 108, 115, 101, 32, 119, 104, 105, 108, 101, 32, 100, 111, 32, 102, 111, 114, 32, 115, 119, 105, 116, 99, 104, 32, 99, 97, 115, 101, 32, 100, 101, 102, 97, 117, 108, 116, 32, 98, 114, 101, 97, 107, 32, 99, 111, 110, 116, 105, 110, 117, 101, 32, 114, 101, 116, 117, 114, 110, 32, 116, 104, 114, 111, 119, 32, 116, 114, 121, 32, 99, 97, 116, 99, 104, 32, 102, 105, 110, 97, 108, 108, 121, 32, 102, 105, 110, 97, 108, 32, 116, 114, 117, 101, 32, 102, 97, 108, 115, 101]
def wwT : List Nat := [0, 0, 0, 0, 0, 0, 0, 0, 1, 1, 1, 1, 1, 2, 2, 2, 2, 2, 3, 3, 3, 3, 4, 4, 4, 4, 4, 5, 5, 5, 5, 5, 6, 6, 6, 7, 7, 7, 7, 7, 8, 8, 8, 8, 8, 8, 9, 9, 9, 10, 10, 10, 10, 11, 11, 11, 11, 11, 11, 11, 12, 12, 12, 12, 12, 13, 13, 13, 13, 13, 13, 13, 13, 14, 14, 14, 14, 14, 14, 15, 15, 15, 15, 15, 15, 15, 15, 15, 16, 16, 16, 16, 16, 16, 16, 17, 17, 17, 17, 17, 17, 18, 18, 18, 18, 19, 19, 19, 19, 19, 19, 20, 20, 20, 20, 20, 20, 20, 20, 21, 21, 21, 21, 21, 21, 22, 22, 22, 22, 22, 23, 23, 23, 23, 23, 23]
def wiT : List Nat := [0, 0, 0, 0, 0, 0, 0, 99, 1, 1, 1, 1, 99, 2, 2, 2, 2, 99, 3, 3, 3, 99, 4, 4, 4, 4, 99, 5, 5, 5, 5, 99, 6, 6, 99, 7, 7, 7, 7, 99, 8, 8, 8, 8, 8, 99, 9, 9, 99, 10, 10, 10, 99, 11, 11, 11, 11, 11, 11, 99, 12, 12, 12, 12, 99, 13, 13, 13, 13, 13, 13, 13, 99, 14, 14, 14, 14, 14, 99, 15, 15, 15, 15, 15, 15, 15, 15, 99, 16, 16, 16, 16, 16, 16, 99, 17, 17, 17, 17, 17, 99, 18, 18, 18, 99, 19, 19, 19, 19, 19, 99, 20, 20, 20, 20, 20, 20, 20, 99, 21, 21, 21, 21, 21, 99, 22, 22, 22, 22, 99, 23, 23, 23, 23, 23]
/-- the bytes of the words among the first characters, last first -/
def wlY : Nat → Nat → List Int
  | 0, _ => []
  | i + 1, k => if k = wiT.getD i 99 then wtT.getD i 0 :: wlY i k else wlY i k
theorem wt_c : ∀ i : Fin 135, (chrV 0 (Int32.ofInt (i.1 : Int))).toInt = wtT.getD i.1 0 := by decide +kernel
theorem wt_s : ∀ i : Fin 135, (wtT.getD i.1 0 = 32 ∧ wwT.getD (i.1 + 1) 0 = wwT.getD i.1 0 + 1 ∧ wiT.getD i.1 99 = 99 ∧ wwT.getD i.1 0 < 24) ∨ (¬ wtT.getD i.1 0 = 32 ∧ (isLY (wtT.getD i.1 0) ∨ isDY (wtT.getD i.1 0)) ∧ wiT.getD i.1 99 = wwT.getD i.1 0 ∧ wwT.getD i.1 0 < 24 ∧ wwT.getD (i.1 + 1) 0 = wwT.getD i.1 0 ∧ (wlY i.1 (wwT.getD i.1 0)).length ≤ 9) := by decide +kernel
theorem wt_e : ∀ k : Fin 24, wlY 135 k.1 = wkY.getD k.1 [] := by decide +kernel
theorem wl_al : ∀ i, i ≤ 135 → ∀ k, k < 24 → alK (wlY i k) := by
  intro i
  induction i with
  | zero => exact fun _ _ _ _ h => absurd h List.not_mem_nil
  | succ i ih =>
    intro hi k hk
    have a := ih (by omega) k hk
    rw [wlY]
    split
    next q =>
      rcases wt_s ⟨i, by omega⟩ with ⟨-, -, s, -⟩ | ⟨-, s, -⟩
      · dsimp only at s
        omega
      · exact fun d hd => (List.mem_cons.mp hd).elim (fun e => by rw [e]; exact s) (a d)
    next q => exact a
theorem WeC.fR {σ τ : CsC} (h : WeC σ τ) : fRC τ = fRC σ := by unfold fRC; rw [h.2.1]
theorem WeC.fI {σ τ : CsC} (h : WeC σ τ) : fIC τ = fIC σ := by unfold fIC; rw [h.2.1]
theorem WeC.eL {σ τ : CsC} (h : WeC σ τ) : eLC τ = eLC σ := by unfold eLC; rw [h.2.1]
theorem WeC.eI {σ τ : CsC} (h : WeC σ τ) : eIC τ = eIC σ := by unfold eIC; rw [h.2.1]
/-- rows of longs that were there are as they were -/
def OldL (σ τ : CsC) : Prop := cnC σ ≤ cnC τ ∧ ∀ b, b < cnC σ → eLC τ b = eLC σ b
theorem OldL.rf {σ : CsC} : OldL σ σ := ⟨Nat.le_refl _, fun _ _ => rfl⟩
theorem OldL.n {σ τ : CsC} {t n g : Nat} (h : OldL σ τ) : OldL σ (nAC τ t n g) := ⟨Nat.le_succ_of_le h.1, fun b hb => by
  have h1 := h.1
  show u1C (eLC τ) (cnC τ) _ b = _
  rw [u1C_ne (by omega)]
  exact h.2 b hb⟩
theorem OldL.p {σ τ : CsC} {a k : Nat} {v : Option Nat} (h : OldL σ τ) : OldL σ (pRC τ a k v) := h
theorem OldL.q {σ τ : CsC} {c : Nat} {f : Nat → Int64} (h : OldL σ τ) (hc : cnC σ ≤ c) : OldL σ (qLC τ c f) := ⟨h.1, fun b hb => by
  show u1C (eLC τ) c f b = _
  rw [u1C_ne (by omega)]
  exact h.2 b hb⟩
theorem OldL.we {σ τ υ : CsC} (h : OldL σ τ) (e : WeC τ υ) : OldL σ υ := by
  have q : cnC υ = cnC τ := by unfold cnC; rw [e.1]
  exact ⟨by rw [q]; exact h.1, fun b hb => by rw [e.eL]; exact h.2 b hb⟩
theorem fR_w1 {σ : CsC} {a k : Nat} {v : Option Nat} : fRC (pRC σ a k v) a k = v := u2C_eq
theorem fR_w2 {σ : CsC} {a k j : Nat} {v : Option Nat} (h : j ≠ k) : fRC (pRC σ a k v) a j = fRC σ a j := u2C_nk h
theorem fR_w3 {σ : CsC} {a b k j : Nat} {v : Option Nat} (h : j ≠ k) : fRC (pRC σ a k v) b j = fRC σ b j := u2C_nk h
theorem fR_w4 {σ : CsC} {a k : Nat} {v : Int32} : fRC (pIC σ a k v) = fRC σ := rfl
theorem fR_nw2 {σ : CsC} {a k j t n g : Nat} {v : Option Nat} (h : j ≠ k) : fRC (nAC (pRC σ a k v) t n g) a j = fRC σ a j := u2C_nk h
theorem fR_nw1 {σ : CsC} {a k t n g : Nat} {v : Option Nat} : fRC (nAC (pRC σ a k v) t n g) a k = v := u2C_eq
/-- the rows of places, sizes, codes are new, and none is cut -/
def NwR (N : Nat) (τ : CsC) (p0 : Nat) : Prop := (∃ a, fRC τ p0 300 = some a ∧ N ≤ a) ∧ (∃ a, fRC τ p0 301 = some a ∧ N ≤ a) ∧ (∃ a, fRC τ p0 302 = some a ∧ N ≤ a) ∧ fIC τ p0 305 = 0
theorem eL_nA1 {σ : CsC} {t n g : Nat} : eLC (nAC σ t n g) (cnC σ) = fun _ => 0 := u1C_eq
theorem eL_nA2 {σ : CsC} {t n g b : Nat} (h : b ≠ cnC σ) : eLC (nAC σ t n g) b = eLC σ b := u1C_ne h
theorem ini9 {Y : CsC} {p0 n1 g1 n2 g2 : Nat} : fRC (pRC (nAC (pRC (nAC Y 102 n1 g1) p0 306 (some (cnC Y))) 101 n2 g2) p0 307 (some (cnC (pRC (nAC Y 102 n1 g1) p0 306 (some (cnC Y)))))) p0 306 = some (cnC Y) ∧ ∀ k, eLC (pRC (nAC (pRC (nAC Y 102 n1 g1) p0 306 (some (cnC Y))) 101 n2 g2) p0 307 (some (cnC (pRC (nAC Y 102 n1 g1) p0 306 (some (cnC Y)))))) (cnC Y) k = 0 := by
  refine ⟨?_, fun k => ?_⟩
  · have e : fRC (nAC (pRC (nAC Y 102 n1 g1) p0 306 (some (cnC Y))) 101 n2 g2) p0 306 = fRC (pRC (nAC Y 102 n1 g1) p0 306 (some (cnC Y))) p0 306 := rfl
    exact (fR_w2 (by decide)).trans (e.trans fR_w1)
  · have a : eLC (nAC (pRC (nAC Y 102 n1 g1) p0 306 (some (cnC Y))) 101 n2 g2) (cnC Y) = eLC (pRC (nAC Y 102 n1 g1) p0 306 (some (cnC Y))) (cnC Y) := eL_nA2 (by show cnC Y ≠ cnC Y + 1; omega)
    have b : eLC (pRC (nAC Y 102 n1 g1) p0 306 (some (cnC Y))) (cnC Y) = fun _ => 0 := eL_nA1 (t := 102) (n := n1) (g := g1)
    exact congrFun (a.trans b) k
abbrev Pp_ini9 (_y : Unit) : CpC := fun _ _ => True
abbrev Qp_ini9 (_y : Unit) : CqC := fun As σ w τ => match As with
  | [.inr (.inr (some p0))] => (OldL σ τ ∧ NwR (cnC σ) τ p0) ∧ ∃ c, cnC σ ≤ c ∧ fRC τ p0 306 = some c ∧ ∀ k, k < 24 → (eLC τ c k).toInt = kyY (wkY.getD k [])
  | _ => True
theorem p_ini9 (y : Unit) : PbC KX9_init [(239, P_J0_length_8abf5, Q_J0_length_8abf5), (238, P_J0_charAt_5068e, Q_J0_charAt_5068e), (185, P_X9_longerKey, Q_X9_longerKey)] [(185, U_longerKey)] (fun As σ => P_X9_init As σ ∧ Pp_ini9 y As σ) (Qp_ini9 y) := by
  rintro As σ ⟨⟨p0, rfl, H0, -, hz, -⟩, -⟩ K hB hW n
  have z0 := z0I
  change K n 0 [(0, .inr (.inr (some p0)))] [] σ
  have L68 : ∀ (n : Nat) (τ : CsC) (c : Nat) (w i : Int32), OldL σ τ → NwR (cnC σ) τ p0 → cnC σ ≤ c → fRC τ p0 306 = some c → 0 ≤ i.toInt → i.toInt ≤ 135 → w.toInt = (wwT.getD i.toInt.toNat 0 : Nat) → (∀ k, k < 24 → (eLC τ c k).toInt = kyY (wlY i.toInt.toNat k)) → K n 68 [(0, .inr (.inr (some p0))), (1, .inl w), (2, .inl i)] [] τ := by
    intro n
    induction n using Nat.strongRecOn with
    | _ n ih =>
      intro τ c w i hO hN hc hf hi0 hi1 hw hk6
      refine hB _ _ _ _ _ (fun m101 hm101 => ?_)
      dsimp only [ucgo, ucwp, ucsC, uqC, uoC, ctC, rfd, KX9_init, KX9_init_0, KX9_init_68, KX9_init_77, KX9_init_90, KX9_init_96, KX9_init_102, KX9_init_118, KX9_init_124, lkC, s1C, s2C, dlC, kyC, Nat.beq, rcd, rno, Nat.reduceAdd, Nat.reduceBEq, Nat.reduceDiv, List.drop, List.take, List.reverse, List.reverseAux, Int.toNat, Option.toList, List.append, List.cons_append, List.nil_append, fI_qI, fR_qI, fL_qI, fI_qL, fR_qL, fL_qL, ug306]
      intro w102 τ102 o102 q102
      obtain ⟨r102, rfl, rfl, -, -, l102_⟩ := o102
      have l102 : r102.toInt = 135 := l102_
      dsimp only [Option.toList, List.cons_append, List.nil_append, s1C, s2C, dlC, kyC, Nat.beq, lkC, rcd, rno]
      refine ⟨fun h103 => ?_, fun h103 => ?_⟩
      · have g103 := leI (x := r102) (y := i) h103
        refine hB _ _ _ _ _ (fun m104 hm104 => ?_)
        dsimp only [ucgo, ucwp, ucsC, uqC, uoC, ctC, rfd, KX9_init, KX9_init_0, KX9_init_68, KX9_init_77, KX9_init_90, KX9_init_96, KX9_init_102, KX9_init_118, KX9_init_124, lkC, s1C, s2C, dlC, kyC, Nat.beq, rcd, rno, Nat.reduceAdd, Nat.reduceBEq, Nat.reduceDiv, List.drop, List.take, List.reverse, List.reverseAux, Int.toNat, Option.toList, List.append, List.cons_append, List.nil_append, fI_qI, fR_qI, fL_qI, fI_qL, fR_qL, fL_qL, ug306]
        intro τ9 we9
        refine ⟨⟨hO.we we9, by unfold NwR; rw [we9.fR, we9.fI]; exact hN⟩, c, hc, by rw [we9.fR]; exact hf, fun k hk => ?_⟩
        have y := hk6 k hk
        rw [show i.toInt.toNat = 135 by omega, wt_e ⟨k, hk⟩] at y
        rw [we9.eL]
        exact y
      · have g103 := nleI (x := r102) (y := i) h103
        refine hB _ _ _ _ _ (fun m105 hm105 => ?_)
        dsimp only [ucgo, ucwp, ucsC, uqC, uoC, ctC, rfd, KX9_init, KX9_init_0, KX9_init_68, KX9_init_77, KX9_init_90, KX9_init_96, KX9_init_102, KX9_init_118, KX9_init_124, lkC, s1C, s2C, dlC, kyC, Nat.beq, rcd, rno, Nat.reduceAdd, Nat.reduceBEq, Nat.reduceDiv, List.drop, List.take, List.reverse, List.reverseAux, Int.toNat, Option.toList, List.append, List.cons_append, List.nil_append, fI_qI, fR_qI, fL_qI, fI_qL, fR_qL, fL_qL, ug306]
        intro w106 τ106 o106 q106
        obtain ⟨r106, rfl, rfl, l106_⟩ := o106
        have lch : r106.toInt = wtT.getD i.toInt.toNat 0 := by
          have y := wt_c ⟨i.toInt.toNat, by omega⟩
          dsimp only at y
          rw [show ((i.toInt.toNat : Nat) : Int) = i.toInt from by omega, Int32.ofInt_toInt] at y
          rw [← y, l106_]
        have ws := wt_s ⟨i.toInt.toNat, by omega⟩
        dsimp only at ws
        dsimp only [Option.toList, List.cons_append, List.nil_append, s1C, s2C, dlC, kyC, Nat.beq, lkC, rcd, rno]
        have c107 : (Int32.ofInt 32).toInt = 32 := by decide
        refine ⟨fun h108 => ?_, fun h108 => ?_⟩
        · have g108 := (neI (x := r106) (y := (Int32.ofInt 32)) h108 : ¬ (r106 : Int32).toInt = ((Int32.ofInt 32) : Int32).toInt)
          refine hB _ _ _ _ _ (fun m109 hm109 => ?_)
          dsimp only [ucgo, ucwp, ucsC, uqC, uoC, ctC, rfd, KX9_init, KX9_init_0, KX9_init_68, KX9_init_77, KX9_init_90, KX9_init_96, KX9_init_102, KX9_init_118, KX9_init_124, lkC, s1C, s2C, dlC, kyC, Nat.beq, rcd, rno, Nat.reduceAdd, Nat.reduceBEq, Nat.reduceDiv, List.drop, List.take, List.reverse, List.reverseAux, Int.toNat, Option.toList, List.append, List.cons_append, List.nil_append, fI_qI, fR_qI, fL_qI, fI_qL, fR_qL, fL_qL, ug306]
          have c110 : (Int32.ofInt 24).toInt = 24 := by decide
          refine ⟨fun h111 => ?_, fun h111 => ?_⟩
          · have g111 := leI (x := (Int32.ofInt 24)) (y := w) h111
            exfalso
            omega
          · have g111 := nleI (x := (Int32.ofInt 24)) (y := w) h111
            refine hB _ _ _ _ _ (fun m112 hm112 => ?_)
            dsimp only [ucgo, ucwp, ucsC, uqC, uoC, ctC, rfd, KX9_init, KX9_init_0, KX9_init_68, KX9_init_77, KX9_init_90, KX9_init_96, KX9_init_102, KX9_init_118, KX9_init_124, lkC, s1C, s2C, dlC, kyC, Nat.beq, rcd, rno, Nat.reduceAdd, Nat.reduceBEq, Nat.reduceDiv, List.drop, List.take, List.reverse, List.reverseAux, Int.toNat, Option.toList, List.append, List.cons_append, List.nil_append, fI_qI, fR_qI, fL_qI, fI_qL, fR_qL, fL_qL, ug306]
            intro a113 e113 ob113
            cases e113
            intro a114 e114 ob114
            cases e114
            intro a115 e115 t115 v115
            intro w116 τ116 o116 q116
            have al : isLY r106.toInt ∨ isDY r106.toInt := by
              rcases ws with ⟨s1, -⟩ | ⟨s1, s2, -⟩
              · exact absurd s1 (by omega)
              · rw [lch]; exact s2
            obtain ⟨v116, rfl, rfl⟩ := o116
            obtain ⟨c116, x116, rfl⟩ := q116 () ⟨by rcases al with (q | q) | q <;> omega, by rcases al with (q | q) | q <;> omega⟩ v116 rfl
            dsimp only [Option.toList, List.cons_append, List.nil_append, s1C, s2C, dlC, kyC, Nat.beq, lkC, rcd, rno]
            intro a117 e117 t117 v117
            refine hB _ _ _ _ _ (fun m118 hm118 => ?_)
            dsimp only [ucgo, ucwp, ucsC, uqC, uoC, ctC, rfd, KX9_init, KX9_init_0, KX9_init_68, KX9_init_77, KX9_init_90, KX9_init_96, KX9_init_102, KX9_init_118, KX9_init_124, lkC, s1C, s2C, dlC, kyC, Nat.beq, rcd, rno, Nat.reduceAdd, Nat.reduceBEq, Nat.reduceDiv, List.drop, List.take, List.reverse, List.reverseAux, Int.toNat, Option.toList, List.append, List.cons_append, List.nil_append, fI_qI, fR_qI, fL_qI, fI_qL, fR_qL, fL_qL, ug306]
            have c119 : (Int32.ofInt 1).toInt = 1 := by decide
            have a120 : (i + (Int32.ofInt 1)).toInt = i.toInt + 1 := addC (by omega) (by omega) (by omega)
            have e2 : ((i + (Int32.ofInt 1)) : Int32).toInt.toNat = i.toInt.toNat + 1 := by omega
            rcases ws with ⟨s1, -⟩ | ⟨s1, s2, s3, s4, s5, s6⟩
            · exact absurd s1 (by omega)
            obtain rfl : c = a117 := Option.some.inj (hf.symm.trans e117)
            obtain rfl : c = a115 := Option.some.inj (hf.symm.trans e115)
            have wi : w.toNatClampNeg = wwT.getD i.toInt.toNat 0 := by
              show w.toInt.toNat = _
              omega
            refine hW _ _ _ _ _ _ (List.forall_mem_cons.2 ⟨List.Mem.tail _ (List.Mem.tail _ (List.Mem.head _)), List.forall_mem_cons.2 ⟨List.Mem.tail _ (List.Mem.tail _ (List.Mem.tail _ (List.Mem.head _))), List.forall_mem_cons.2 ⟨List.Mem.head _, fun _ h => absurd h List.not_mem_nil⟩⟩⟩) (ih _ (by omega) _ c w (i + (Int32.ofInt 1)) (hO.q hc) hN hc hf (by omega) (by omega) ?_ ?_)
            · rw [e2]; omega
            · intro k hk
              rw [e2, wlY]
              have y := hk6 k hk
              show (u1C (eLC τ) c _ c k).toInt = _
              rw [u1C_eq]
              show (if k = w.toNatClampNeg then _ else _ : Int64).toInt = _
              rcases Decidable.em (k = w.toNatClampNeg) with q | q
              · rw [if_pos q, if_pos (by omega)]
                subst q
                exact ky_s (wl_al _ (by omega) _ hk) (by rw [wi]; exact s6) y s2 (by rw [x116, lch])
              · rw [if_neg q, if_neg (by omega)]
                exact y
        · have g108 := (eqI (x := r106) (y := (Int32.ofInt 32)) h108 : (r106 : Int32).toInt = ((Int32.ofInt 32) : Int32).toInt)
          refine hB _ _ _ _ _ (fun m121 hm121 => ?_)
          dsimp only [ucgo, ucwp, ucsC, uqC, uoC, ctC, rfd, KX9_init, KX9_init_0, KX9_init_68, KX9_init_77, KX9_init_90, KX9_init_96, KX9_init_102, KX9_init_118, KX9_init_124, lkC, s1C, s2C, dlC, kyC, Nat.beq, rcd, rno, Nat.reduceAdd, Nat.reduceBEq, Nat.reduceDiv, List.drop, List.take, List.reverse, List.reverseAux, Int.toNat, Option.toList, List.append, List.cons_append, List.nil_append, fI_qI, fR_qI, fL_qI, fI_qL, fR_qL, fL_qL, ug306]
          have c122 : (Int32.ofInt 1).toInt = 1 := by decide
          have a123 : (w + (Int32.ofInt 1)).toInt = w.toInt + 1 := addC (by omega) (by omega) (by omega)
          refine hB _ _ _ _ _ (fun m124 hm124 => ?_)
          dsimp only [ucgo, ucwp, ucsC, uqC, uoC, ctC, rfd, KX9_init, KX9_init_0, KX9_init_68, KX9_init_77, KX9_init_90, KX9_init_96, KX9_init_102, KX9_init_118, KX9_init_124, lkC, s1C, s2C, dlC, kyC, Nat.beq, rcd, rno, Nat.reduceAdd, Nat.reduceBEq, Nat.reduceDiv, List.drop, List.take, List.reverse, List.reverseAux, Int.toNat, Option.toList, List.append, List.cons_append, List.nil_append, fI_qI, fR_qI, fL_qI, fI_qL, fR_qL, fL_qL, ug306]
          have c125 : (Int32.ofInt 1).toInt = 1 := by decide
          have a126 : (i + (Int32.ofInt 1)).toInt = i.toInt + 1 := addC (by omega) (by omega) (by omega)
          have e2 : ((i + (Int32.ofInt 1)) : Int32).toInt.toNat = i.toInt.toNat + 1 := by omega
          rcases ws with ⟨s1, s2, s3, s4⟩ | ⟨s1, -⟩
          · refine hW _ _ _ _ _ _ (List.forall_mem_cons.2 ⟨List.Mem.tail _ (List.Mem.tail _ (List.Mem.tail _ (List.Mem.head _))), List.forall_mem_cons.2 ⟨List.Mem.tail _ (List.Mem.head _), List.forall_mem_cons.2 ⟨List.Mem.head _, fun _ h => absurd h List.not_mem_nil⟩⟩⟩) (ih _ (by omega) τ c (w + (Int32.ofInt 1)) (i + (Int32.ofInt 1)) hO hN hc hf (by omega) (by omega) ?_ ?_)
            · rw [e2]; omega
            · intro k hk
              rw [e2, wlY, if_neg (by omega)]
              exact hk6 k hk
          · exact absurd (lch.symm.trans (by omega)) s1
  refine hB _ _ _ _ _ (fun m301 hm301 => ?_)
  dsimp only [ucgo, ucwp, ucsC, uqC, uoC, ctC, rfd, KX9_init, KX9_init_0, KX9_init_68, KX9_init_77, KX9_init_90, KX9_init_96, KX9_init_102, KX9_init_118, KX9_init_124, lkC, s1C, s2C, dlC, kyC, Nat.beq, rcd, rno, Nat.reduceAdd, Nat.reduceBEq, Nat.reduceDiv, List.drop, List.take, List.reverse, List.reverseAux, Int.toNat, Option.toList, List.append, List.cons_append, List.nil_append, fI_qI, fR_qI, fL_qI, fI_qL, fR_qL, fL_qL, ug306]
  have c302 : (Int32.ofInt 503).toInt = 503 := by decide
  intro y1_303 y2_303
  intro a304 e304 ob304 fk304
  cases e304
  have c305 : (Int32.ofInt 503).toInt = 503 := by decide
  intro y1_306 y2_306
  intro a307 e307 ob307 fk307
  cases e307
  have c308 : (Int32.ofInt 503).toInt = 503 := by decide
  intro y1_309 y2_309
  intro a310 e310 ob310 fk310
  cases e310
  have c311 : (Int32.ofInt 503).toInt = 503 := by decide
  intro y1_312 y2_312
  intro a313 e313 ob313 fk313
  cases e313
  have c314 : (Int32.ofInt 503).toInt = 503 := by decide
  intro y1_315 y2_315
  intro a316 e316 ob316 fk316
  cases e316
  have c317 : (Int32.ofInt 24).toInt = 24 := by decide
  intro y1_318 y2_318
  intro a319 e319 ob319 fk319
  cases e319
  have c320 : (Int32.ofInt 0).toInt = 0 := by decide
  intro y1_321 y2_321
  intro a322 e322 ob322 fk322
  cases e322
  have c323 : (Int32.ofInt 0).toInt = 0 := by decide
  have c324 : (Int32.ofInt 0).toInt = 0 := by decide
  exact hW _ _ _ _ _ _ (List.forall_mem_cons.2 ⟨List.Mem.tail _ (List.Mem.tail _ (List.Mem.head _)), List.forall_mem_cons.2 ⟨List.Mem.tail _ (List.Mem.head _), List.forall_mem_cons.2 ⟨List.Mem.head _, fun _ h => absurd h List.not_mem_nil⟩⟩⟩) (L68 _ _ _ (Int32.ofInt 0) (Int32.ofInt 0) (OldL.p (OldL.n (OldL.p (OldL.n (OldL.p (OldL.n (OldL.p (OldL.n (OldL.p (OldL.n (OldL.p (OldL.n (OldL.p (OldL.n OldL.rf)))))))))))))) ⟨⟨_, (fR_w2 (k := 307) (by decide)).trans ((fR_nw2 (k := 306) (by decide)).trans ((fR_nw2 (k := 304) (by decide)).trans ((fR_nw2 (k := 303) (by decide)).trans ((fR_nw2 (k := 302) (by decide)).trans ((fR_nw2 (k := 301) (by decide)).trans fR_nw1))))), OldL.rf.1⟩, ⟨_, (fR_w2 (k := 307) (by decide)).trans ((fR_nw2 (k := 306) (by decide)).trans ((fR_nw2 (k := 304) (by decide)).trans ((fR_nw2 (k := 303) (by decide)).trans ((fR_nw2 (k := 302) (by decide)).trans fR_nw1)))), ((OldL.p (OldL.n OldL.rf))).1⟩, ⟨_, (fR_w2 (k := 307) (by decide)).trans ((fR_nw2 (k := 306) (by decide)).trans ((fR_nw2 (k := 304) (by decide)).trans ((fR_nw2 (k := 303) (by decide)).trans fR_nw1))), ((OldL.p (OldL.n (OldL.p (OldL.n OldL.rf))))).1⟩, (hz 305).1⟩ ((OldL.p (OldL.n (OldL.p (OldL.n (OldL.p (OldL.n (OldL.p (OldL.n (OldL.p (OldL.n OldL.rf))))))))))).1 ini9.1 (by decide) (by decide) (by decide) (fun k hk => by rw [ini9.2]; rfl))
abbrev U_ini9 : CqC := fun As σ w τ => ∀ y, Pp_ini9 y As σ → Qp_ini9 y As σ w τ
theorem n_ini9 (l : Launch) : CMetC l 11 184 P_X9_init (fun As σ w τ => Q_X9_init As σ w τ ∧ U_ini9 As σ w τ) := CMetC.of KX9_init (uc2C [(239, P_J0_length_8abf5, Q_J0_length_8abf5), (238, P_J0_charAt_5068e, Q_J0_charAt_5068e), (185, P_X9_longerKey, Q_X9_longerKey)] [(185, U_longerKey)]) hX9_init (by decide) (by decide) okX9_init (cc1C (m_J0_length_8abf5 l) (by decide) (cc1C (m_J0_charAt_5068e l) (by decide) (cc1C (n_longerKey l) (by decide) cc0C))) lg_X9_init (b_X9_init.and p_ini9)

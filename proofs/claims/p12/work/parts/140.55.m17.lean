theorem PI.frm {σ : RS} {E : List Nat} {s : SS} {k j : Int} (h : PI σ E s k j) {f : Int32} (h0 : 0 ≤ f) (h1 : f < gI σ 62) : (0 ≤ aI σ 63 f.toNatClampNeg ∧ aI σ 63 f.toNatClampNeg ≤ 11) ∧ (0 ≤ aI σ 64 f.toNatClampNeg ∧ aI σ 64 f.toNatClampNeg < gI σ 49) ∧ (0 ≤ aI σ 60 (aI σ 64 f.toNatClampNeg).toNatClampNeg ∧ aI σ 60 (aI σ 64 f.toNatClampNeg).toNatClampNeg ≤ 500) := by
  have a := h.2.2.2.2.2.2.1.2 (nT f) (nT_lt h0 h1)
  exact ⟨a.1, a.2.1, h.ktok a.2.1.1 a.2.1.2⟩
theorem mdn {f : Int32} {n : Nat} (hn : nT (f + 1) = n) (h0 : 0 ≤ f) (h1 : f ≤ 1000) : nT (f + -1 + 1) < n := by
  have e : f + -1 + 1 = f := by lia
  rw [e, ← hn, nT_add h0 (by lia)]
  omega
theorem PI.csx {X : RS} {K : Int32} {r : List (Nat × Nat)} {mn : Nat} {k j : Int} (h : PI X [0] ((37, nT K) :: r, mn) k j) (b t : Int32) (hK : 0 ≤ K ∧ K < gI X 49) (ht : 0 ≤ t ∧ t ≤ 500) (hk : k ≤ 18) : PI (sA (em X 38 K t) 21 (upd (aI (em X 38 K t) 21) (gI X 18).toNatClampNeg b)) [] ((37, nT K) :: r, mn) (k + 1) j :=
  h.cbm 38 K b t (by decide) ht rfl (fun _ => hK) (fun q => absurd q (by decide)) (fun q => absurd q (by decide)) (fun q => absurd q (by decide)) (fun q => by cases q) rfl (by show (if (37, nT K) = (37, nT K) then some ((37, nT K) :: r, mn) else none) = _; rw [if_pos rfl]) (by omega)
theorem PI.dfx {X : RS} {K : Int32} {r : List (Nat × Nat)} {mn : Nat} {k j : Int} (h : PI X [] ((37, nT K) :: r, mn) k j) (t : Int32) (hK : 0 ≤ K ∧ K < gI X 49) (ht : 0 ≤ t ∧ t ≤ 500) (hk : k ≤ 18) : PI (em X 39 K t) [] ((37, nT K) :: r, mn) (k + 1) j :=
  h.cem 39 K t (by decide) ht rfl (fun _ => hK) (fun q => absurd q (by decide)) (fun q => absurd q (by decide)) (fun q => absurd q (by decide)) (fun q => by cases q) rfl (by show (if (37, nT K) = (37, nT K) then some ((37, nT K) :: r, mn) else none) = _; rw [if_pos rfl]) (by omega)
theorem FF8 {σ : RS} (hop : 0 < gI σ 62) (hxs : (aI σ 63 (nT (gI σ 62 - 1))) = 8) : FF σ = (37, nT (aI σ 64 (nT (gI σ 62 - 1)))) :: (20, nT (aI σ 65 (nT (gI σ 62 - 1)))) :: (Fs (aI σ 63) (aI σ 64) (aI σ 65) (nT (gI σ 62 - 1))) := by
  rw [FF_pop hop, hxs, fit8]
  rfl
def lbA (X : RS) (K b t : Int32) : RS := sI (sA (em X 38 K t) 21 (upd (aI (em X 38 K t) 21) (gI X 18).toNatClampNeg b)) 14 (gI X 14 + 1)
def lbB (X : RS) (K t : Int32) : RS := sI (em X 39 K t) 14 (gI X 14 + 1)
theorem FF_lbA {X : RS} {K b t : Int32} : FF (lbA X K b t) = FF X := by
  unfold lbA
  rw [FF_sI (k := 14) (by omega), FF_sA (k := 21) (by omega), FF_em]
theorem FF_lbB {X : RS} {K t : Int32} : FF (lbB X K t) = FF X := by
  unfold lbB
  rw [FF_sI (k := 14) (by omega), FF_em]
theorem PI.lba {σ τ : RS} {mn : Nat} {k j : Int} (h : PI σ [] (FF σ, mn) k j) (hk : k ≤ 12) (hj : 1 ≤ j) (hop : 0 < gI σ 62) (hxs : (aI σ 63 (nT (gI σ 62 - 1))) = 8) (hp : gI σ 14 < 500) (hx : XE (sI σ 14 (gI σ 14 + 1)) τ) (hq : gI τ 14 < 500) (b t : Int32) (ht : 0 ≤ t ∧ t ≤ 500) : PI (lbA τ (aI σ 64 (nT (gI σ 62 - 1))) b t) [] (FF (lbA τ (aI σ 64 (nT (gI σ 62 - 1))) b t), mn) k j := by
  have htop := h.top hop
  have e49 : gI τ 49 = gI σ 49 := hx.1.1 49 rfl
  rw [FF8 hop hxs] at h
  have b1 := h.take hp rfl (k - 6) (j + 1) ⟨by omega, by omega⟩ ⟨by omega, by omega⟩
  have b2 := b1.exp hx (k - 6) ⟨by omega, by omega⟩
  have b3 := b2.csx b t ⟨htop.2.1.1, by rw [e49]; exact htop.2.1.2⟩ ht (by omega)
  have b4 := b3.take hq rfl k j ⟨by omega, by omega⟩ ⟨by omega, by omega⟩
  rw [FF_lbA, FF_ff hx.1.f, FF_sI (k := 14) (by omega), FF8 hop hxs]
  exact b4
theorem PI.lbb {σ : RS} {mn : Nat} {k j : Int} (h : PI σ [] (FF σ, mn) k j) (hk : k ≤ 12) (hj : 1 ≤ j) (hop : 0 < gI σ 62) (hxs : (aI σ 63 (nT (gI σ 62 - 1))) = 8) (hp : gI σ 14 < 500) (hq : gI σ 14 + 1 < 500) (t : Int32) (ht : 0 ≤ t ∧ t ≤ 500) : PI (lbB (sI σ 14 (gI σ 14 + 1)) (aI σ 64 (nT (gI σ 62 - 1))) t) [] (FF (lbB (sI σ 14 (gI σ 14 + 1)) (aI σ 64 (nT (gI σ 62 - 1))) t), mn) k j := by
  have htop := h.top hop
  rw [FF8 hop hxs] at h
  have b1 := h.take hp rfl (k - 6) (j + 1) ⟨by omega, by omega⟩ ⟨by omega, by omega⟩
  have b3 := b1.dfx t htop.2.1 ht (by omega)
  have b4 := b3.take hq rfl k j ⟨by omega, by omega⟩ ⟨by omega, by omega⟩
  rw [FF_lbB, FF_sI (k := 14) (by omega), FF8 hop hxs]
  exact b4
theorem mem_Fs {s t p : Nat → Int32} {i : Nat} (n : Nat) (hi : i < n) {q : Nat × Nat} (hq : q ∈ fit (s i) (t i) (p i)) : q ∈ Fs s t p n := by
  induction n with
  | zero => omega
  | succ n ih =>
    show q ∈ fit (s n) (t n) (p n) ++ Fs s t p n
    by_cases z : i = n
    · subst z
      exact List.mem_append_left _ hq
    · exact List.mem_append_right _ (ih (by omega))
/-- what a jump may lead to -/
def jq (σ : RS) (on r : Int32) : Prop := r = -2 ∨ ((0 ≤ r ∧ r < gI σ 49) ∧ ∃ q ∈ FF σ, q.2 = nT r ∧ (jo 47 q.1 ∨ (on = 0 ∧ jo 46 q.1)))
theorem jq.of {σ τ : RS} {on r : Int32} (h : jq σ on r) (h1 : FF τ = FF σ) (h2 : gI τ 49 = gI σ 49) : jq τ on r := by
  unfold jq
  rw [h1, h2]
  exact h
theorem PI.jf {σ : RS} {E : List Nat} {s : SS} {k j : Int} (h : PI σ E s k j) {on f : Int32} (h0 : 0 ≤ f) (h1 : f < gI σ 62) (hs : aI σ 63 f.toNatClampNeg = 4 ∨ aI σ 63 f.toNatClampNeg = 5 ∨ aI σ 63 f.toNatClampNeg = 6) : jq σ on (aI σ 64 f.toNatClampNeg) := by
  have hm : ∀ q ∈ fit (aI σ 63 (nT f)) (aI σ 64 (nT f)) (aI σ 65 (nT f)), q ∈ FF σ := fun q hq => mem_Fs _ (nT_lt h0 h1) hq
  have hs : aI σ 63 (nT f) = 4 ∨ aI σ 63 (nT f) = 5 ∨ aI σ 63 (nT f) = 6 := hs
  refine Or.inr ⟨(h.frm h0 h1).2.1, ?_⟩
  rcases hs with e | e | e <;> rw [e] at hm
  · exact ⟨(27, nT (aI σ 64 (nT f))), hm _ (by rw [fit4]; simp), rfl, Or.inl (Or.inl rfl)⟩
  · exact ⟨(29, nT (aI σ 64 (nT f))), hm _ (by rw [fit5]; simp), rfl, Or.inl (Or.inr (Or.inl rfl))⟩
  · exact ⟨(35, nT (aI σ 64 (nT f))), hm _ (by rw [fit6]; simp), rfl, Or.inl (Or.inr (Or.inr (Or.inl rfl)))⟩
theorem PI.jf7 {σ : RS} {E : List Nat} {s : SS} {k j : Int} (h : PI σ E s k j) {on f : Int32} (h0 : 0 ≤ f) (h1 : f < gI σ 62) (hs : aI σ 63 f.toNatClampNeg = 7 ∨ aI σ 63 f.toNatClampNeg = 8) (hon : on = 0) : jq σ on (aI σ 64 f.toNatClampNeg) := by
  have hm : ∀ q ∈ fit (aI σ 63 (nT f)) (aI σ 64 (nT f)) (aI σ 65 (nT f)), q ∈ FF σ := fun q hq => mem_Fs _ (nT_lt h0 h1) hq
  have hs : aI σ 63 (nT f) = 7 ∨ aI σ 63 (nT f) = 8 := hs
  refine Or.inr ⟨(h.frm h0 h1).2.1, ?_⟩
  rcases hs with e | e <;> rw [e] at hm
  · exact ⟨(41, nT (aI σ 64 (nT f))), hm _ (by rw [fit7]; simp), rfl, Or.inr ⟨hon, Or.inr (Or.inr (Or.inr ⟨rfl, Or.inr rfl⟩))⟩⟩
  · exact ⟨(37, nT (aI σ 64 (nT f))), hm _ (by rw [fit8]; simp), rfl, Or.inr ⟨hon, Or.inr (Or.inr (Or.inr ⟨rfl, Or.inl rfl⟩))⟩⟩
def cW (σ : RS) (f : Nat → Int32) : RS := sA (em (sI (sA σ 48 f) 14 (gI σ 14 + 1)) 40 (aI σ 64 (nT (gI σ 62 - 1))) (aI σ 60 (nT (aI σ 64 (nT (gI σ 62 - 1)))))) 55 (upd (aI σ 55) (nT (aI σ 64 (nT (gI σ 62 - 1)))) (gI σ 18))
theorem PI.cw {σ : RS} {f : Nat → Int32} {mn : Nat} {k j : Int} (h : PI σ [] (FF σ, mn) k j) (hk : k ≤ 12) (hj : 1 ≤ j) (hop : 0 < gI σ 62) (hxs : (aI σ 63 (nT (gI σ 62 - 1))) = 8) (hp : gI σ 14 < 500) : PI (cW σ f) [] ((20, nT (aI σ 65 (nT (gI σ 62 - 1)))) :: Fs (aI (cW σ f) 63) (aI (cW σ f) 64) (aI (cW σ f) 65) (nT (gI (cW σ f) 62 - 1)), mn) k j := by
  have htop := h.top hop
  have hkt := h.ktok htop.2.1.1 htop.2.1.2
  rw [FF8 hop hxs] at h
  have b1 := (h.s48 f).take hp rfl (k - 6) (j + 1) ⟨by omega, by omega⟩ ⟨by omega, by omega⟩
  have b2 := b1.swx (aI σ 60 (nT (aI σ 64 (nT (gI σ 62 - 1))))) htop.2.1 hkt (by omega)
  exact b2.wk k j ⟨by omega, by omega⟩ ⟨by omega, by omega⟩
theorem MF.cw {σ : RS} {f : Nat → Int32} (h : MF σ) : MF (cW σ f) := MF.of h rfl rfl rfl
theorem mlt4 {x : Int32} {n : Nat} (hn : (4000 - x.toInt).toNat = n) (h0 : 0 ≤ x) (h : x < 4000) : (4000 - (x + 1).toInt).toNat < n := by
  have h1 : x.toInt < 4000 := Int32.lt_iff_toInt_lt.mp h
  have h2 := t_0 h0
  have u : (x + 1).toInt = x.toInt + 1 := t_add1 (by omega)
  omega
def P_label : RP := fun As σ => match As with
  | [] => ∃ mn k j, PI σ [] (FF σ, mn) k j ∧ k ≤ 12 ∧ 1 ≤ j ∧ MF σ ∧ 0 < (gI σ 62) ∧ aI σ 63 (gI σ 62 - 1).toNatClampNeg = 8
  | _ => False
def Q_label : RQ := fun As σ w τ => match As with
  | [] => ∃ r : Int32, w = some (.int r) ∧ ((r = 0 ∧ Fp σ τ) ∨ (r = 1 ∧ Fp σ τ ∧ (∀ mn k j, PI σ [] (FF σ, mn) k j → k ≤ 12 → 1 ≤ j → PI τ [] (FF τ, mn) k j) ∧ MF τ ∧ (gI σ 14) < (gI τ 14)))
  | _ => False
set_option maxRecDepth 100000 in
set_option maxHeartbeats 4000000 in
theorem b_label : Bod Blabel [(20, P_emit, Q_emit), (27, P_expression, Q_expression), (15, P_isWord, Q_isWord), (17, P_take, Q_take), (18, P_want, Q_want)] P_label Q_label := by
  · intro As σ hP G hB hW
    unfold P_label at hP
    split at hP
    next => 
      unfold Q_label at hB
      dsimp only at hB
      obtain ⟨mm, kk, jj, hPJ, hkk, hjj, hMF, hop, hxs⟩ := hP
      have nn := PI.nums hPJ
      have htop := hPJ.top hop
      have hta : (0 ≤ aI σ 64 (gI σ 62 - 1).toNatClampNeg ∧ aI σ 64 (gI σ 62 - 1).toNatClampNeg < gI σ 49) := htop.2.1
      apply hB
      dsimp only [rgo, rfd, Blabel, Nat.beq, rwp, rst, lv_args, rlk, rs1, rs2, rdl, rky, rct, rcs, rcd, rno, rsw, Value.category, List.filter, List.take, List.drop, List.reverse, List.reverseAux, List.cons_append, List.nil_append, Option.toList, Int.toNat, Int.reduceToNat, if_pos, if_neg, reduceIte, ↓reduceIte, Nat.reduceAdd, Nat.reduceEqDiff, Nat.reduceBEq, beq_self_eq_true, Bool.not_true, Bool.not_false, Bool.and_true, Bool.and_false, Bool.true_and, Bool.false_and, gI_sI, gI_sL, gI_sA, gI_sM, gL_sI, gL_sL, gL_sA, gL_sM, aI_sI, aI_sL, aI_sA, aI_sM, aL_sI, aL_sL, aL_sA, aL_sM, gI_em, gI_emx, gI_pu, gI_wh, Blabel_0, Blabel_31, Blabel_33, Blabel_37, Blabel_44, Blabel_46, Blabel_70, Blabel_79, oi_0, oi_1, oi_12, oi_38, oi_39, oi_58, P_emit, P_expression, P_isWord, P_take, P_want]; try dsimp only
      refine ⟨rfl, rfl, rfl, (in_64 (by lia) (by lia)), rfl, rfl, (by decide), (⟨by lia, by lia⟩), fun w1 τ1 hq1 => ?_⟩
      obtain ⟨r1, rfl, hr1, e1⟩ := hq1
      obtain rfl := e1.symm
      rcases hr1 with rfl | rfl
      · dsimp only [Option.toList, List.cons_append, List.nil_append, Nat.beq, gI_sI, gI_sL, gI_sA, gI_sM, gL_sI, gL_sL, gL_sA, gL_sM, aI_sI, aI_sL, aI_sA, aI_sM, aL_sI, aL_sL, aL_sA, aL_sM, gI_em, gI_emx, gI_pu, gI_wh]
        refine ⟨rfl, (by decide), (⟨by lia, by lia⟩), fun w2 τ2 hq2 => ?_⟩
        obtain ⟨r2, rfl, hq2⟩ := hq2
        rcases hq2 with ⟨rfl, hp2, rfl⟩ | ⟨rfl, fa2, fb2, rfl⟩
        · dsimp only [Option.toList, List.cons_append, List.nil_append, Nat.beq, gI_sI, gI_sL, gI_sA, gI_sM, gL_sI, gL_sL, gL_sA, gL_sM, aI_sI, aI_sL, aI_sA, aI_sM, aL_sI, aL_sL, aL_sA, aL_sM, gI_em, gI_emx, gI_pu, gI_wh]
          try dsimp only [Option.toList, List.cons_append, List.nil_append, Nat.beq, gI_sI, gI_sL, gI_sA, gI_sM, gL_sI, gL_sL, gL_sA, gL_sM, aI_sI, aI_sL, aI_sA, aI_sM, aL_sI, aL_sL, aL_sA, aL_sM, gI_em, gI_emx, gI_pu, gI_wh] at hp2
          have g2 := hPJ.take (by assumption) rfl (kk - 6) (jj + 1) ⟨by omega, by omega⟩ ⟨by omega, by omega⟩
          refine ⟨fun h3 => ?_, fun h3 => absurd h3 (by decide)⟩
          clear h3
          apply hB
          dsimp only [rgo, rfd, Blabel, Nat.beq, rwp, rst, lv_args, rlk, rs1, rs2, rdl, rky, rct, rcs, rcd, rno, rsw, Value.category, List.filter, List.take, List.drop, List.reverse, List.reverseAux, List.cons_append, List.nil_append, Option.toList, Int.toNat, Int.reduceToNat, if_pos, if_neg, reduceIte, ↓reduceIte, Nat.reduceAdd, Nat.reduceEqDiff, Nat.reduceBEq, beq_self_eq_true, Bool.not_true, Bool.not_false, Bool.and_true, Bool.and_false, Bool.true_and, Bool.false_and, gI_sI, gI_sL, gI_sA, gI_sM, gL_sI, gL_sL, gL_sA, gL_sM, aI_sI, aI_sL, aI_sA, aI_sM, aL_sI, aL_sL, aL_sA, aL_sM, gI_em, gI_emx, gI_pu, gI_wh, Blabel_0, Blabel_31, Blabel_33, Blabel_37, Blabel_44, Blabel_46, Blabel_70, Blabel_79, oi_0, oi_1, oi_12, oi_38, oi_39, oi_58, P_emit, P_expression, P_isWord, P_take, P_want]; try dsimp only
          refine ⟨fun h4 => ?_, fun h4 => absurd h4 (by decide)⟩
          clear h4
          apply hB
          dsimp only [rgo, rfd, Blabel, Nat.beq, rwp, rst, lv_args, rlk, rs1, rs2, rdl, rky, rct, rcs, rcd, rno, rsw, Value.category, List.filter, List.take, List.drop, List.reverse, List.reverseAux, List.cons_append, List.nil_append, Option.toList, Int.toNat, Int.reduceToNat, if_pos, if_neg, reduceIte, ↓reduceIte, Nat.reduceAdd, Nat.reduceEqDiff, Nat.reduceBEq, beq_self_eq_true, Bool.not_true, Bool.not_false, Bool.and_true, Bool.and_false, Bool.true_and, Bool.false_and, gI_sI, gI_sL, gI_sA, gI_sM, gL_sI, gL_sL, gL_sA, gL_sM, aI_sI, aI_sL, aI_sA, aI_sM, aL_sI, aL_sL, aL_sA, aL_sM, gI_em, gI_emx, gI_pu, gI_wh, Blabel_0, Blabel_31, Blabel_33, Blabel_37, Blabel_44, Blabel_46, Blabel_70, Blabel_79, oi_0, oi_1, oi_12, oi_38, oi_39, oi_58, P_emit, P_expression, P_isWord, P_take, P_want]; try dsimp only
          refine ⟨rfl, (by decide), (⟨by lia, by lia⟩), fun w5 τ5 hq5 => ?_⟩
          obtain ⟨rfl, rfl⟩ := hq5
          dsimp only [Option.toList, List.cons_append, List.nil_append, Nat.beq, gI_sI, gI_sL, gI_sA, gI_sM, gL_sI, gL_sL, gL_sA, gL_sM, aI_sI, aI_sL, aI_sA, aI_sM, aL_sI, aL_sL, aL_sA, aL_sM, gI_em, gI_emx, gI_pu, gI_wh]
          apply hB
          dsimp only [rgo, rfd, Blabel, Nat.beq, rwp, rst, lv_args, rlk, rs1, rs2, rdl, rky, rct, rcs, rcd, rno, rsw, Value.category, List.filter, List.take, List.drop, List.reverse, List.reverseAux, List.cons_append, List.nil_append, Option.toList, Int.toNat, Int.reduceToNat, if_pos, if_neg, reduceIte, ↓reduceIte, Nat.reduceAdd, Nat.reduceEqDiff, Nat.reduceBEq, beq_self_eq_true, Bool.not_true, Bool.not_false, Bool.and_true, Bool.and_false, Bool.true_and, Bool.false_and, gI_sI, gI_sL, gI_sA, gI_sM, gL_sI, gL_sL, gL_sA, gL_sM, aI_sI, aI_sL, aI_sA, aI_sM, aL_sI, aL_sL, aL_sA, aL_sM, gI_em, gI_emx, gI_pu, gI_wh, Blabel_0, Blabel_31, Blabel_33, Blabel_37, Blabel_44, Blabel_46, Blabel_70, Blabel_79, oi_0, oi_1, oi_12, oi_38, oi_39, oi_58, P_emit, P_expression, P_isWord, P_take, P_want]; try dsimp only
          refine ⟨rfl, (by decide), (⟨by lia, by lia⟩), fun w6 τ6 hq6 => ?_⟩
          obtain ⟨r6, rfl, hq6⟩ := hq6
          rcases hq6 with ⟨rfl, hp6, hw6, rfl⟩ | ⟨rfl, fa6, fb6, rfl⟩
          · dsimp only [Option.toList, List.cons_append, List.nil_append, Nat.beq, gI_sI, gI_sL, gI_sA, gI_sM, gL_sI, gL_sL, gL_sA, gL_sM, aI_sI, aI_sL, aI_sA, aI_sM, aL_sI, aL_sL, aL_sA, aL_sM, gI_em, gI_emx, gI_pu, gI_wh]
            try dsimp only [Option.toList, List.cons_append, List.nil_append, Nat.beq, gI_sI, gI_sL, gI_sA, gI_sM, gL_sI, gL_sL, gL_sA, gL_sM, aI_sI, aI_sL, aI_sA, aI_sM, aL_sI, aL_sL, aL_sA, aL_sM, gI_em, gI_emx, gI_pu, gI_wh] at hp6
            refine ⟨Or.inr rfl, ?_⟩
            exact ⟨_, rfl, Or.inr ⟨rfl, by repeat (first | exact Fp.rf | (with_reducible refine Fp.vr ?_ ?_) | refine Fp.a ?_ rfl | refine Fp.i ?_ rfl | refine Fp.y ?_ rfl ⟨by lia, by lia⟩ | exact ⟨by lia, by lia⟩), fun mn k j h hk hj => PI.lbb h hk hj hop hxs (by assumption) (by assumption) _ nn.1, MF.of hMF rfl rfl rfl, by show gI σ 14 < gI σ 14 + 1 + 1; lia⟩⟩
          · dsimp only [Option.toList, List.cons_append, List.nil_append, Nat.beq, gI_sI, gI_sL, gI_sA, gI_sM, gL_sI, gL_sL, gL_sA, gL_sM, aI_sI, aI_sL, aI_sA, aI_sM, aL_sI, aL_sL, aL_sA, aL_sM, gI_em, gI_emx, gI_pu, gI_wh]
            refine ⟨Or.inl rfl, ?_⟩
            exact ⟨_, rfl, Or.inl ⟨rfl, by repeat (first | exact Fp.rf | (with_reducible refine Fp.vr ?_ ?_) | refine Fp.a ?_ rfl | refine Fp.i ?_ rfl | refine Fp.y ?_ rfl ⟨by lia, by lia⟩ | exact ⟨by lia, by lia⟩)⟩⟩
        · dsimp only [Option.toList, List.cons_append, List.nil_append, Nat.beq, gI_sI, gI_sL, gI_sA, gI_sM, gL_sI, gL_sL, gL_sA, gL_sM, aI_sI, aI_sL, aI_sA, aI_sM, aL_sI, aL_sL, aL_sA, aL_sM, gI_em, gI_emx, gI_pu, gI_wh]
          refine ⟨fun h7 => absurd h7 (by decide), fun h7 => ?_⟩
          clear h7
          apply hB
          dsimp only [rgo, rfd, Blabel, Nat.beq, rwp, rst, lv_args, rlk, rs1, rs2, rdl, rky, rct, rcs, rcd, rno, rsw, Value.category, List.filter, List.take, List.drop, List.reverse, List.reverseAux, List.cons_append, List.nil_append, Option.toList, Int.toNat, Int.reduceToNat, if_pos, if_neg, reduceIte, ↓reduceIte, Nat.reduceAdd, Nat.reduceEqDiff, Nat.reduceBEq, beq_self_eq_true, Bool.not_true, Bool.not_false, Bool.and_true, Bool.and_false, Bool.true_and, Bool.false_and, gI_sI, gI_sL, gI_sA, gI_sM, gL_sI, gL_sL, gL_sA, gL_sM, aI_sI, aI_sL, aI_sA, aI_sM, aL_sI, aL_sL, aL_sA, aL_sM, gI_em, gI_emx, gI_pu, gI_wh, Blabel_0, Blabel_31, Blabel_33, Blabel_37, Blabel_44, Blabel_46, Blabel_70, Blabel_79, oi_0, oi_1, oi_12, oi_38, oi_39, oi_58, P_emit, P_expression, P_isWord, P_take, P_want]; try dsimp only
          refine ⟨Or.inl rfl, ?_⟩
          exact ⟨_, rfl, Or.inl ⟨rfl, by repeat (first | exact Fp.rf | (with_reducible refine Fp.vr ?_ ?_) | refine Fp.a ?_ rfl | refine Fp.i ?_ rfl | refine Fp.y ?_ rfl ⟨by lia, by lia⟩ | exact ⟨by lia, by lia⟩)⟩⟩
      · dsimp only [Option.toList, List.cons_append, List.nil_append, Nat.beq, gI_sI, gI_sL, gI_sA, gI_sM, gL_sI, gL_sL, gL_sA, gL_sM, aI_sI, aI_sL, aI_sA, aI_sM, aL_sI, aL_sL, aL_sA, aL_sM, gI_em, gI_emx, gI_pu, gI_wh]
        refine ⟨rfl, (by decide), (⟨by lia, by lia⟩), fun w8 τ8 hq8 => ?_⟩
        obtain ⟨r8, rfl, hq8⟩ := hq8
        rcases hq8 with ⟨rfl, hp8, rfl⟩ | ⟨rfl, fa8, fb8, rfl⟩
        · dsimp only [Option.toList, List.cons_append, List.nil_append, Nat.beq, gI_sI, gI_sL, gI_sA, gI_sM, gL_sI, gL_sL, gL_sA, gL_sM, aI_sI, aI_sL, aI_sA, aI_sM, aL_sI, aL_sL, aL_sA, aL_sM, gI_em, gI_emx, gI_pu, gI_wh]
          try dsimp only [Option.toList, List.cons_append, List.nil_append, Nat.beq, gI_sI, gI_sL, gI_sA, gI_sM, gL_sI, gL_sL, gL_sA, gL_sM, aI_sI, aI_sL, aI_sA, aI_sM, aL_sI, aL_sL, aL_sA, aL_sM, gI_em, gI_emx, gI_pu, gI_wh] at hp8
          have g2 := hPJ.take (by assumption) rfl (kk - 6) (jj + 1) ⟨by omega, by omega⟩ ⟨by omega, by omega⟩
          refine ⟨fun h9 => ?_, fun h9 => absurd h9 (by decide)⟩
          clear h9
          apply hB
          dsimp only [rgo, rfd, Blabel, Nat.beq, rwp, rst, lv_args, rlk, rs1, rs2, rdl, rky, rct, rcs, rcd, rno, rsw, Value.category, List.filter, List.take, List.drop, List.reverse, List.reverseAux, List.cons_append, List.nil_append, Option.toList, Int.toNat, Int.reduceToNat, if_pos, if_neg, reduceIte, ↓reduceIte, Nat.reduceAdd, Nat.reduceEqDiff, Nat.reduceBEq, beq_self_eq_true, Bool.not_true, Bool.not_false, Bool.and_true, Bool.and_false, Bool.true_and, Bool.false_and, gI_sI, gI_sL, gI_sA, gI_sM, gL_sI, gL_sL, gL_sA, gL_sM, aI_sI, aI_sL, aI_sA, aI_sM, aL_sI, aL_sL, aL_sA, aL_sM, gI_em, gI_emx, gI_pu, gI_wh, Blabel_0, Blabel_31, Blabel_33, Blabel_37, Blabel_44, Blabel_46, Blabel_70, Blabel_79, oi_0, oi_1, oi_12, oi_38, oi_39, oi_58, P_emit, P_expression, P_isWord, P_take, P_want]; try dsimp only
          refine ⟨fun h10 => absurd h10 (by decide), fun h10 => ?_⟩
          clear h10
          apply hB
          dsimp only [rgo, rfd, Blabel, Nat.beq, rwp, rst, lv_args, rlk, rs1, rs2, rdl, rky, rct, rcs, rcd, rno, rsw, Value.category, List.filter, List.take, List.drop, List.reverse, List.reverseAux, List.cons_append, List.nil_append, Option.toList, Int.toNat, Int.reduceToNat, if_pos, if_neg, reduceIte, ↓reduceIte, Nat.reduceAdd, Nat.reduceEqDiff, Nat.reduceBEq, beq_self_eq_true, Bool.not_true, Bool.not_false, Bool.and_true, Bool.and_false, Bool.true_and, Bool.false_and, gI_sI, gI_sL, gI_sA, gI_sM, gL_sI, gL_sL, gL_sA, gL_sM, aI_sI, aI_sL, aI_sA, aI_sM, aL_sI, aL_sL, aL_sA, aL_sM, gI_em, gI_emx, gI_pu, gI_wh, Blabel_0, Blabel_31, Blabel_33, Blabel_37, Blabel_44, Blabel_46, Blabel_70, Blabel_79, oi_0, oi_1, oi_12, oi_38, oi_39, oi_58, P_emit, P_expression, P_isWord, P_take, P_want]; try dsimp only
          refine ⟨rfl, (by decide), (g2.xp), fun w11 τ11 hq11 => ?_⟩
          obtain ⟨r11, rfl, hq11⟩ := hq11
          rcases hq11 with ⟨rfl, hf11⟩ | ⟨rfl, hx11⟩
          · dsimp only [Option.toList, List.cons_append, List.nil_append, Nat.beq, gI_sI, gI_sL, gI_sA, gI_sM, gL_sI, gL_sL, gL_sA, gL_sM, aI_sI, aI_sL, aI_sA, aI_sM, aL_sI, aL_sL, aL_sA, aL_sM, gI_em, gI_emx, gI_pu, gI_wh]
            refine ⟨fun h12 => absurd h12 (by decide), fun h12 => ?_⟩
            clear h12
            apply hB
            dsimp only [rgo, rfd, Blabel, Nat.beq, rwp, rst, lv_args, rlk, rs1, rs2, rdl, rky, rct, rcs, rcd, rno, rsw, Value.category, List.filter, List.take, List.drop, List.reverse, List.reverseAux, List.cons_append, List.nil_append, Option.toList, Int.toNat, Int.reduceToNat, if_pos, if_neg, reduceIte, ↓reduceIte, Nat.reduceAdd, Nat.reduceEqDiff, Nat.reduceBEq, beq_self_eq_true, Bool.not_true, Bool.not_false, Bool.and_true, Bool.and_false, Bool.true_and, Bool.false_and, gI_sI, gI_sL, gI_sA, gI_sM, gL_sI, gL_sL, gL_sA, gL_sM, aI_sI, aI_sL, aI_sA, aI_sM, aL_sI, aL_sL, aL_sA, aL_sM, gI_em, gI_emx, gI_pu, gI_wh, Blabel_0, Blabel_31, Blabel_33, Blabel_37, Blabel_44, Blabel_46, Blabel_70, Blabel_79, oi_0, oi_1, oi_12, oi_38, oi_39, oi_58, P_emit, P_expression, P_isWord, P_take, P_want]; try dsimp only
            refine ⟨Or.inl rfl, ?_⟩
            exact ⟨_, rfl, Or.inl ⟨rfl, Fp.tr (by repeat (first | exact Fp.rf | (with_reducible refine Fp.vr ?_ ?_) | refine Fp.a ?_ rfl | refine Fp.i ?_ rfl | refine Fp.y ?_ rfl ⟨by lia, by lia⟩ | exact ⟨by lia, by lia⟩)) hf11.p⟩⟩
          · dsimp only [Option.toList, List.cons_append, List.nil_append, Nat.beq, gI_sI, gI_sL, gI_sA, gI_sM, gL_sI, gL_sL, gL_sA, gL_sM, aI_sI, aI_sL, aI_sA, aI_sM, aL_sI, aL_sL, aL_sA, aL_sM, gI_em, gI_emx, gI_pu, gI_wh]
            have hlt11 := t_lt hx11.2.2.1.1
            have hlz11 : gI σ 14 < gI τ11 14 := by have hlq : gI σ 14 + 1 < gI τ11 14 := hlt11; lia
            have hpe11 := g2.exp hx11 20 ⟨by omega, by omega⟩
            have nne11 := hpe11.nums
            refine ⟨fun h13 => ?_, fun h13 => absurd h13 (by decide)⟩
            clear h13
            apply hB
            dsimp only [rgo, rfd, Blabel, Nat.beq, rwp, rst, lv_args, rlk, rs1, rs2, rdl, rky, rct, rcs, rcd, rno, rsw, Value.category, List.filter, List.take, List.drop, List.reverse, List.reverseAux, List.cons_append, List.nil_append, Option.toList, Int.toNat, Int.reduceToNat, if_pos, if_neg, reduceIte, ↓reduceIte, Nat.reduceAdd, Nat.reduceEqDiff, Nat.reduceBEq, beq_self_eq_true, Bool.not_true, Bool.not_false, Bool.and_true, Bool.and_false, Bool.true_and, Bool.false_and, gI_sI, gI_sL, gI_sA, gI_sM, gL_sI, gL_sL, gL_sA, gL_sM, aI_sI, aI_sL, aI_sA, aI_sM, aL_sI, aL_sL, aL_sA, aL_sM, gI_em, gI_emx, gI_pu, gI_wh, Blabel_0, Blabel_31, Blabel_33, Blabel_37, Blabel_44, Blabel_46, Blabel_70, Blabel_79, oi_0, oi_1, oi_12, oi_38, oi_39, oi_58, P_emit, P_expression, P_isWord, P_take, P_want]; try dsimp only
            refine ⟨rfl, (by decide), (⟨by lia, by lia⟩), fun w14 τ14 hq14 => ?_⟩
            obtain ⟨rfl, rfl⟩ := hq14
            dsimp only [Option.toList, List.cons_append, List.nil_append, Nat.beq, gI_sI, gI_sL, gI_sA, gI_sM, gL_sI, gL_sL, gL_sA, gL_sM, aI_sI, aI_sL, aI_sA, aI_sM, aL_sI, aL_sL, aL_sA, aL_sM, gI_em, gI_emx, gI_pu, gI_wh]
            refine ⟨rfl, rfl, rfl, (in_21 (by lia) (by lia)), ?_⟩
            apply hB
            dsimp only [rgo, rfd, Blabel, Nat.beq, rwp, rst, lv_args, rlk, rs1, rs2, rdl, rky, rct, rcs, rcd, rno, rsw, Value.category, List.filter, List.take, List.drop, List.reverse, List.reverseAux, List.cons_append, List.nil_append, Option.toList, Int.toNat, Int.reduceToNat, if_pos, if_neg, reduceIte, ↓reduceIte, Nat.reduceAdd, Nat.reduceEqDiff, Nat.reduceBEq, beq_self_eq_true, Bool.not_true, Bool.not_false, Bool.and_true, Bool.and_false, Bool.true_and, Bool.false_and, gI_sI, gI_sL, gI_sA, gI_sM, gL_sI, gL_sL, gL_sA, gL_sM, aI_sI, aI_sL, aI_sA, aI_sM, aL_sI, aL_sL, aL_sA, aL_sM, gI_em, gI_emx, gI_pu, gI_wh, Blabel_0, Blabel_31, Blabel_33, Blabel_37, Blabel_44, Blabel_46, Blabel_70, Blabel_79, oi_0, oi_1, oi_12, oi_38, oi_39, oi_58, P_emit, P_expression, P_isWord, P_take, P_want]; try dsimp only
            refine ⟨rfl, (by decide), (⟨by lia, by lia⟩), fun w15 τ15 hq15 => ?_⟩
            obtain ⟨r15, rfl, hq15⟩ := hq15
            rcases hq15 with ⟨rfl, hp15, hw15, rfl⟩ | ⟨rfl, fa15, fb15, rfl⟩
            · dsimp only [Option.toList, List.cons_append, List.nil_append, Nat.beq, gI_sI, gI_sL, gI_sA, gI_sM, gL_sI, gL_sL, gL_sA, gL_sM, aI_sI, aI_sL, aI_sA, aI_sM, aL_sI, aL_sL, aL_sA, aL_sM, gI_em, gI_emx, gI_pu, gI_wh]
              try dsimp only [Option.toList, List.cons_append, List.nil_append, Nat.beq, gI_sI, gI_sL, gI_sA, gI_sM, gL_sI, gL_sL, gL_sA, gL_sM, aI_sI, aI_sL, aI_sA, aI_sM, aL_sI, aL_sL, aL_sA, aL_sM, gI_em, gI_emx, gI_pu, gI_wh] at hp15
              refine ⟨Or.inr rfl, ?_⟩
              exact ⟨_, rfl, Or.inr ⟨rfl, (Fp.tr (by repeat (first | exact Fp.rf | (with_reducible refine Fp.vr ?_ ?_) | refine Fp.a ?_ rfl | refine Fp.i ?_ rfl | refine Fp.y ?_ rfl ⟨by lia, by lia⟩ | exact ⟨by lia, by lia⟩)) hx11.1.p).tr (by repeat (first | exact Fp.rf | (with_reducible refine Fp.vr ?_ ?_) | refine Fp.a ?_ rfl | refine Fp.i ?_ rfl | refine Fp.y ?_ rfl ⟨by lia, by lia⟩ | exact ⟨by lia, by lia⟩)), fun mn k j h hk hj => PI.lba h hk hj hop hxs (by assumption) hx11 (by assumption) _ _ nn.1, MF.of (MF.ff hx11.1.f (MF.of hMF rfl rfl rfl)) rfl rfl rfl, by show gI σ 14 < gI τ11 14 + 1; lia⟩⟩
            · dsimp only [Option.toList, List.cons_append, List.nil_append, Nat.beq, gI_sI, gI_sL, gI_sA, gI_sM, gL_sI, gL_sL, gL_sA, gL_sM, aI_sI, aI_sL, aI_sA, aI_sM, aL_sI, aL_sL, aL_sA, aL_sM, gI_em, gI_emx, gI_pu, gI_wh]
              refine ⟨Or.inl rfl, ?_⟩
              exact ⟨_, rfl, Or.inl ⟨rfl, (Fp.tr (by repeat (first | exact Fp.rf | (with_reducible refine Fp.vr ?_ ?_) | refine Fp.a ?_ rfl | refine Fp.i ?_ rfl | refine Fp.y ?_ rfl ⟨by lia, by lia⟩ | exact ⟨by lia, by lia⟩)) hx11.1.p).tr (by repeat (first | exact Fp.rf | (with_reducible refine Fp.vr ?_ ?_) | refine Fp.a ?_ rfl | refine Fp.i ?_ rfl | refine Fp.y ?_ rfl ⟨by lia, by lia⟩ | exact ⟨by lia, by lia⟩))⟩⟩
        · dsimp only [Option.toList, List.cons_append, List.nil_append, Nat.beq, gI_sI, gI_sL, gI_sA, gI_sM, gL_sI, gL_sL, gL_sA, gL_sM, aI_sI, aI_sL, aI_sA, aI_sM, aL_sI, aL_sL, aL_sA, aL_sM, gI_em, gI_emx, gI_pu, gI_wh]
          refine ⟨fun h16 => absurd h16 (by decide), fun h16 => ?_⟩
          clear h16
          apply hB
          dsimp only [rgo, rfd, Blabel, Nat.beq, rwp, rst, lv_args, rlk, rs1, rs2, rdl, rky, rct, rcs, rcd, rno, rsw, Value.category, List.filter, List.take, List.drop, List.reverse, List.reverseAux, List.cons_append, List.nil_append, Option.toList, Int.toNat, Int.reduceToNat, if_pos, if_neg, reduceIte, ↓reduceIte, Nat.reduceAdd, Nat.reduceEqDiff, Nat.reduceBEq, beq_self_eq_true, Bool.not_true, Bool.not_false, Bool.and_true, Bool.and_false, Bool.true_and, Bool.false_and, gI_sI, gI_sL, gI_sA, gI_sM, gL_sI, gL_sL, gL_sA, gL_sM, aI_sI, aI_sL, aI_sA, aI_sM, aL_sI, aL_sL, aL_sA, aL_sM, gI_em, gI_emx, gI_pu, gI_wh, Blabel_0, Blabel_31, Blabel_33, Blabel_37, Blabel_44, Blabel_46, Blabel_70, Blabel_79, oi_0, oi_1, oi_12, oi_38, oi_39, oi_58, P_emit, P_expression, P_isWord, P_take, P_want]; try dsimp only
          refine ⟨Or.inl rfl, ?_⟩
          exact ⟨_, rfl, Or.inl ⟨rfl, by repeat (first | exact Fp.rf | (with_reducible refine Fp.vr ?_ ?_) | refine Fp.a ?_ rfl | refine Fp.i ?_ rfl | refine Fp.y ?_ rfl ⟨by lia, by lia⟩ | exact ⟨by lia, by lia⟩)⟩⟩
    next => exact hP.elim
theorem m_label (l : Launch) : RMet l 7 59 P_label Q_label := by
  refine RMet.by Blabel [(20, P_emit, Q_emit), (27, P_expression, Q_expression), (15, P_isWord, Q_isWord), (17, P_take, Q_take), (18, P_want, Q_want)] rolabel okBlabel (ctc (m_emit l) (by decide) (ctc (m_expression l) (by decide) (ctc (m_isWord l) (by decide) (ctc (m_take l) (by decide) (ctc (m_want l) (by decide) ct0))))) ?_ b_label
  · intro As σ hP
    unfold P_label at hP
    split at hP
    next => exact Nat.le_of_ble_eq_true rfl
    next => exact hP.elim
set_option maxRecDepth 100000 in
theorem e_label (l : Launch) : RMetE l 7 59 P_label Q_label := by
  refine RMetE.by Blabel [(20, P_emit, Q_emit), (27, P_expression, Q_expression), (15, P_isWord, Q_isWord), (17, P_take, Q_take), (18, P_want, Q_want)] rfl rfl rolabel okBlabel (ctEc (e_emit l) (by decide) (ctEc (e_expression l) (by decide) (ctEc (e_isWord l) (by decide) (ctEc (e_take l) (by decide) (ctEc (e_want l) (by decide) ctE0))))) ?_ b_label
  · intro As σ hP
    unfold P_label at hP
    split at hP
    next => exact Nat.le_of_ble_eq_true rfl
    next => exact hP.elim
def P_grouped : RP := fun As σ => match As with
  | [] => (∃ E s k j, PI σ E s k j) ∧ 0 < (gI σ 62)
  | _ => False
def Q_grouped : RQ := fun As σ w τ => match As with
  | [] => ∃ r : Int32, w = some (.int r) ∧ (r = 0 ∨ r = 1) ∧ τ = σ
  | _ => False
set_option maxRecDepth 100000 in
set_option maxHeartbeats 4000000 in
theorem b_grouped : Bod Bgrouped [] P_grouped Q_grouped := by
  · intro As σ hP G hB hW
    unfold P_grouped at hP
    split at hP
    next => 
      unfold Q_grouped at hB
      dsimp only at hB
      obtain ⟨⟨E, s, kk, jj, hPI⟩, hop⟩ := hP
      have nn := hPI.nums
      have htop := hPI.top hop
      have hkf := (hPI.2.2.2.2.1.2 (nT (aI σ 64 (nT (gI σ 62 - 1)))) (nT_lt htop.2.1.1 htop.2.1.2)).1
      have hkg : 0 ≤ aI σ 51 (aI σ 64 (gI σ 62 - 1).toNatClampNeg).toNatClampNeg ∧ aI σ 51 (aI σ 64 (gI σ 62 - 1).toNatClampNeg).toNatClampNeg ≤ gI σ 18 := hkf
      have hta : (0 ≤ aI σ 64 (gI σ 62 - 1).toNatClampNeg ∧ aI σ 64 (gI σ 62 - 1).toNatClampNeg < gI σ 49) := htop.2.1
      have loop : ∀ n : Nat, ∀ c v : Int32, (4000 - c.toInt).toNat = n → (0 ≤ c ∧ c ≤ gI σ 18) → (v = 0 ∨ v = 1) → G 21 [(0, .ref 1000), (1, .int (aI σ 64 (gI σ 62 - 1).toNatClampNeg)), (2, .int v), (3, .int c)] [] σ := by
        intro n
        induction n using Nat.strongRecOn with
        | ind n loop =>
          intro c v hn hc hv
          apply hB
          dsimp only [rgo, rfd, Bgrouped, Nat.beq, rwp, rst, lv_args, rlk, rs1, rs2, rdl, rky, rct, rcs, rcd, rno, rsw, Value.category, List.filter, List.take, List.drop, List.reverse, List.reverseAux, List.cons_append, List.nil_append, Option.toList, Int.toNat, Int.reduceToNat, if_pos, if_neg, reduceIte, ↓reduceIte, Nat.reduceAdd, Nat.reduceEqDiff, Nat.reduceBEq, beq_self_eq_true, Bool.not_true, Bool.not_false, Bool.and_true, Bool.and_false, Bool.true_and, Bool.false_and, gI_sI, gI_sL, gI_sA, gI_sM, gL_sI, gL_sL, gL_sA, gL_sM, aI_sI, aI_sL, aI_sA, aI_sM, aL_sI, aL_sL, aL_sA, aL_sM, Bgrouped_0, Bgrouped_21, Bgrouped_29, Bgrouped_33, Bgrouped_44, Bgrouped_55, Bgrouped_65, Bgrouped_69, Bgrouped_70, Bgrouped_77, oi_0, oi_1, oi_38, oi_39]; try dsimp only
          refine ⟨rfl, fun h1 => ?_, fun h1 => ?_⟩
          · apply hB
            dsimp only [rgo, rfd, Bgrouped, Nat.beq, rwp, rst, lv_args, rlk, rs1, rs2, rdl, rky, rct, rcs, rcd, rno, rsw, Value.category, List.filter, List.take, List.drop, List.reverse, List.reverseAux, List.cons_append, List.nil_append, Option.toList, Int.toNat, Int.reduceToNat, if_pos, if_neg, reduceIte, ↓reduceIte, Nat.reduceAdd, Nat.reduceEqDiff, Nat.reduceBEq, beq_self_eq_true, Bool.not_true, Bool.not_false, Bool.and_true, Bool.and_false, Bool.true_and, Bool.false_and, gI_sI, gI_sL, gI_sA, gI_sM, gL_sI, gL_sL, gL_sA, gL_sM, aI_sI, aI_sL, aI_sA, aI_sM, aL_sI, aL_sL, aL_sA, aL_sM, Bgrouped_0, Bgrouped_21, Bgrouped_29, Bgrouped_33, Bgrouped_44, Bgrouped_55, Bgrouped_65, Bgrouped_69, Bgrouped_70, Bgrouped_77, oi_0, oi_1, oi_38, oi_39]; try dsimp only
            refine ⟨(hv), ?_⟩
            exact ⟨_, rfl, hv, rfl⟩
          · apply hB
            dsimp only [rgo, rfd, Bgrouped, Nat.beq, rwp, rst, lv_args, rlk, rs1, rs2, rdl, rky, rct, rcs, rcd, rno, rsw, Value.category, List.filter, List.take, List.drop, List.reverse, List.reverseAux, List.cons_append, List.nil_append, Option.toList, Int.toNat, Int.reduceToNat, if_pos, if_neg, reduceIte, ↓reduceIte, Nat.reduceAdd, Nat.reduceEqDiff, Nat.reduceBEq, beq_self_eq_true, Bool.not_true, Bool.not_false, Bool.and_true, Bool.and_false, Bool.true_and, Bool.false_and, gI_sI, gI_sL, gI_sA, gI_sM, gL_sI, gL_sL, gL_sA, gL_sM, aI_sI, aI_sL, aI_sA, aI_sM, aL_sI, aL_sL, aL_sA, aL_sM, Bgrouped_0, Bgrouped_21, Bgrouped_29, Bgrouped_33, Bgrouped_44, Bgrouped_55, Bgrouped_65, Bgrouped_69, Bgrouped_70, Bgrouped_77, oi_0, oi_1, oi_38, oi_39]; try dsimp only
            refine ⟨fun h2 => ?_, fun h2 => ?_⟩
            · apply hB
              dsimp only [rgo, rfd, Bgrouped, Nat.beq, rwp, rst, lv_args, rlk, rs1, rs2, rdl, rky, rct, rcs, rcd, rno, rsw, Value.category, List.filter, List.take, List.drop, List.reverse, List.reverseAux, List.cons_append, List.nil_append, Option.toList, Int.toNat, Int.reduceToNat, if_pos, if_neg, reduceIte, ↓reduceIte, Nat.reduceAdd, Nat.reduceEqDiff, Nat.reduceBEq, beq_self_eq_true, Bool.not_true, Bool.not_false, Bool.and_true, Bool.and_false, Bool.true_and, Bool.false_and, gI_sI, gI_sL, gI_sA, gI_sM, gL_sI, gL_sL, gL_sA, gL_sM, aI_sI, aI_sL, aI_sA, aI_sM, aL_sI, aL_sL, aL_sA, aL_sM, Bgrouped_0, Bgrouped_21, Bgrouped_29, Bgrouped_33, Bgrouped_44, Bgrouped_55, Bgrouped_65, Bgrouped_69, Bgrouped_70, Bgrouped_77, oi_0, oi_1, oi_38, oi_39]; try dsimp only
              apply hB
              dsimp only [rgo, rfd, Bgrouped, Nat.beq, rwp, rst, lv_args, rlk, rs1, rs2, rdl, rky, rct, rcs, rcd, rno, rsw, Value.category, List.filter, List.take, List.drop, List.reverse, List.reverseAux, List.cons_append, List.nil_append, Option.toList, Int.toNat, Int.reduceToNat, if_pos, if_neg, reduceIte, ↓reduceIte, Nat.reduceAdd, Nat.reduceEqDiff, Nat.reduceBEq, beq_self_eq_true, Bool.not_true, Bool.not_false, Bool.and_true, Bool.and_false, Bool.true_and, Bool.false_and, gI_sI, gI_sL, gI_sA, gI_sM, gL_sI, gL_sL, gL_sA, gL_sM, aI_sI, aI_sL, aI_sA, aI_sM, aL_sI, aL_sL, aL_sA, aL_sM, Bgrouped_0, Bgrouped_21, Bgrouped_29, Bgrouped_33, Bgrouped_44, Bgrouped_55, Bgrouped_65, Bgrouped_69, Bgrouped_70, Bgrouped_77, oi_0, oi_1, oi_38, oi_39]; try dsimp only
              refine hW 21 [(0, .ref 1000), (1, .int (aI σ 64 (gI σ 62 - 1).toNatClampNeg)), (2, .int 1), (3, .int (c + 1))] _ _ _ (by simp) (loop _ ?_ (c + 1) 1 rfl ⟨by lia, by lia⟩ (Or.inr rfl))
              exact mlt4 hn (by lia) (by lia)
            · apply hB
              dsimp only [rgo, rfd, Bgrouped, Nat.beq, rwp, rst, lv_args, rlk, rs1, rs2, rdl, rky, rct, rcs, rcd, rno, rsw, Value.category, List.filter, List.take, List.drop, List.reverse, List.reverseAux, List.cons_append, List.nil_append, Option.toList, Int.toNat, Int.reduceToNat, if_pos, if_neg, reduceIte, ↓reduceIte, Nat.reduceAdd, Nat.reduceEqDiff, Nat.reduceBEq, beq_self_eq_true, Bool.not_true, Bool.not_false, Bool.and_true, Bool.and_false, Bool.true_and, Bool.false_and, gI_sI, gI_sL, gI_sA, gI_sM, gL_sI, gL_sL, gL_sA, gL_sM, aI_sI, aI_sL, aI_sA, aI_sM, aL_sI, aL_sL, aL_sA, aL_sM, Bgrouped_0, Bgrouped_21, Bgrouped_29, Bgrouped_33, Bgrouped_44, Bgrouped_55, Bgrouped_65, Bgrouped_69, Bgrouped_70, Bgrouped_77, oi_0, oi_1, oi_38, oi_39]; try dsimp only
              refine ⟨rfl, rfl, (in_19 (by lia) (by lia)), fun h3 => ?_, fun h3 => ?_⟩
              · apply hB
                dsimp only [rgo, rfd, Bgrouped, Nat.beq, rwp, rst, lv_args, rlk, rs1, rs2, rdl, rky, rct, rcs, rcd, rno, rsw, Value.category, List.filter, List.take, List.drop, List.reverse, List.reverseAux, List.cons_append, List.nil_append, Option.toList, Int.toNat, Int.reduceToNat, if_pos, if_neg, reduceIte, ↓reduceIte, Nat.reduceAdd, Nat.reduceEqDiff, Nat.reduceBEq, beq_self_eq_true, Bool.not_true, Bool.not_false, Bool.and_true, Bool.and_false, Bool.true_and, Bool.false_and, gI_sI, gI_sL, gI_sA, gI_sM, gL_sI, gL_sL, gL_sA, gL_sM, aI_sI, aI_sL, aI_sA, aI_sM, aL_sI, aL_sL, aL_sA, aL_sM, Bgrouped_0, Bgrouped_21, Bgrouped_29, Bgrouped_33, Bgrouped_44, Bgrouped_55, Bgrouped_65, Bgrouped_69, Bgrouped_70, Bgrouped_77, oi_0, oi_1, oi_38, oi_39]; try dsimp only
                refine ⟨rfl, rfl, (in_20 (by lia) (by lia)), fun h4 => ?_, fun h4 => ?_⟩
                · apply hB
                  dsimp only [rgo, rfd, Bgrouped, Nat.beq, rwp, rst, lv_args, rlk, rs1, rs2, rdl, rky, rct, rcs, rcd, rno, rsw, Value.category, List.filter, List.take, List.drop, List.reverse, List.reverseAux, List.cons_append, List.nil_append, Option.toList, Int.toNat, Int.reduceToNat, if_pos, if_neg, reduceIte, ↓reduceIte, Nat.reduceAdd, Nat.reduceEqDiff, Nat.reduceBEq, beq_self_eq_true, Bool.not_true, Bool.not_false, Bool.and_true, Bool.and_false, Bool.true_and, Bool.false_and, gI_sI, gI_sL, gI_sA, gI_sM, gL_sI, gL_sL, gL_sA, gL_sM, aI_sI, aI_sL, aI_sA, aI_sM, aL_sI, aL_sL, aL_sA, aL_sM, Bgrouped_0, Bgrouped_21, Bgrouped_29, Bgrouped_33, Bgrouped_44, Bgrouped_55, Bgrouped_65, Bgrouped_69, Bgrouped_70, Bgrouped_77, oi_0, oi_1, oi_38, oi_39]; try dsimp only
                  apply hB
                  dsimp only [rgo, rfd, Bgrouped, Nat.beq, rwp, rst, lv_args, rlk, rs1, rs2, rdl, rky, rct, rcs, rcd, rno, rsw, Value.category, List.filter, List.take, List.drop, List.reverse, List.reverseAux, List.cons_append, List.nil_append, Option.toList, Int.toNat, Int.reduceToNat, if_pos, if_neg, reduceIte, ↓reduceIte, Nat.reduceAdd, Nat.reduceEqDiff, Nat.reduceBEq, beq_self_eq_true, Bool.not_true, Bool.not_false, Bool.and_true, Bool.and_false, Bool.true_and, Bool.false_and, gI_sI, gI_sL, gI_sA, gI_sM, gL_sI, gL_sL, gL_sA, gL_sM, aI_sI, aI_sL, aI_sA, aI_sM, aL_sI, aL_sL, aL_sA, aL_sM, Bgrouped_0, Bgrouped_21, Bgrouped_29, Bgrouped_33, Bgrouped_44, Bgrouped_55, Bgrouped_65, Bgrouped_69, Bgrouped_70, Bgrouped_77, oi_0, oi_1, oi_38, oi_39]; try dsimp only
                  refine hW 21 [(0, .ref 1000), (1, .int (aI σ 64 (gI σ 62 - 1).toNatClampNeg)), (2, .int 0), (3, .int (c + 1))] _ _ _ (by simp) (loop _ ?_ (c + 1) 0 rfl ⟨by lia, by lia⟩ (Or.inl rfl))
                  exact mlt4 hn (by lia) (by lia)
                · apply hB
                  dsimp only [rgo, rfd, Bgrouped, Nat.beq, rwp, rst, lv_args, rlk, rs1, rs2, rdl, rky, rct, rcs, rcd, rno, rsw, Value.category, List.filter, List.take, List.drop, List.reverse, List.reverseAux, List.cons_append, List.nil_append, Option.toList, Int.toNat, Int.reduceToNat, if_pos, if_neg, reduceIte, ↓reduceIte, Nat.reduceAdd, Nat.reduceEqDiff, Nat.reduceBEq, beq_self_eq_true, Bool.not_true, Bool.not_false, Bool.and_true, Bool.and_false, Bool.true_and, Bool.false_and, gI_sI, gI_sL, gI_sA, gI_sM, gL_sI, gL_sL, gL_sA, gL_sM, aI_sI, aI_sL, aI_sA, aI_sM, aL_sI, aL_sL, aL_sA, aL_sM, Bgrouped_0, Bgrouped_21, Bgrouped_29, Bgrouped_33, Bgrouped_44, Bgrouped_55, Bgrouped_65, Bgrouped_69, Bgrouped_70, Bgrouped_77, oi_0, oi_1, oi_38, oi_39]; try dsimp only
                  apply hB
                  dsimp only [rgo, rfd, Bgrouped, Nat.beq, rwp, rst, lv_args, rlk, rs1, rs2, rdl, rky, rct, rcs, rcd, rno, rsw, Value.category, List.filter, List.take, List.drop, List.reverse, List.reverseAux, List.cons_append, List.nil_append, Option.toList, Int.toNat, Int.reduceToNat, if_pos, if_neg, reduceIte, ↓reduceIte, Nat.reduceAdd, Nat.reduceEqDiff, Nat.reduceBEq, beq_self_eq_true, Bool.not_true, Bool.not_false, Bool.and_true, Bool.and_false, Bool.true_and, Bool.false_and, gI_sI, gI_sL, gI_sA, gI_sM, gL_sI, gL_sL, gL_sA, gL_sM, aI_sI, aI_sL, aI_sA, aI_sM, aL_sI, aL_sL, aL_sA, aL_sM, Bgrouped_0, Bgrouped_21, Bgrouped_29, Bgrouped_33, Bgrouped_44, Bgrouped_55, Bgrouped_65, Bgrouped_69, Bgrouped_70, Bgrouped_77, oi_0, oi_1, oi_38, oi_39]; try dsimp only
                  refine hW 21 [(0, .ref 1000), (1, .int (aI σ 64 (gI σ 62 - 1).toNatClampNeg)), (2, .int 1), (3, .int (c + 1))] _ _ _ (by simp) (loop _ ?_ (c + 1) 1 rfl ⟨by lia, by lia⟩ (Or.inr rfl))
                  exact mlt4 hn (by lia) (by lia)
              · apply hB
                dsimp only [rgo, rfd, Bgrouped, Nat.beq, rwp, rst, lv_args, rlk, rs1, rs2, rdl, rky, rct, rcs, rcd, rno, rsw, Value.category, List.filter, List.take, List.drop, List.reverse, List.reverseAux, List.cons_append, List.nil_append, Option.toList, Int.toNat, Int.reduceToNat, if_pos, if_neg, reduceIte, ↓reduceIte, Nat.reduceAdd, Nat.reduceEqDiff, Nat.reduceBEq, beq_self_eq_true, Bool.not_true, Bool.not_false, Bool.and_true, Bool.and_false, Bool.true_and, Bool.false_and, gI_sI, gI_sL, gI_sA, gI_sM, gL_sI, gL_sL, gL_sA, gL_sM, aI_sI, aI_sL, aI_sA, aI_sM, aL_sI, aL_sL, aL_sA, aL_sM, Bgrouped_0, Bgrouped_21, Bgrouped_29, Bgrouped_33, Bgrouped_44, Bgrouped_55, Bgrouped_65, Bgrouped_69, Bgrouped_70, Bgrouped_77, oi_0, oi_1, oi_38, oi_39]; try dsimp only
                refine ⟨rfl, rfl, (in_19 (by lia) (by lia)), fun h5 => ?_, fun h5 => ?_⟩
                · apply hB
                  dsimp only [rgo, rfd, Bgrouped, Nat.beq, rwp, rst, lv_args, rlk, rs1, rs2, rdl, rky, rct, rcs, rcd, rno, rsw, Value.category, List.filter, List.take, List.drop, List.reverse, List.reverseAux, List.cons_append, List.nil_append, Option.toList, Int.toNat, Int.reduceToNat, if_pos, if_neg, reduceIte, ↓reduceIte, Nat.reduceAdd, Nat.reduceEqDiff, Nat.reduceBEq, beq_self_eq_true, Bool.not_true, Bool.not_false, Bool.and_true, Bool.and_false, Bool.true_and, Bool.false_and, gI_sI, gI_sL, gI_sA, gI_sM, gL_sI, gL_sL, gL_sA, gL_sM, aI_sI, aI_sL, aI_sA, aI_sM, aL_sI, aL_sL, aL_sA, aL_sM, Bgrouped_0, Bgrouped_21, Bgrouped_29, Bgrouped_33, Bgrouped_44, Bgrouped_55, Bgrouped_65, Bgrouped_69, Bgrouped_70, Bgrouped_77, oi_0, oi_1, oi_38, oi_39]; try dsimp only
                  apply hB
                  dsimp only [rgo, rfd, Bgrouped, Nat.beq, rwp, rst, lv_args, rlk, rs1, rs2, rdl, rky, rct, rcs, rcd, rno, rsw, Value.category, List.filter, List.take, List.drop, List.reverse, List.reverseAux, List.cons_append, List.nil_append, Option.toList, Int.toNat, Int.reduceToNat, if_pos, if_neg, reduceIte, ↓reduceIte, Nat.reduceAdd, Nat.reduceEqDiff, Nat.reduceBEq, beq_self_eq_true, Bool.not_true, Bool.not_false, Bool.and_true, Bool.and_false, Bool.true_and, Bool.false_and, gI_sI, gI_sL, gI_sA, gI_sM, gL_sI, gL_sL, gL_sA, gL_sM, aI_sI, aI_sL, aI_sA, aI_sM, aL_sI, aL_sL, aL_sA, aL_sM, Bgrouped_0, Bgrouped_21, Bgrouped_29, Bgrouped_33, Bgrouped_44, Bgrouped_55, Bgrouped_65, Bgrouped_69, Bgrouped_70, Bgrouped_77, oi_0, oi_1, oi_38, oi_39]; try dsimp only
                  refine hW 21 [(0, .ref 1000), (1, .int (aI σ 64 (gI σ 62 - 1).toNatClampNeg)), (2, .int 0), (3, .int (c + 1))] _ _ _ (by simp) (loop _ ?_ (c + 1) 0 rfl ⟨by lia, by lia⟩ (Or.inl rfl))
                  exact mlt4 hn (by lia) (by lia)
                · apply hB
                  dsimp only [rgo, rfd, Bgrouped, Nat.beq, rwp, rst, lv_args, rlk, rs1, rs2, rdl, rky, rct, rcs, rcd, rno, rsw, Value.category, List.filter, List.take, List.drop, List.reverse, List.reverseAux, List.cons_append, List.nil_append, Option.toList, Int.toNat, Int.reduceToNat, if_pos, if_neg, reduceIte, ↓reduceIte, Nat.reduceAdd, Nat.reduceEqDiff, Nat.reduceBEq, beq_self_eq_true, Bool.not_true, Bool.not_false, Bool.and_true, Bool.and_false, Bool.true_and, Bool.false_and, gI_sI, gI_sL, gI_sA, gI_sM, gL_sI, gL_sL, gL_sA, gL_sM, aI_sI, aI_sL, aI_sA, aI_sM, aL_sI, aL_sL, aL_sA, aL_sM, Bgrouped_0, Bgrouped_21, Bgrouped_29, Bgrouped_33, Bgrouped_44, Bgrouped_55, Bgrouped_65, Bgrouped_69, Bgrouped_70, Bgrouped_77, oi_0, oi_1, oi_38, oi_39]; try dsimp only
                  refine ⟨rfl, rfl, (in_20 (by lia) (by lia)), fun h6 => ?_, fun h6 => ?_⟩
                  · apply hB
                    dsimp only [rgo, rfd, Bgrouped, Nat.beq, rwp, rst, lv_args, rlk, rs1, rs2, rdl, rky, rct, rcs, rcd, rno, rsw, Value.category, List.filter, List.take, List.drop, List.reverse, List.reverseAux, List.cons_append, List.nil_append, Option.toList, Int.toNat, Int.reduceToNat, if_pos, if_neg, reduceIte, ↓reduceIte, Nat.reduceAdd, Nat.reduceEqDiff, Nat.reduceBEq, beq_self_eq_true, Bool.not_true, Bool.not_false, Bool.and_true, Bool.and_false, Bool.true_and, Bool.false_and, gI_sI, gI_sL, gI_sA, gI_sM, gL_sI, gL_sL, gL_sA, gL_sM, aI_sI, aI_sL, aI_sA, aI_sM, aL_sI, aL_sL, aL_sA, aL_sM, Bgrouped_0, Bgrouped_21, Bgrouped_29, Bgrouped_33, Bgrouped_44, Bgrouped_55, Bgrouped_65, Bgrouped_69, Bgrouped_70, Bgrouped_77, oi_0, oi_1, oi_38, oi_39]; try dsimp only
                    apply hB
                    dsimp only [rgo, rfd, Bgrouped, Nat.beq, rwp, rst, lv_args, rlk, rs1, rs2, rdl, rky, rct, rcs, rcd, rno, rsw, Value.category, List.filter, List.take, List.drop, List.reverse, List.reverseAux, List.cons_append, List.nil_append, Option.toList, Int.toNat, Int.reduceToNat, if_pos, if_neg, reduceIte, ↓reduceIte, Nat.reduceAdd, Nat.reduceEqDiff, Nat.reduceBEq, beq_self_eq_true, Bool.not_true, Bool.not_false, Bool.and_true, Bool.and_false, Bool.true_and, Bool.false_and, gI_sI, gI_sL, gI_sA, gI_sM, gL_sI, gL_sL, gL_sA, gL_sM, aI_sI, aI_sL, aI_sA, aI_sM, aL_sI, aL_sL, aL_sA, aL_sM, Bgrouped_0, Bgrouped_21, Bgrouped_29, Bgrouped_33, Bgrouped_44, Bgrouped_55, Bgrouped_65, Bgrouped_69, Bgrouped_70, Bgrouped_77, oi_0, oi_1, oi_38, oi_39]; try dsimp only
                    refine hW 21 [(0, .ref 1000), (1, .int (aI σ 64 (gI σ 62 - 1).toNatClampNeg)), (2, .int 0), (3, .int (c + 1))] _ _ _ (by simp) (loop _ ?_ (c + 1) 0 rfl ⟨by lia, by lia⟩ (Or.inl rfl))
                    exact mlt4 hn (by lia) (by lia)
                  · apply hB
                    dsimp only [rgo, rfd, Bgrouped, Nat.beq, rwp, rst, lv_args, rlk, rs1, rs2, rdl, rky, rct, rcs, rcd, rno, rsw, Value.category, List.filter, List.take, List.drop, List.reverse, List.reverseAux, List.cons_append, List.nil_append, Option.toList, Int.toNat, Int.reduceToNat, if_pos, if_neg, reduceIte, ↓reduceIte, Nat.reduceAdd, Nat.reduceEqDiff, Nat.reduceBEq, beq_self_eq_true, Bool.not_true, Bool.not_false, Bool.and_true, Bool.and_false, Bool.true_and, Bool.false_and, gI_sI, gI_sL, gI_sA, gI_sM, gL_sI, gL_sL, gL_sA, gL_sM, aI_sI, aI_sL, aI_sA, aI_sM, aL_sI, aL_sL, aL_sA, aL_sM, Bgrouped_0, Bgrouped_21, Bgrouped_29, Bgrouped_33, Bgrouped_44, Bgrouped_55, Bgrouped_65, Bgrouped_69, Bgrouped_70, Bgrouped_77, oi_0, oi_1, oi_38, oi_39]; try dsimp only
                    apply hB
                    dsimp only [rgo, rfd, Bgrouped, Nat.beq, rwp, rst, lv_args, rlk, rs1, rs2, rdl, rky, rct, rcs, rcd, rno, rsw, Value.category, List.filter, List.take, List.drop, List.reverse, List.reverseAux, List.cons_append, List.nil_append, Option.toList, Int.toNat, Int.reduceToNat, if_pos, if_neg, reduceIte, ↓reduceIte, Nat.reduceAdd, Nat.reduceEqDiff, Nat.reduceBEq, beq_self_eq_true, Bool.not_true, Bool.not_false, Bool.and_true, Bool.and_false, Bool.true_and, Bool.false_and, gI_sI, gI_sL, gI_sA, gI_sM, gL_sI, gL_sL, gL_sA, gL_sM, aI_sI, aI_sL, aI_sA, aI_sM, aL_sI, aL_sL, aL_sA, aL_sM, Bgrouped_0, Bgrouped_21, Bgrouped_29, Bgrouped_33, Bgrouped_44, Bgrouped_55, Bgrouped_65, Bgrouped_69, Bgrouped_70, Bgrouped_77, oi_0, oi_1, oi_38, oi_39]; try dsimp only
                    refine hW 21 [(0, .ref 1000), (1, .int (aI σ 64 (gI σ 62 - 1).toNatClampNeg)), (2, .int 1), (3, .int (c + 1))] _ _ _ (by simp) (loop _ ?_ (c + 1) 1 rfl ⟨by lia, by lia⟩ (Or.inr rfl))
                    exact mlt4 hn (by lia) (by lia)
      apply hB
      dsimp only [rgo, rfd, Bgrouped, Nat.beq, rwp, rst, lv_args, rlk, rs1, rs2, rdl, rky, rct, rcs, rcd, rno, rsw, Value.category, List.filter, List.take, List.drop, List.reverse, List.reverseAux, List.cons_append, List.nil_append, Option.toList, Int.toNat, Int.reduceToNat, if_pos, if_neg, reduceIte, ↓reduceIte, Nat.reduceAdd, Nat.reduceEqDiff, Nat.reduceBEq, beq_self_eq_true, Bool.not_true, Bool.not_false, Bool.and_true, Bool.and_false, Bool.true_and, Bool.false_and, gI_sI, gI_sL, gI_sA, gI_sM, gL_sI, gL_sL, gL_sA, gL_sM, aI_sI, aI_sL, aI_sA, aI_sM, aL_sI, aL_sL, aL_sA, aL_sM, Bgrouped_0, Bgrouped_21, Bgrouped_29, Bgrouped_33, Bgrouped_44, Bgrouped_55, Bgrouped_65, Bgrouped_69, Bgrouped_70, Bgrouped_77, oi_0, oi_1, oi_38, oi_39]; try dsimp only
      refine ⟨rfl, rfl, rfl, (in_64 (by lia) (by lia)), rfl, rfl, (in_51 (by lia) (by lia)), ?_⟩
      exact hW 21 [(0, .ref 1000), (1, .int (aI σ 64 (gI σ 62 - 1).toNatClampNeg)), (2, .int 0), (3, .int (aI σ 51 (aI σ 64 (gI σ 62 - 1).toNatClampNeg).toNatClampNeg))] _ _ _ (by simp) (loop _ _ 0 rfl hkg (Or.inl rfl))
    next => exact hP.elim
theorem m_grouped (l : Launch) : RMet l 1 45 P_grouped Q_grouped := by
  refine RMet.by Bgrouped [] rogrouped okBgrouped ct0 ?_ b_grouped
  · intro As σ hP
    unfold P_grouped at hP
    split at hP
    next => exact Nat.le_of_ble_eq_true rfl
    next => exact hP.elim
set_option maxRecDepth 100000 in
theorem e_grouped (l : Launch) : RMetE l 1 45 P_grouped Q_grouped := by
  refine RMetE.by Bgrouped [] rfl rfl rogrouped okBgrouped ctE0 ?_ b_grouped
  · intro As σ hP
    unfold P_grouped at hP
    split at hP
    next => exact Nat.le_of_ble_eq_true rfl
    next => exact hP.elim
def P_closeSwitch : RP := fun As σ => match As with
  | [] => ∃ mn k j, PI σ [] (FF σ, mn) k j ∧ k ≤ 12 ∧ 1 ≤ j ∧ MF σ ∧ 0 < (gI σ 62) ∧ aI σ 63 (gI σ 62 - 1).toNatClampNeg = 8
  | _ => False
def Q_closeSwitch : RQ := fun As σ w τ => match As with
  | [] => ∃ r : Int32, w = some (.int r) ∧ ((r = 0 ∧ Fp σ τ) ∨ (r = 1 ∧ Fp σ τ ∧ (∀ mn k j, PI σ [] (FF σ, mn) k j → k ≤ 12 → 1 ≤ j → PI τ [] (FF τ, mn) k j) ∧ MF τ ∧ (gI σ 14) < (gI τ 14)))
  | _ => False
set_option maxRecDepth 100000 in
set_option maxHeartbeats 4000000 in
theorem b_closeSwitch : Bod BcloseSwitch [(61, P_closed, Q_closed), (20, P_emit, Q_emit), (42, P_leave, Q_leave), (17, P_take, Q_take)] P_closeSwitch Q_closeSwitch := by
  · intro As σ hP G hB hW
    unfold P_closeSwitch at hP
    split at hP
    next => 
      unfold Q_closeSwitch at hB
      dsimp only at hB
      obtain ⟨mm, kk, jj, hPJ, hkk, hjj, hMF, hop, hxs⟩ := hP
      have nn := PI.nums hPJ
      have htop := hPJ.top hop
      have hta : (0 ≤ aI σ 64 (gI σ 62 - 1).toNatClampNeg ∧ aI σ 64 (gI σ 62 - 1).toNatClampNeg < gI σ 49) := htop.2.1
      have hst : 0 ≤ aI σ 65 (gI σ 62 - 1).toNatClampNeg ∧ aI σ 65 (gI σ 62 - 1).toNatClampNeg < gI σ 18 := htop.2.2 (by show ¬ aI σ 63 (gI σ 62 - 1).toNatClampNeg = 0; lia)
      apply hB
      dsimp only [rgo, rfd, BcloseSwitch, Nat.beq, rwp, rst, lv_args, rlk, rs1, rs2, rdl, rky, rct, rcs, rcd, rno, rsw, Value.category, List.filter, List.take, List.drop, List.reverse, List.reverseAux, List.cons_append, List.nil_append, Option.toList, Int.toNat, Int.reduceToNat, if_pos, if_neg, reduceIte, ↓reduceIte, Nat.reduceAdd, Nat.reduceEqDiff, Nat.reduceBEq, beq_self_eq_true, Bool.not_true, Bool.not_false, Bool.and_true, Bool.and_false, Bool.true_and, Bool.false_and, gI_sI, gI_sL, gI_sA, gI_sM, gL_sI, gL_sL, gL_sA, gL_sM, aI_sI, aI_sL, aI_sA, aI_sM, aL_sI, aL_sL, aL_sA, aL_sM, gI_em, gI_emx, gI_pu, gI_wh, aI_em37, aI_em38, aI_em39, aI_em40, aI_em41, aI_em43, aI_em44, aI_em45, aI_em46, aI_em47, aI_em48, aI_em50, aI_em51, aI_em52, aI_em53, aI_em54, aI_em55, aI_em56, aI_em57, aI_em58, aI_em59, aI_em60, aI_em61, aI_em63, aI_em64, aI_em65, BcloseSwitch_0, BcloseSwitch_40, BcloseSwitch_42, oi_0, oi_1, oi_40, P_closed, P_emit, P_leave, P_take]; try dsimp only
      refine ⟨rfl, rfl, rfl, (in_64 (by lia) (by lia)), rfl, rfl, rfl, (in_65 (by lia) (by lia)), rfl, rfl, (by decide), (⟨by lia, by lia⟩), fun w1 τ1 hq1 => ?_⟩
      obtain ⟨rfl, lf1, rfl⟩ := hq1
      dsimp only [Option.toList, List.cons_append, List.nil_append, Nat.beq, gI_sI, gI_sL, gI_sA, gI_sM, gL_sI, gL_sL, gL_sA, gL_sM, aI_sI, aI_sL, aI_sA, aI_sM, aL_sI, aL_sL, aL_sA, aL_sM, gI_em, gI_emx, gI_pu, gI_wh, aI_em37, aI_em38, aI_em39, aI_em40, aI_em41, aI_em43, aI_em44, aI_em45, aI_em46, aI_em47, aI_em48, aI_em50, aI_em51, aI_em52, aI_em53, aI_em54, aI_em55, aI_em56, aI_em57, aI_em58, aI_em59, aI_em60, aI_em61, aI_em63, aI_em64, aI_em65]
      refine ⟨rfl, (by decide), (⟨by lia, by lia⟩), fun w2 τ2 hq2 => ?_⟩
      obtain ⟨r2, rfl, hq2⟩ := hq2
      rcases hq2 with ⟨rfl, hp2, rfl⟩ | ⟨rfl, fa2, fb2, rfl⟩
      · dsimp only [Option.toList, List.cons_append, List.nil_append, Nat.beq, gI_sI, gI_sL, gI_sA, gI_sM, gL_sI, gL_sL, gL_sA, gL_sM, aI_sI, aI_sL, aI_sA, aI_sM, aL_sI, aL_sL, aL_sA, aL_sM, gI_em, gI_emx, gI_pu, gI_wh, aI_em37, aI_em38, aI_em39, aI_em40, aI_em41, aI_em43, aI_em44, aI_em45, aI_em46, aI_em47, aI_em48, aI_em50, aI_em51, aI_em52, aI_em53, aI_em54, aI_em55, aI_em56, aI_em57, aI_em58, aI_em59, aI_em60, aI_em61, aI_em63, aI_em64, aI_em65]
        try dsimp only [Option.toList, List.cons_append, List.nil_append, Nat.beq, gI_sI, gI_sL, gI_sA, gI_sM, gL_sI, gL_sL, gL_sA, gL_sM, aI_sI, aI_sL, aI_sA, aI_sM, aL_sI, aL_sL, aL_sA, aL_sM, gI_em, gI_emx, gI_pu, gI_wh, aI_em37, aI_em38, aI_em39, aI_em40, aI_em41, aI_em43, aI_em44, aI_em45, aI_em46, aI_em47, aI_em48, aI_em50, aI_em51, aI_em52, aI_em53, aI_em54, aI_em55, aI_em56, aI_em57, aI_em58, aI_em59, aI_em60, aI_em61, aI_em63, aI_em64, aI_em65] at hp2
        refine ⟨fun h3 => ?_, fun h3 => absurd h3 (by decide)⟩
        clear h3
        apply hB
        dsimp only [rgo, rfd, BcloseSwitch, Nat.beq, rwp, rst, lv_args, rlk, rs1, rs2, rdl, rky, rct, rcs, rcd, rno, rsw, Value.category, List.filter, List.take, List.drop, List.reverse, List.reverseAux, List.cons_append, List.nil_append, Option.toList, Int.toNat, Int.reduceToNat, if_pos, if_neg, reduceIte, ↓reduceIte, Nat.reduceAdd, Nat.reduceEqDiff, Nat.reduceBEq, beq_self_eq_true, Bool.not_true, Bool.not_false, Bool.and_true, Bool.and_false, Bool.true_and, Bool.false_and, gI_sI, gI_sL, gI_sA, gI_sM, gL_sI, gL_sL, gL_sA, gL_sM, aI_sI, aI_sL, aI_sA, aI_sM, aL_sI, aL_sL, aL_sA, aL_sM, gI_em, gI_emx, gI_pu, gI_wh, aI_em37, aI_em38, aI_em39, aI_em40, aI_em41, aI_em43, aI_em44, aI_em45, aI_em46, aI_em47, aI_em48, aI_em50, aI_em51, aI_em52, aI_em53, aI_em54, aI_em55, aI_em56, aI_em57, aI_em58, aI_em59, aI_em60, aI_em61, aI_em63, aI_em64, aI_em65, BcloseSwitch_0, BcloseSwitch_40, BcloseSwitch_42, oi_0, oi_1, oi_40, P_closed, P_emit, P_leave, P_take]; try dsimp only
        refine ⟨rfl, rfl, rfl, (in_60 (by lia) (by lia)), rfl, (by decide), (⟨by lia, by lia⟩), fun w4 τ4 hq4 => ?_⟩
        obtain ⟨rfl, rfl⟩ := hq4
        dsimp only [Option.toList, List.cons_append, List.nil_append, Nat.beq, gI_sI, gI_sL, gI_sA, gI_sM, gL_sI, gL_sL, gL_sA, gL_sM, aI_sI, aI_sL, aI_sA, aI_sM, aL_sI, aL_sL, aL_sA, aL_sM, gI_em, gI_emx, gI_pu, gI_wh, aI_em37, aI_em38, aI_em39, aI_em40, aI_em41, aI_em43, aI_em44, aI_em45, aI_em46, aI_em47, aI_em48, aI_em50, aI_em51, aI_em52, aI_em53, aI_em54, aI_em55, aI_em56, aI_em57, aI_em58, aI_em59, aI_em60, aI_em61, aI_em63, aI_em64, aI_em65]
        refine ⟨rfl, (in_55 (by lia) (by lia)), rfl, (by decide), (⟨mm, kk, jj, PI.cw hPJ hkk hjj hop hxs (by assumption), by omega, hop, MF.cw hMF, ⟨hst.1, by show aI σ 65 (gI σ 62 - 1).toNatClampNeg < gI σ 18 + 1; lia⟩, by show ¬ aI σ 63 (gI σ 62 - 1).toNatClampNeg = 0; lia⟩), fun w5 τ5 hq5 => ?_⟩
        obtain ⟨r5, rfl, hq5⟩ := hq5
        rcases hq5 with ⟨rfl, hf5⟩ | ⟨rfl, hf5, hx5, hm5, hle5⟩
        · dsimp only [Option.toList, List.cons_append, List.nil_append, Nat.beq, gI_sI, gI_sL, gI_sA, gI_sM, gL_sI, gL_sL, gL_sA, gL_sM, aI_sI, aI_sL, aI_sA, aI_sM, aL_sI, aL_sL, aL_sA, aL_sM, gI_em, gI_emx, gI_pu, gI_wh, aI_em37, aI_em38, aI_em39, aI_em40, aI_em41, aI_em43, aI_em44, aI_em45, aI_em46, aI_em47, aI_em48, aI_em50, aI_em51, aI_em52, aI_em53, aI_em54, aI_em55, aI_em56, aI_em57, aI_em58, aI_em59, aI_em60, aI_em61, aI_em63, aI_em64, aI_em65]
          refine ⟨Or.inl rfl, ?_⟩
          exact ⟨_, rfl, Or.inl ⟨rfl, Fp.tr (by repeat (first | exact Fp.rf | (with_reducible refine Fp.vr ?_ ?_) | refine Fp.a ?_ rfl | refine Fp.i ?_ rfl | refine Fp.y ?_ rfl ⟨by lia, by lia⟩ | exact ⟨by lia, by lia⟩)) hf5⟩⟩
        · dsimp only [Option.toList, List.cons_append, List.nil_append, Nat.beq, gI_sI, gI_sL, gI_sA, gI_sM, gL_sI, gL_sL, gL_sA, gL_sM, aI_sI, aI_sL, aI_sA, aI_sM, aL_sI, aL_sL, aL_sA, aL_sM, gI_em, gI_emx, gI_pu, gI_wh, aI_em37, aI_em38, aI_em39, aI_em40, aI_em41, aI_em43, aI_em44, aI_em45, aI_em46, aI_em47, aI_em48, aI_em50, aI_em51, aI_em52, aI_em53, aI_em54, aI_em55, aI_em56, aI_em57, aI_em58, aI_em59, aI_em60, aI_em61, aI_em63, aI_em64, aI_em65]
          refine ⟨Or.inr rfl, ?_⟩
          refine ⟨_, rfl, Or.inr ⟨rfl, Fp.tr (by repeat (first | exact Fp.rf | (with_reducible refine Fp.vr ?_ ?_) | refine Fp.a ?_ rfl | refine Fp.i ?_ rfl | refine Fp.y ?_ rfl ⟨by lia, by lia⟩ | exact ⟨by lia, by lia⟩)) hf5, fun mn k j h hk hj => hx5 mn k j (PI.cw h hk hj hop hxs (by assumption)) (by omega), hm5, ?_⟩⟩
          have hz : gI σ 14 + 1 ≤ gI τ5 14 := hle5
          lia
      · dsimp only [Option.toList, List.cons_append, List.nil_append, Nat.beq, gI_sI, gI_sL, gI_sA, gI_sM, gL_sI, gL_sL, gL_sA, gL_sM, aI_sI, aI_sL, aI_sA, aI_sM, aL_sI, aL_sL, aL_sA, aL_sM, gI_em, gI_emx, gI_pu, gI_wh, aI_em37, aI_em38, aI_em39, aI_em40, aI_em41, aI_em43, aI_em44, aI_em45, aI_em46, aI_em47, aI_em48, aI_em50, aI_em51, aI_em52, aI_em53, aI_em54, aI_em55, aI_em56, aI_em57, aI_em58, aI_em59, aI_em60, aI_em61, aI_em63, aI_em64, aI_em65]
        refine ⟨fun h6 => absurd h6 (by decide), fun h6 => ?_⟩
        clear h6
        apply hB
        dsimp only [rgo, rfd, BcloseSwitch, Nat.beq, rwp, rst, lv_args, rlk, rs1, rs2, rdl, rky, rct, rcs, rcd, rno, rsw, Value.category, List.filter, List.take, List.drop, List.reverse, List.reverseAux, List.cons_append, List.nil_append, Option.toList, Int.toNat, Int.reduceToNat, if_pos, if_neg, reduceIte, ↓reduceIte, Nat.reduceAdd, Nat.reduceEqDiff, Nat.reduceBEq, beq_self_eq_true, Bool.not_true, Bool.not_false, Bool.and_true, Bool.and_false, Bool.true_and, Bool.false_and, gI_sI, gI_sL, gI_sA, gI_sM, gL_sI, gL_sL, gL_sA, gL_sM, aI_sI, aI_sL, aI_sA, aI_sM, aL_sI, aL_sL, aL_sA, aL_sM, gI_em, gI_emx, gI_pu, gI_wh, aI_em37, aI_em38, aI_em39, aI_em40, aI_em41, aI_em43, aI_em44, aI_em45, aI_em46, aI_em47, aI_em48, aI_em50, aI_em51, aI_em52, aI_em53, aI_em54, aI_em55, aI_em56, aI_em57, aI_em58, aI_em59, aI_em60, aI_em61, aI_em63, aI_em64, aI_em65, BcloseSwitch_0, BcloseSwitch_40, BcloseSwitch_42, oi_0, oi_1, oi_40, P_closed, P_emit, P_leave, P_take]; try dsimp only
        refine ⟨Or.inl rfl, ?_⟩
        exact ⟨_, rfl, Or.inl ⟨rfl, by repeat (first | exact Fp.rf | (with_reducible refine Fp.vr ?_ ?_) | refine Fp.a ?_ rfl | refine Fp.i ?_ rfl | refine Fp.y ?_ rfl ⟨by lia, by lia⟩ | exact ⟨by lia, by lia⟩)⟩⟩
    next => exact hP.elim
theorem m_closeSwitch (l : Launch) : RMet l 10 60 P_closeSwitch Q_closeSwitch := by
  refine RMet.by BcloseSwitch [(61, P_closed, Q_closed), (20, P_emit, Q_emit), (42, P_leave, Q_leave), (17, P_take, Q_take)] rocloseSwitch okBcloseSwitch (ctc (m_closed l) (by decide) (ctc (m_emit l) (by decide) (ctc (m_leave l) (by decide) (ctc (m_take l) (by decide) ct0)))) ?_ b_closeSwitch
  · intro As σ hP
    unfold P_closeSwitch at hP
    split at hP
    next => exact Nat.le_of_ble_eq_true rfl
    next => exact hP.elim
set_option maxRecDepth 100000 in
theorem e_closeSwitch (l : Launch) : RMetE l 10 60 P_closeSwitch Q_closeSwitch := by
  refine RMetE.by BcloseSwitch [(61, P_closed, Q_closed), (20, P_emit, Q_emit), (42, P_leave, Q_leave), (17, P_take, Q_take)] rfl rfl rocloseSwitch okBcloseSwitch (ctEc (e_closed l) (by decide) (ctEc (e_emit l) (by decide) (ctEc (e_leave l) (by decide) (ctEc (e_take l) (by decide) ctE0)))) ?_ b_closeSwitch
  · intro As σ hP
    unfold P_closeSwitch at hP
    split at hP
    next => exact Nat.le_of_ble_eq_true rfl
    next => exact hP.elim
def P_named2 : RP := fun As σ => match As with
  | [.int t, .int on] => (∃ E s k j, PI σ E s k j) ∧ (0 ≤ t ∧ t ≤ 2000)
  | _ => False
def Q_named2 : RQ := fun As σ w τ => match As with
  | [.int t, .int on] => ∃ r : Int32, w = some (.int r) ∧ jq σ on r ∧ τ = σ
  | _ => False
set_option maxRecDepth 100000 in
set_option maxHeartbeats 4000000 in
theorem b_named2 : Bod Bnamed_ [(63, P_sameName, Q_sameName)] P_named2 Q_named2 := by
  · intro As σ hP G hB hW
    unfold P_named2 at hP
    split at hP
    next t on => 
      unfold Q_named2 at hB
      dsimp only at hB
      obtain ⟨⟨E, s, kk, jj, hPI⟩, ht⟩ := hP
      have nn := hPI.nums
      have loop : ∀ n : Nat, ∀ f : Int32, nT (f + 1) = n → (-1 ≤ f ∧ f < gI σ 62) → G 7 [(0, .ref 1000), (1, .int t), (2, .int on), (3, .int f)] [] σ := by
        intro n
        induction n using Nat.strongRecOn with
        | ind n loop =>
          intro f hn hf
          apply hB
          dsimp only [rgo, rfd, Bnamed_, Nat.beq, rwp, rst, lv_args, rlk, rs1, rs2, rdl, rky, rct, rcs, rcd, rno, rsw, Value.category, List.filter, List.take, List.drop, List.reverse, List.reverseAux, List.cons_append, List.nil_append, Option.toList, Int.toNat, Int.reduceToNat, if_pos, if_neg, reduceIte, ↓reduceIte, Nat.reduceAdd, Nat.reduceEqDiff, Nat.reduceBEq, beq_self_eq_true, Bool.not_true, Bool.not_false, Bool.and_true, Bool.and_false, Bool.true_and, Bool.false_and, gI_sI, gI_sL, gI_sA, gI_sM, gL_sI, gL_sL, gL_sA, gL_sM, aI_sI, aI_sL, aI_sA, aI_sM, aL_sI, aL_sL, aL_sA, aL_sM, Bnamed__0, Bnamed__7, Bnamed__11, Bnamed__22, Bnamed__41, Bnamed__44, Bnamed__48, Bnamed__55, Bnamed__65, Bnamed__76, Bnamed__78, Bnamed__86, Bnamed__92, Bnamed__99, Bnamed__110, Bnamed__112, Bnamed__113, Bnamed__119, oi_1, oi_4, oi_5, oi_6, oi_7, oi_m1, oi_m2, P_sameName]; try dsimp only
          refine ⟨fun h1 => ?_, fun h1 => ?_⟩
          · apply hB
            dsimp only [rgo, rfd, Bnamed_, Nat.beq, rwp, rst, lv_args, rlk, rs1, rs2, rdl, rky, rct, rcs, rcd, rno, rsw, Value.category, List.filter, List.take, List.drop, List.reverse, List.reverseAux, List.cons_append, List.nil_append, Option.toList, Int.toNat, Int.reduceToNat, if_pos, if_neg, reduceIte, ↓reduceIte, Nat.reduceAdd, Nat.reduceEqDiff, Nat.reduceBEq, beq_self_eq_true, Bool.not_true, Bool.not_false, Bool.and_true, Bool.and_false, Bool.true_and, Bool.false_and, gI_sI, gI_sL, gI_sA, gI_sM, gL_sI, gL_sL, gL_sA, gL_sM, aI_sI, aI_sL, aI_sA, aI_sM, aL_sI, aL_sL, aL_sA, aL_sM, Bnamed__0, Bnamed__7, Bnamed__11, Bnamed__22, Bnamed__41, Bnamed__44, Bnamed__48, Bnamed__55, Bnamed__65, Bnamed__76, Bnamed__78, Bnamed__86, Bnamed__92, Bnamed__99, Bnamed__110, Bnamed__112, Bnamed__113, Bnamed__119, oi_1, oi_4, oi_5, oi_6, oi_7, oi_m1, oi_m2, P_sameName]; try dsimp only
            refine ⟨trivial, ?_⟩
            exact ⟨_, rfl, Or.inl rfl, rfl⟩
          · have hfm := hPI.frm (f := f) (by lia) (by lia)
            apply hB
            dsimp only [rgo, rfd, Bnamed_, Nat.beq, rwp, rst, lv_args, rlk, rs1, rs2, rdl, rky, rct, rcs, rcd, rno, rsw, Value.category, List.filter, List.take, List.drop, List.reverse, List.reverseAux, List.cons_append, List.nil_append, Option.toList, Int.toNat, Int.reduceToNat, if_pos, if_neg, reduceIte, ↓reduceIte, Nat.reduceAdd, Nat.reduceEqDiff, Nat.reduceBEq, beq_self_eq_true, Bool.not_true, Bool.not_false, Bool.and_true, Bool.and_false, Bool.true_and, Bool.false_and, gI_sI, gI_sL, gI_sA, gI_sM, gL_sI, gL_sL, gL_sA, gL_sM, aI_sI, aI_sL, aI_sA, aI_sM, aL_sI, aL_sL, aL_sA, aL_sM, Bnamed__0, Bnamed__7, Bnamed__11, Bnamed__22, Bnamed__41, Bnamed__44, Bnamed__48, Bnamed__55, Bnamed__65, Bnamed__76, Bnamed__78, Bnamed__86, Bnamed__92, Bnamed__99, Bnamed__110, Bnamed__112, Bnamed__113, Bnamed__119, oi_1, oi_4, oi_5, oi_6, oi_7, oi_m1, oi_m2, P_sameName]; try dsimp only
            refine ⟨rfl, rfl, (in_63 (by lia) (by lia)), fun h2 => ?_, fun h2 => ?_⟩
            · apply hB
              dsimp only [rgo, rfd, Bnamed_, Nat.beq, rwp, rst, lv_args, rlk, rs1, rs2, rdl, rky, rct, rcs, rcd, rno, rsw, Value.category, List.filter, List.take, List.drop, List.reverse, List.reverseAux, List.cons_append, List.nil_append, Option.toList, Int.toNat, Int.reduceToNat, if_pos, if_neg, reduceIte, ↓reduceIte, Nat.reduceAdd, Nat.reduceEqDiff, Nat.reduceBEq, beq_self_eq_true, Bool.not_true, Bool.not_false, Bool.and_true, Bool.and_false, Bool.true_and, Bool.false_and, gI_sI, gI_sL, gI_sA, gI_sM, gL_sI, gL_sL, gL_sA, gL_sM, aI_sI, aI_sL, aI_sA, aI_sM, aL_sI, aL_sL, aL_sA, aL_sM, Bnamed__0, Bnamed__7, Bnamed__11, Bnamed__22, Bnamed__41, Bnamed__44, Bnamed__48, Bnamed__55, Bnamed__65, Bnamed__76, Bnamed__78, Bnamed__86, Bnamed__92, Bnamed__99, Bnamed__110, Bnamed__112, Bnamed__113, Bnamed__119, oi_1, oi_4, oi_5, oi_6, oi_7, oi_m1, oi_m2, P_sameName]; try dsimp only
              refine hW 7 [(0, .ref 1000), (1, .int t), (2, .int on), (3, .int (f + -1))] _ _ _ (by simp) (loop _ ?_ (f + -1) rfl ⟨by lia, by lia⟩)
              exact mdn hn (by lia) (by lia)
            · apply hB
              dsimp only [rgo, rfd, Bnamed_, Nat.beq, rwp, rst, lv_args, rlk, rs1, rs2, rdl, rky, rct, rcs, rcd, rno, rsw, Value.category, List.filter, List.take, List.drop, List.reverse, List.reverseAux, List.cons_append, List.nil_append, Option.toList, Int.toNat, Int.reduceToNat, if_pos, if_neg, reduceIte, ↓reduceIte, Nat.reduceAdd, Nat.reduceEqDiff, Nat.reduceBEq, beq_self_eq_true, Bool.not_true, Bool.not_false, Bool.and_true, Bool.and_false, Bool.true_and, Bool.false_and, gI_sI, gI_sL, gI_sA, gI_sM, gL_sI, gL_sL, gL_sA, gL_sM, aI_sI, aI_sL, aI_sA, aI_sM, aL_sI, aL_sL, aL_sA, aL_sM, Bnamed__0, Bnamed__7, Bnamed__11, Bnamed__22, Bnamed__41, Bnamed__44, Bnamed__48, Bnamed__55, Bnamed__65, Bnamed__76, Bnamed__78, Bnamed__86, Bnamed__92, Bnamed__99, Bnamed__110, Bnamed__112, Bnamed__113, Bnamed__119, oi_1, oi_4, oi_5, oi_6, oi_7, oi_m1, oi_m2, P_sameName]; try dsimp only
              refine ⟨rfl, rfl, rfl, (in_64 (by lia) (by lia)), rfl, (in_60 (by lia) (by lia)), rfl, (by decide), (⟨⟨by lia, by lia⟩, by lia, by lia⟩), fun w3 τ3 hq3 => ?_⟩
              obtain ⟨r3, rfl, hr3, e3⟩ := hq3
              obtain rfl := e3.symm
              rcases hr3 with rfl | rfl
              · dsimp only [Option.toList, List.cons_append, List.nil_append, Nat.beq, gI_sI, gI_sL, gI_sA, gI_sM, gL_sI, gL_sL, gL_sA, gL_sM, aI_sI, aI_sL, aI_sA, aI_sM, aL_sI, aL_sL, aL_sA, aL_sM]
                refine ⟨fun h4 => absurd h4 (by decide), fun h4 => ?_⟩
                clear h4
                apply hB
                dsimp only [rgo, rfd, Bnamed_, Nat.beq, rwp, rst, lv_args, rlk, rs1, rs2, rdl, rky, rct, rcs, rcd, rno, rsw, Value.category, List.filter, List.take, List.drop, List.reverse, List.reverseAux, List.cons_append, List.nil_append, Option.toList, Int.toNat, Int.reduceToNat, if_pos, if_neg, reduceIte, ↓reduceIte, Nat.reduceAdd, Nat.reduceEqDiff, Nat.reduceBEq, beq_self_eq_true, Bool.not_true, Bool.not_false, Bool.and_true, Bool.and_false, Bool.true_and, Bool.false_and, gI_sI, gI_sL, gI_sA, gI_sM, gL_sI, gL_sL, gL_sA, gL_sM, aI_sI, aI_sL, aI_sA, aI_sM, aL_sI, aL_sL, aL_sA, aL_sM, Bnamed__0, Bnamed__7, Bnamed__11, Bnamed__22, Bnamed__41, Bnamed__44, Bnamed__48, Bnamed__55, Bnamed__65, Bnamed__76, Bnamed__78, Bnamed__86, Bnamed__92, Bnamed__99, Bnamed__110, Bnamed__112, Bnamed__113, Bnamed__119, oi_1, oi_4, oi_5, oi_6, oi_7, oi_m1, oi_m2, P_sameName]; try dsimp only
                apply hB
                dsimp only [rgo, rfd, Bnamed_, Nat.beq, rwp, rst, lv_args, rlk, rs1, rs2, rdl, rky, rct, rcs, rcd, rno, rsw, Value.category, List.filter, List.take, List.drop, List.reverse, List.reverseAux, List.cons_append, List.nil_append, Option.toList, Int.toNat, Int.reduceToNat, if_pos, if_neg, reduceIte, ↓reduceIte, Nat.reduceAdd, Nat.reduceEqDiff, Nat.reduceBEq, beq_self_eq_true, Bool.not_true, Bool.not_false, Bool.and_true, Bool.and_false, Bool.true_and, Bool.false_and, gI_sI, gI_sL, gI_sA, gI_sM, gL_sI, gL_sL, gL_sA, gL_sM, aI_sI, aI_sL, aI_sA, aI_sM, aL_sI, aL_sL, aL_sA, aL_sM, Bnamed__0, Bnamed__7, Bnamed__11, Bnamed__22, Bnamed__41, Bnamed__44, Bnamed__48, Bnamed__55, Bnamed__65, Bnamed__76, Bnamed__78, Bnamed__86, Bnamed__92, Bnamed__99, Bnamed__110, Bnamed__112, Bnamed__113, Bnamed__119, oi_1, oi_4, oi_5, oi_6, oi_7, oi_m1, oi_m2, P_sameName]; try dsimp only
                refine hW 7 [(0, .ref 1000), (1, .int t), (2, .int on), (3, .int (f + -1))] _ _ _ (by simp) (loop _ ?_ (f + -1) rfl ⟨by lia, by lia⟩)
                exact mdn hn (by lia) (by lia)
              · dsimp only [Option.toList, List.cons_append, List.nil_append, Nat.beq, gI_sI, gI_sL, gI_sA, gI_sM, gL_sI, gL_sL, gL_sA, gL_sM, aI_sI, aI_sL, aI_sA, aI_sM, aL_sI, aL_sL, aL_sA, aL_sM]
                refine ⟨fun h5 => ?_, fun h5 => absurd h5 (by decide)⟩
                clear h5
                apply hB
                dsimp only [rgo, rfd, Bnamed_, Nat.beq, rwp, rst, lv_args, rlk, rs1, rs2, rdl, rky, rct, rcs, rcd, rno, rsw, Value.category, List.filter, List.take, List.drop, List.reverse, List.reverseAux, List.cons_append, List.nil_append, Option.toList, Int.toNat, Int.reduceToNat, if_pos, if_neg, reduceIte, ↓reduceIte, Nat.reduceAdd, Nat.reduceEqDiff, Nat.reduceBEq, beq_self_eq_true, Bool.not_true, Bool.not_false, Bool.and_true, Bool.and_false, Bool.true_and, Bool.false_and, gI_sI, gI_sL, gI_sA, gI_sM, gL_sI, gL_sL, gL_sA, gL_sM, aI_sI, aI_sL, aI_sA, aI_sM, aL_sI, aL_sL, aL_sA, aL_sM, Bnamed__0, Bnamed__7, Bnamed__11, Bnamed__22, Bnamed__41, Bnamed__44, Bnamed__48, Bnamed__55, Bnamed__65, Bnamed__76, Bnamed__78, Bnamed__86, Bnamed__92, Bnamed__99, Bnamed__110, Bnamed__112, Bnamed__113, Bnamed__119, oi_1, oi_4, oi_5, oi_6, oi_7, oi_m1, oi_m2, P_sameName]; try dsimp only
                refine ⟨fun h6 => ?_, fun h6 => ?_⟩
                · apply hB
                  dsimp only [rgo, rfd, Bnamed_, Nat.beq, rwp, rst, lv_args, rlk, rs1, rs2, rdl, rky, rct, rcs, rcd, rno, rsw, Value.category, List.filter, List.take, List.drop, List.reverse, List.reverseAux, List.cons_append, List.nil_append, Option.toList, Int.toNat, Int.reduceToNat, if_pos, if_neg, reduceIte, ↓reduceIte, Nat.reduceAdd, Nat.reduceEqDiff, Nat.reduceBEq, beq_self_eq_true, Bool.not_true, Bool.not_false, Bool.and_true, Bool.and_false, Bool.true_and, Bool.false_and, gI_sI, gI_sL, gI_sA, gI_sM, gL_sI, gL_sL, gL_sA, gL_sM, aI_sI, aI_sL, aI_sA, aI_sM, aL_sI, aL_sL, aL_sA, aL_sM, Bnamed__0, Bnamed__7, Bnamed__11, Bnamed__22, Bnamed__41, Bnamed__44, Bnamed__48, Bnamed__55, Bnamed__65, Bnamed__76, Bnamed__78, Bnamed__86, Bnamed__92, Bnamed__99, Bnamed__110, Bnamed__112, Bnamed__113, Bnamed__119, oi_1, oi_4, oi_5, oi_6, oi_7, oi_m1, oi_m2, P_sameName]; try dsimp only
                  refine ⟨rfl, fun h7 => ?_, fun h7 => ?_⟩
                  · apply hB
                    dsimp only [rgo, rfd, Bnamed_, Nat.beq, rwp, rst, lv_args, rlk, rs1, rs2, rdl, rky, rct, rcs, rcd, rno, rsw, Value.category, List.filter, List.take, List.drop, List.reverse, List.reverseAux, List.cons_append, List.nil_append, Option.toList, Int.toNat, Int.reduceToNat, if_pos, if_neg, reduceIte, ↓reduceIte, Nat.reduceAdd, Nat.reduceEqDiff, Nat.reduceBEq, beq_self_eq_true, Bool.not_true, Bool.not_false, Bool.and_true, Bool.and_false, Bool.true_and, Bool.false_and, gI_sI, gI_sL, gI_sA, gI_sM, gL_sI, gL_sL, gL_sA, gL_sM, aI_sI, aI_sL, aI_sA, aI_sM, aL_sI, aL_sL, aL_sA, aL_sM, Bnamed__0, Bnamed__7, Bnamed__11, Bnamed__22, Bnamed__41, Bnamed__44, Bnamed__48, Bnamed__55, Bnamed__65, Bnamed__76, Bnamed__78, Bnamed__86, Bnamed__92, Bnamed__99, Bnamed__110, Bnamed__112, Bnamed__113, Bnamed__119, oi_1, oi_4, oi_5, oi_6, oi_7, oi_m1, oi_m2, P_sameName]; try dsimp only
                    apply hB
                    dsimp only [rgo, rfd, Bnamed_, Nat.beq, rwp, rst, lv_args, rlk, rs1, rs2, rdl, rky, rct, rcs, rcd, rno, rsw, Value.category, List.filter, List.take, List.drop, List.reverse, List.reverseAux, List.cons_append, List.nil_append, Option.toList, Int.toNat, Int.reduceToNat, if_pos, if_neg, reduceIte, ↓reduceIte, Nat.reduceAdd, Nat.reduceEqDiff, Nat.reduceBEq, beq_self_eq_true, Bool.not_true, Bool.not_false, Bool.and_true, Bool.and_false, Bool.true_and, Bool.false_and, gI_sI, gI_sL, gI_sA, gI_sM, gL_sI, gL_sL, gL_sA, gL_sM, aI_sI, aI_sL, aI_sA, aI_sM, aL_sI, aL_sL, aL_sA, aL_sM, Bnamed__0, Bnamed__7, Bnamed__11, Bnamed__22, Bnamed__41, Bnamed__44, Bnamed__48, Bnamed__55, Bnamed__65, Bnamed__76, Bnamed__78, Bnamed__86, Bnamed__92, Bnamed__99, Bnamed__110, Bnamed__112, Bnamed__113, Bnamed__119, oi_1, oi_4, oi_5, oi_6, oi_7, oi_m1, oi_m2, P_sameName]; try dsimp only
                    refine ⟨fun h8 => absurd h8 (by decide), fun h8 => ?_⟩
                    clear h8
                    apply hB
                    dsimp only [rgo, rfd, Bnamed_, Nat.beq, rwp, rst, lv_args, rlk, rs1, rs2, rdl, rky, rct, rcs, rcd, rno, rsw, Value.category, List.filter, List.take, List.drop, List.reverse, List.reverseAux, List.cons_append, List.nil_append, Option.toList, Int.toNat, Int.reduceToNat, if_pos, if_neg, reduceIte, ↓reduceIte, Nat.reduceAdd, Nat.reduceEqDiff, Nat.reduceBEq, beq_self_eq_true, Bool.not_true, Bool.not_false, Bool.and_true, Bool.and_false, Bool.true_and, Bool.false_and, gI_sI, gI_sL, gI_sA, gI_sM, gL_sI, gL_sL, gL_sA, gL_sM, aI_sI, aI_sL, aI_sA, aI_sM, aL_sI, aL_sL, aL_sA, aL_sM, Bnamed__0, Bnamed__7, Bnamed__11, Bnamed__22, Bnamed__41, Bnamed__44, Bnamed__48, Bnamed__55, Bnamed__65, Bnamed__76, Bnamed__78, Bnamed__86, Bnamed__92, Bnamed__99, Bnamed__110, Bnamed__112, Bnamed__113, Bnamed__119, oi_1, oi_4, oi_5, oi_6, oi_7, oi_m1, oi_m2, P_sameName]; try dsimp only
                    refine ⟨fun h9 => absurd h9 (by decide), fun h9 => ?_⟩
                    clear h9
                    apply hB
                    dsimp only [rgo, rfd, Bnamed_, Nat.beq, rwp, rst, lv_args, rlk, rs1, rs2, rdl, rky, rct, rcs, rcd, rno, rsw, Value.category, List.filter, List.take, List.drop, List.reverse, List.reverseAux, List.cons_append, List.nil_append, Option.toList, Int.toNat, Int.reduceToNat, if_pos, if_neg, reduceIte, ↓reduceIte, Nat.reduceAdd, Nat.reduceEqDiff, Nat.reduceBEq, beq_self_eq_true, Bool.not_true, Bool.not_false, Bool.and_true, Bool.and_false, Bool.true_and, Bool.false_and, gI_sI, gI_sL, gI_sA, gI_sM, gL_sI, gL_sL, gL_sA, gL_sM, aI_sI, aI_sL, aI_sA, aI_sM, aL_sI, aL_sL, aL_sA, aL_sM, Bnamed__0, Bnamed__7, Bnamed__11, Bnamed__22, Bnamed__41, Bnamed__44, Bnamed__48, Bnamed__55, Bnamed__65, Bnamed__76, Bnamed__78, Bnamed__86, Bnamed__92, Bnamed__99, Bnamed__110, Bnamed__112, Bnamed__113, Bnamed__119, oi_1, oi_4, oi_5, oi_6, oi_7, oi_m1, oi_m2, P_sameName]; try dsimp only
                    refine ⟨fun h10 => ?_, fun h10 => absurd h10 (by decide)⟩
                    clear h10
                    apply hB
                    dsimp only [rgo, rfd, Bnamed_, Nat.beq, rwp, rst, lv_args, rlk, rs1, rs2, rdl, rky, rct, rcs, rcd, rno, rsw, Value.category, List.filter, List.take, List.drop, List.reverse, List.reverseAux, List.cons_append, List.nil_append, Option.toList, Int.toNat, Int.reduceToNat, if_pos, if_neg, reduceIte, ↓reduceIte, Nat.reduceAdd, Nat.reduceEqDiff, Nat.reduceBEq, beq_self_eq_true, Bool.not_true, Bool.not_false, Bool.and_true, Bool.and_false, Bool.true_and, Bool.false_and, gI_sI, gI_sL, gI_sA, gI_sM, gL_sI, gL_sL, gL_sA, gL_sM, aI_sI, aI_sL, aI_sA, aI_sM, aL_sI, aL_sL, aL_sA, aL_sM, Bnamed__0, Bnamed__7, Bnamed__11, Bnamed__22, Bnamed__41, Bnamed__44, Bnamed__48, Bnamed__55, Bnamed__65, Bnamed__76, Bnamed__78, Bnamed__86, Bnamed__92, Bnamed__99, Bnamed__110, Bnamed__112, Bnamed__113, Bnamed__119, oi_1, oi_4, oi_5, oi_6, oi_7, oi_m1, oi_m2, P_sameName]; try dsimp only
                    apply hB
                    dsimp only [rgo, rfd, Bnamed_, Nat.beq, rwp, rst, lv_args, rlk, rs1, rs2, rdl, rky, rct, rcs, rcd, rno, rsw, Value.category, List.filter, List.take, List.drop, List.reverse, List.reverseAux, List.cons_append, List.nil_append, Option.toList, Int.toNat, Int.reduceToNat, if_pos, if_neg, reduceIte, ↓reduceIte, Nat.reduceAdd, Nat.reduceEqDiff, Nat.reduceBEq, beq_self_eq_true, Bool.not_true, Bool.not_false, Bool.and_true, Bool.and_false, Bool.true_and, Bool.false_and, gI_sI, gI_sL, gI_sA, gI_sM, gL_sI, gL_sL, gL_sA, gL_sM, aI_sI, aI_sL, aI_sA, aI_sM, aL_sI, aL_sL, aL_sA, aL_sM, Bnamed__0, Bnamed__7, Bnamed__11, Bnamed__22, Bnamed__41, Bnamed__44, Bnamed__48, Bnamed__55, Bnamed__65, Bnamed__76, Bnamed__78, Bnamed__86, Bnamed__92, Bnamed__99, Bnamed__110, Bnamed__112, Bnamed__113, Bnamed__119, oi_1, oi_4, oi_5, oi_6, oi_7, oi_m1, oi_m2, P_sameName]; try dsimp only
                    refine ⟨trivial, ?_⟩
                    exact ⟨_, rfl, Or.inl rfl, rfl⟩
                  · have hfn := hPI.frm (f := f + 1) (by lia) (by lia)
                    apply hB
                    dsimp only [rgo, rfd, Bnamed_, Nat.beq, rwp, rst, lv_args, rlk, rs1, rs2, rdl, rky, rct, rcs, rcd, rno, rsw, Value.category, List.filter, List.take, List.drop, List.reverse, List.reverseAux, List.cons_append, List.nil_append, Option.toList, Int.toNat, Int.reduceToNat, if_pos, if_neg, reduceIte, ↓reduceIte, Nat.reduceAdd, Nat.reduceEqDiff, Nat.reduceBEq, beq_self_eq_true, Bool.not_true, Bool.not_false, Bool.and_true, Bool.and_false, Bool.true_and, Bool.false_and, gI_sI, gI_sL, gI_sA, gI_sM, gL_sI, gL_sL, gL_sA, gL_sM, aI_sI, aI_sL, aI_sA, aI_sM, aL_sI, aL_sL, aL_sA, aL_sM, Bnamed__0, Bnamed__7, Bnamed__11, Bnamed__22, Bnamed__41, Bnamed__44, Bnamed__48, Bnamed__55, Bnamed__65, Bnamed__76, Bnamed__78, Bnamed__86, Bnamed__92, Bnamed__99, Bnamed__110, Bnamed__112, Bnamed__113, Bnamed__119, oi_1, oi_4, oi_5, oi_6, oi_7, oi_m1, oi_m2, P_sameName]; try dsimp only
                    refine ⟨rfl, rfl, (in_63 (by lia) (by lia)), ?_⟩
                    apply hB
                    dsimp only [rgo, rfd, Bnamed_, Nat.beq, rwp, rst, lv_args, rlk, rs1, rs2, rdl, rky, rct, rcs, rcd, rno, rsw, Value.category, List.filter, List.take, List.drop, List.reverse, List.reverseAux, List.cons_append, List.nil_append, Option.toList, Int.toNat, Int.reduceToNat, if_pos, if_neg, reduceIte, ↓reduceIte, Nat.reduceAdd, Nat.reduceEqDiff, Nat.reduceBEq, beq_self_eq_true, Bool.not_true, Bool.not_false, Bool.and_true, Bool.and_false, Bool.true_and, Bool.false_and, gI_sI, gI_sL, gI_sA, gI_sM, gL_sI, gL_sL, gL_sA, gL_sM, aI_sI, aI_sL, aI_sA, aI_sM, aL_sI, aL_sL, aL_sA, aL_sM, Bnamed__0, Bnamed__7, Bnamed__11, Bnamed__22, Bnamed__41, Bnamed__44, Bnamed__48, Bnamed__55, Bnamed__65, Bnamed__76, Bnamed__78, Bnamed__86, Bnamed__92, Bnamed__99, Bnamed__110, Bnamed__112, Bnamed__113, Bnamed__119, oi_1, oi_4, oi_5, oi_6, oi_7, oi_m1, oi_m2, P_sameName]; try dsimp only
                    refine ⟨fun h11 => ?_, fun h11 => ?_⟩
                    · have hfn := hPI.frm (f := f + 1) (by lia) (by lia)
                      apply hB
                      dsimp only [rgo, rfd, Bnamed_, Nat.beq, rwp, rst, lv_args, rlk, rs1, rs2, rdl, rky, rct, rcs, rcd, rno, rsw, Value.category, List.filter, List.take, List.drop, List.reverse, List.reverseAux, List.cons_append, List.nil_append, Option.toList, Int.toNat, Int.reduceToNat, if_pos, if_neg, reduceIte, ↓reduceIte, Nat.reduceAdd, Nat.reduceEqDiff, Nat.reduceBEq, beq_self_eq_true, Bool.not_true, Bool.not_false, Bool.and_true, Bool.and_false, Bool.true_and, Bool.false_and, gI_sI, gI_sL, gI_sA, gI_sM, gL_sI, gL_sL, gL_sA, gL_sM, aI_sI, aI_sL, aI_sA, aI_sM, aL_sI, aL_sL, aL_sA, aL_sM, Bnamed__0, Bnamed__7, Bnamed__11, Bnamed__22, Bnamed__41, Bnamed__44, Bnamed__48, Bnamed__55, Bnamed__65, Bnamed__76, Bnamed__78, Bnamed__86, Bnamed__92, Bnamed__99, Bnamed__110, Bnamed__112, Bnamed__113, Bnamed__119, oi_1, oi_4, oi_5, oi_6, oi_7, oi_m1, oi_m2, P_sameName]; try dsimp only
                      refine ⟨rfl, rfl, (in_64 (by lia) (by lia)), ?_⟩
                      apply hB
                      dsimp only [rgo, rfd, Bnamed_, Nat.beq, rwp, rst, lv_args, rlk, rs1, rs2, rdl, rky, rct, rcs, rcd, rno, rsw, Value.category, List.filter, List.take, List.drop, List.reverse, List.reverseAux, List.cons_append, List.nil_append, Option.toList, Int.toNat, Int.reduceToNat, if_pos, if_neg, reduceIte, ↓reduceIte, Nat.reduceAdd, Nat.reduceEqDiff, Nat.reduceBEq, beq_self_eq_true, Bool.not_true, Bool.not_false, Bool.and_true, Bool.and_false, Bool.true_and, Bool.false_and, gI_sI, gI_sL, gI_sA, gI_sM, gL_sI, gL_sL, gL_sA, gL_sM, aI_sI, aI_sL, aI_sA, aI_sM, aL_sI, aL_sL, aL_sA, aL_sM, Bnamed__0, Bnamed__7, Bnamed__11, Bnamed__22, Bnamed__41, Bnamed__44, Bnamed__48, Bnamed__55, Bnamed__65, Bnamed__76, Bnamed__78, Bnamed__86, Bnamed__92, Bnamed__99, Bnamed__110, Bnamed__112, Bnamed__113, Bnamed__119, oi_1, oi_4, oi_5, oi_6, oi_7, oi_m1, oi_m2, P_sameName]; try dsimp only
                      refine ⟨trivial, ?_⟩
                      exact ⟨_, rfl, hPI.jf (f := f + 1) (by lia) (by lia) (by lia), rfl⟩
                    · apply hB
                      dsimp only [rgo, rfd, Bnamed_, Nat.beq, rwp, rst, lv_args, rlk, rs1, rs2, rdl, rky, rct, rcs, rcd, rno, rsw, Value.category, List.filter, List.take, List.drop, List.reverse, List.reverseAux, List.cons_append, List.nil_append, Option.toList, Int.toNat, Int.reduceToNat, if_pos, if_neg, reduceIte, ↓reduceIte, Nat.reduceAdd, Nat.reduceEqDiff, Nat.reduceBEq, beq_self_eq_true, Bool.not_true, Bool.not_false, Bool.and_true, Bool.and_false, Bool.true_and, Bool.false_and, gI_sI, gI_sL, gI_sA, gI_sM, gL_sI, gL_sL, gL_sA, gL_sM, aI_sI, aI_sL, aI_sA, aI_sM, aL_sI, aL_sL, aL_sA, aL_sM, Bnamed__0, Bnamed__7, Bnamed__11, Bnamed__22, Bnamed__41, Bnamed__44, Bnamed__48, Bnamed__55, Bnamed__65, Bnamed__76, Bnamed__78, Bnamed__86, Bnamed__92, Bnamed__99, Bnamed__110, Bnamed__112, Bnamed__113, Bnamed__119, oi_1, oi_4, oi_5, oi_6, oi_7, oi_m1, oi_m2, P_sameName]; try dsimp only
                      refine ⟨fun h12 => ?_, fun h12 => ?_⟩
                      · have hfn := hPI.frm (f := f + 1) (by lia) (by lia)
                        apply hB
                        dsimp only [rgo, rfd, Bnamed_, Nat.beq, rwp, rst, lv_args, rlk, rs1, rs2, rdl, rky, rct, rcs, rcd, rno, rsw, Value.category, List.filter, List.take, List.drop, List.reverse, List.reverseAux, List.cons_append, List.nil_append, Option.toList, Int.toNat, Int.reduceToNat, if_pos, if_neg, reduceIte, ↓reduceIte, Nat.reduceAdd, Nat.reduceEqDiff, Nat.reduceBEq, beq_self_eq_true, Bool.not_true, Bool.not_false, Bool.and_true, Bool.and_false, Bool.true_and, Bool.false_and, gI_sI, gI_sL, gI_sA, gI_sM, gL_sI, gL_sL, gL_sA, gL_sM, aI_sI, aI_sL, aI_sA, aI_sM, aL_sI, aL_sL, aL_sA, aL_sM, Bnamed__0, Bnamed__7, Bnamed__11, Bnamed__22, Bnamed__41, Bnamed__44, Bnamed__48, Bnamed__55, Bnamed__65, Bnamed__76, Bnamed__78, Bnamed__86, Bnamed__92, Bnamed__99, Bnamed__110, Bnamed__112, Bnamed__113, Bnamed__119, oi_1, oi_4, oi_5, oi_6, oi_7, oi_m1, oi_m2, P_sameName]; try dsimp only
                        refine ⟨rfl, rfl, (in_64 (by lia) (by lia)), ?_⟩
                        apply hB
                        dsimp only [rgo, rfd, Bnamed_, Nat.beq, rwp, rst, lv_args, rlk, rs1, rs2, rdl, rky, rct, rcs, rcd, rno, rsw, Value.category, List.filter, List.take, List.drop, List.reverse, List.reverseAux, List.cons_append, List.nil_append, Option.toList, Int.toNat, Int.reduceToNat, if_pos, if_neg, reduceIte, ↓reduceIte, Nat.reduceAdd, Nat.reduceEqDiff, Nat.reduceBEq, beq_self_eq_true, Bool.not_true, Bool.not_false, Bool.and_true, Bool.and_false, Bool.true_and, Bool.false_and, gI_sI, gI_sL, gI_sA, gI_sM, gL_sI, gL_sL, gL_sA, gL_sM, aI_sI, aI_sL, aI_sA, aI_sM, aL_sI, aL_sL, aL_sA, aL_sM, Bnamed__0, Bnamed__7, Bnamed__11, Bnamed__22, Bnamed__41, Bnamed__44, Bnamed__48, Bnamed__55, Bnamed__65, Bnamed__76, Bnamed__78, Bnamed__86, Bnamed__92, Bnamed__99, Bnamed__110, Bnamed__112, Bnamed__113, Bnamed__119, oi_1, oi_4, oi_5, oi_6, oi_7, oi_m1, oi_m2, P_sameName]; try dsimp only
                        refine ⟨trivial, ?_⟩
                        exact ⟨_, rfl, hPI.jf (f := f + 1) (by lia) (by lia) (by lia), rfl⟩
                      · apply hB
                        dsimp only [rgo, rfd, Bnamed_, Nat.beq, rwp, rst, lv_args, rlk, rs1, rs2, rdl, rky, rct, rcs, rcd, rno, rsw, Value.category, List.filter, List.take, List.drop, List.reverse, List.reverseAux, List.cons_append, List.nil_append, Option.toList, Int.toNat, Int.reduceToNat, if_pos, if_neg, reduceIte, ↓reduceIte, Nat.reduceAdd, Nat.reduceEqDiff, Nat.reduceBEq, beq_self_eq_true, Bool.not_true, Bool.not_false, Bool.and_true, Bool.and_false, Bool.true_and, Bool.false_and, gI_sI, gI_sL, gI_sA, gI_sM, gL_sI, gL_sL, gL_sA, gL_sM, aI_sI, aI_sL, aI_sA, aI_sM, aL_sI, aL_sL, aL_sA, aL_sM, Bnamed__0, Bnamed__7, Bnamed__11, Bnamed__22, Bnamed__41, Bnamed__44, Bnamed__48, Bnamed__55, Bnamed__65, Bnamed__76, Bnamed__78, Bnamed__86, Bnamed__92, Bnamed__99, Bnamed__110, Bnamed__112, Bnamed__113, Bnamed__119, oi_1, oi_4, oi_5, oi_6, oi_7, oi_m1, oi_m2, P_sameName]; try dsimp only
                        refine ⟨fun h13 => ?_, fun h13 => ?_⟩
                        · apply hB
                          dsimp only [rgo, rfd, Bnamed_, Nat.beq, rwp, rst, lv_args, rlk, rs1, rs2, rdl, rky, rct, rcs, rcd, rno, rsw, Value.category, List.filter, List.take, List.drop, List.reverse, List.reverseAux, List.cons_append, List.nil_append, Option.toList, Int.toNat, Int.reduceToNat, if_pos, if_neg, reduceIte, ↓reduceIte, Nat.reduceAdd, Nat.reduceEqDiff, Nat.reduceBEq, beq_self_eq_true, Bool.not_true, Bool.not_false, Bool.and_true, Bool.and_false, Bool.true_and, Bool.false_and, gI_sI, gI_sL, gI_sA, gI_sM, gL_sI, gL_sL, gL_sA, gL_sM, aI_sI, aI_sL, aI_sA, aI_sM, aL_sI, aL_sL, aL_sA, aL_sM, Bnamed__0, Bnamed__7, Bnamed__11, Bnamed__22, Bnamed__41, Bnamed__44, Bnamed__48, Bnamed__55, Bnamed__65, Bnamed__76, Bnamed__78, Bnamed__86, Bnamed__92, Bnamed__99, Bnamed__110, Bnamed__112, Bnamed__113, Bnamed__119, oi_1, oi_4, oi_5, oi_6, oi_7, oi_m1, oi_m2, P_sameName]; try dsimp only
                          apply hB
                          dsimp only [rgo, rfd, Bnamed_, Nat.beq, rwp, rst, lv_args, rlk, rs1, rs2, rdl, rky, rct, rcs, rcd, rno, rsw, Value.category, List.filter, List.take, List.drop, List.reverse, List.reverseAux, List.cons_append, List.nil_append, Option.toList, Int.toNat, Int.reduceToNat, if_pos, if_neg, reduceIte, ↓reduceIte, Nat.reduceAdd, Nat.reduceEqDiff, Nat.reduceBEq, beq_self_eq_true, Bool.not_true, Bool.not_false, Bool.and_true, Bool.and_false, Bool.true_and, Bool.false_and, gI_sI, gI_sL, gI_sA, gI_sM, gL_sI, gL_sL, gL_sA, gL_sM, aI_sI, aI_sL, aI_sA, aI_sM, aL_sI, aL_sL, aL_sA, aL_sM, Bnamed__0, Bnamed__7, Bnamed__11, Bnamed__22, Bnamed__41, Bnamed__44, Bnamed__48, Bnamed__55, Bnamed__65, Bnamed__76, Bnamed__78, Bnamed__86, Bnamed__92, Bnamed__99, Bnamed__110, Bnamed__112, Bnamed__113, Bnamed__119, oi_1, oi_4, oi_5, oi_6, oi_7, oi_m1, oi_m2, P_sameName]; try dsimp only
                          refine ⟨trivial, ?_⟩
                          exact ⟨_, rfl, Or.inl rfl, rfl⟩
                        · have hfn := hPI.frm (f := f + 1) (by lia) (by lia)
                          apply hB
                          dsimp only [rgo, rfd, Bnamed_, Nat.beq, rwp, rst, lv_args, rlk, rs1, rs2, rdl, rky, rct, rcs, rcd, rno, rsw, Value.category, List.filter, List.take, List.drop, List.reverse, List.reverseAux, List.cons_append, List.nil_append, Option.toList, Int.toNat, Int.reduceToNat, if_pos, if_neg, reduceIte, ↓reduceIte, Nat.reduceAdd, Nat.reduceEqDiff, Nat.reduceBEq, beq_self_eq_true, Bool.not_true, Bool.not_false, Bool.and_true, Bool.and_false, Bool.true_and, Bool.false_and, gI_sI, gI_sL, gI_sA, gI_sM, gL_sI, gL_sL, gL_sA, gL_sM, aI_sI, aI_sL, aI_sA, aI_sM, aL_sI, aL_sL, aL_sA, aL_sM, Bnamed__0, Bnamed__7, Bnamed__11, Bnamed__22, Bnamed__41, Bnamed__44, Bnamed__48, Bnamed__55, Bnamed__65, Bnamed__76, Bnamed__78, Bnamed__86, Bnamed__92, Bnamed__99, Bnamed__110, Bnamed__112, Bnamed__113, Bnamed__119, oi_1, oi_4, oi_5, oi_6, oi_7, oi_m1, oi_m2, P_sameName]; try dsimp only
                          refine ⟨rfl, rfl, (in_64 (by lia) (by lia)), ?_⟩
                          apply hB
                          dsimp only [rgo, rfd, Bnamed_, Nat.beq, rwp, rst, lv_args, rlk, rs1, rs2, rdl, rky, rct, rcs, rcd, rno, rsw, Value.category, List.filter, List.take, List.drop, List.reverse, List.reverseAux, List.cons_append, List.nil_append, Option.toList, Int.toNat, Int.reduceToNat, if_pos, if_neg, reduceIte, ↓reduceIte, Nat.reduceAdd, Nat.reduceEqDiff, Nat.reduceBEq, beq_self_eq_true, Bool.not_true, Bool.not_false, Bool.and_true, Bool.and_false, Bool.true_and, Bool.false_and, gI_sI, gI_sL, gI_sA, gI_sM, gL_sI, gL_sL, gL_sA, gL_sM, aI_sI, aI_sL, aI_sA, aI_sM, aL_sI, aL_sL, aL_sA, aL_sM, Bnamed__0, Bnamed__7, Bnamed__11, Bnamed__22, Bnamed__41, Bnamed__44, Bnamed__48, Bnamed__55, Bnamed__65, Bnamed__76, Bnamed__78, Bnamed__86, Bnamed__92, Bnamed__99, Bnamed__110, Bnamed__112, Bnamed__113, Bnamed__119, oi_1, oi_4, oi_5, oi_6, oi_7, oi_m1, oi_m2, P_sameName]; try dsimp only
                          refine ⟨trivial, ?_⟩
                          exact ⟨_, rfl, hPI.jf (f := f + 1) (by lia) (by lia) (by lia), rfl⟩
                · apply hB
                  dsimp only [rgo, rfd, Bnamed_, Nat.beq, rwp, rst, lv_args, rlk, rs1, rs2, rdl, rky, rct, rcs, rcd, rno, rsw, Value.category, List.filter, List.take, List.drop, List.reverse, List.reverseAux, List.cons_append, List.nil_append, Option.toList, Int.toNat, Int.reduceToNat, if_pos, if_neg, reduceIte, ↓reduceIte, Nat.reduceAdd, Nat.reduceEqDiff, Nat.reduceBEq, beq_self_eq_true, Bool.not_true, Bool.not_false, Bool.and_true, Bool.and_false, Bool.true_and, Bool.false_and, gI_sI, gI_sL, gI_sA, gI_sM, gL_sI, gL_sL, gL_sA, gL_sM, aI_sI, aI_sL, aI_sA, aI_sM, aL_sI, aL_sL, aL_sA, aL_sM, Bnamed__0, Bnamed__7, Bnamed__11, Bnamed__22, Bnamed__41, Bnamed__44, Bnamed__48, Bnamed__55, Bnamed__65, Bnamed__76, Bnamed__78, Bnamed__86, Bnamed__92, Bnamed__99, Bnamed__110, Bnamed__112, Bnamed__113, Bnamed__119, oi_1, oi_4, oi_5, oi_6, oi_7, oi_m1, oi_m2, P_sameName]; try dsimp only
                  refine ⟨rfl, rfl, (in_64 (by lia) (by lia)), trivial, ?_⟩
                  exact ⟨_, rfl, hPI.jf7 (by lia) (by lia) (by lia) (by lia), rfl⟩
      apply hB
      dsimp only [rgo, rfd, Bnamed_, Nat.beq, rwp, rst, lv_args, rlk, rs1, rs2, rdl, rky, rct, rcs, rcd, rno, rsw, Value.category, List.filter, List.take, List.drop, List.reverse, List.reverseAux, List.cons_append, List.nil_append, Option.toList, Int.toNat, Int.reduceToNat, if_pos, if_neg, reduceIte, ↓reduceIte, Nat.reduceAdd, Nat.reduceEqDiff, Nat.reduceBEq, beq_self_eq_true, Bool.not_true, Bool.not_false, Bool.and_true, Bool.and_false, Bool.true_and, Bool.false_and, gI_sI, gI_sL, gI_sA, gI_sM, gL_sI, gL_sL, gL_sA, gL_sM, aI_sI, aI_sL, aI_sA, aI_sM, aL_sI, aL_sL, aL_sA, aL_sM, Bnamed__0, Bnamed__7, Bnamed__11, Bnamed__22, Bnamed__41, Bnamed__44, Bnamed__48, Bnamed__55, Bnamed__65, Bnamed__76, Bnamed__78, Bnamed__86, Bnamed__92, Bnamed__99, Bnamed__110, Bnamed__112, Bnamed__113, Bnamed__119, oi_1, oi_4, oi_5, oi_6, oi_7, oi_m1, oi_m2, P_sameName]; try dsimp only
      refine ⟨rfl, ?_⟩
      exact hW 7 [(0, .ref 1000), (1, .int t), (2, .int on), (3, .int (gI σ 62 - 1))] _ _ _ (by simp) (loop _ _ rfl ⟨by lia, by lia⟩)
    next => exact hP.elim
theorem m_named2 (l : Launch) : RMet l 2 64 P_named2 Q_named2 := by
  refine RMet.by Bnamed_ [(63, P_sameName, Q_sameName)] ronamed_ okBnamed_ (ctc (m_sameName l) (by decide) ct0) ?_ b_named2
  · intro As σ hP
    unfold P_named2 at hP
    split at hP
    next => exact Nat.le_of_ble_eq_true rfl
    next => exact hP.elim
set_option maxRecDepth 100000 in
theorem e_named2 (l : Launch) : RMetE l 2 64 P_named2 Q_named2 := by
  refine RMetE.by Bnamed_ [(63, P_sameName, Q_sameName)] rfl rfl ronamed_ okBnamed_ (ctEc (e_sameName l) (by decide) ctE0) ?_ b_named2
  · intro As σ hP
    unfold P_named2 at hP
    split at hP
    next => exact Nat.le_of_ble_eq_true rfl
    next => exact hP.elim

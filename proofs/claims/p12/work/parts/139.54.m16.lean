theorem aI_em22 {σ : RS} {o a t : Int32} : aI (em σ o a t) 22 = upd (aI σ 22) (gI σ 18).toNatClampNeg t := rfl
/-- a code whose cB is set behind it -/
theorem PI.cbm {σ : RS} {E E' : List Nat} {s s' : SS} {k j : Int} (h : PI σ E s k j) (o a b t : Int32) (ho : 19 ≤ o ∧ o ≤ 54) (ht : 0 ≤ t ∧ t ≤ 500) (hz : ksl (nT o) = 0) (hka : kop (nT o) = true → 0 ≤ a ∧ a < gI σ 49) (h22 : o = 22 → 0 ≤ a ∧ a < 60) (h54 : o = 54 → 0 ≤ a ∧ a ≤ 9) (h46 : (o = 46 ∨ o = 47) → a = -2 ∨ (0 ≤ a ∧ a < gI σ 49)) (hup : kpu (nT o) = true → ∀ c, c < nT (gI σ 18) → kpu (nT (aI σ 19 c)) = true → aI σ 20 c ≠ a) (he : eSt (nT o) a b E = some E') (hs : sSt (nT o) a (nT (gI σ 18)) s = some s') (hk : k + 1 ≤ 20) (hpl : opl o := by decide) (hzh : zh s.1 → o = 21 ∨ o = 31 ∨ o = 35 := by first | exact fun _ => Or.inl rfl | exact fun _ => Or.inr (Or.inl rfl) | exact fun _ => Or.inr (Or.inr rfl) | (intro z; simp [zh] at z; done)) : PI (sA (em σ o a t) 21 (upd (aI (em σ o a t) 21) (gI σ 18).toNatClampNeg b)) E' s' (k + 1) j :=
  h.app o a b t t t ho ht ht ht hka h22 h54 h46 hup he hs hk (fun r q1 q2 => Or.inl ⟨(aI_ne (by omega)).trans (aI_em (by omega)), by omega⟩) hpl (hzh := hzh)
def p0 (σ : RS) : RS := em (sI (em σ 20 0 (gI σ 14)) 14 (gI σ 14 + 1)) 45 (gI σ 18) (upd (aI σ 22) (nT (gI σ 18)) (gI σ 14) (nT (gI σ 18)))
theorem PI.pl0 {σ : RS} {mn : Nat} {k j : Int} (h : PI σ [] (FF σ, mn) k j) (hk : k ≤ 18) (hp : gI σ 14 < 500) : PI (p0 σ) [] (FF (p0 σ), mn) (k - 4) (j + 1) := by
  have hj0 := h.1.2.2.2.2.2.2
  have nn := h.nums
  have b1 := h.step (gI σ 14) nn.1 (by omega)
  have b2 := b1.take hp rfl (k - 5) (j + 1) ⟨by omega, by omega⟩ ⟨by omega, by omega⟩
  have b3 := b2.ends (a := gI σ 18) (upd (aI σ 22) (nT (gI σ 18)) (gI σ 14) (nT (gI σ 18))) (by rw [upd_eq]; exact nn.1) (by omega)
  have b4 := b3.wk (k - 4) (j + 1) ⟨by omega, by omega⟩ ⟨by omega, by omega⟩
  unfold p0
  rw [FF_em, FF_sI (k := 14) (by omega), FF_em]
  exact b4
def p1 (τ : RS) (P a t : Int32) : RS := em (sI (em τ 21 a t) 14 (gI τ 14 + 1)) 45 P (upd (aI τ 22) (nT (gI τ 18)) t (nT P))
theorem PI.pl1 {σ τ : RS} {mn : Nat} {k j : Int} (h : PI σ [] (FF σ, mn) k j) (hk : k ≤ 18) (hx : XE (em σ 20 0 (gI σ 14)) τ) (a t : Int32) (ht : 0 ≤ t ∧ t ≤ 500) (hp : gI τ 14 < 500) : PI (p1 τ (gI σ 18) a t) [] (FF (p1 τ (gI σ 18) a t), mn) (k - 4) (j + 1) := by
  have hj0 := h.1.2.2.2.2.2.2
  have nn := h.nums
  have b1 := h.step (gI σ 14) nn.1 (by omega)
  have b2 := b1.exp hx (k - 1) ⟨by omega, by omega⟩
  have b3 := b2.pop a t ht (by omega)
  have b4 := b3.take hp rfl (k - 6) (j + 1) ⟨by omega, by omega⟩ ⟨by omega, by omega⟩
  have b5 := b4.ends (a := gI σ 18) (upd (aI τ 22) (nT (gI τ 18)) t (nT (gI σ 18))) (b4.tok (c := nT (gI σ 18)) (by simp)).2 (by omega)
  have b6 := b5.wk (k - 4) (j + 1) ⟨by omega, by omega⟩ ⟨by omega, by omega⟩
  unfold p1
  rw [FF_em, FF_sI (k := 14) (by omega), FF_em, FF_ff hx.1.f, FF_em]
  exact b6
def cS (σ : RS) (p : Int32) : RS := sI (sI (em σ 45 p (aI σ 22 (nT p))) 62 (gI σ 62 - 1)) 17 (gI σ 17 - 1)
theorem FF_cS {σ : RS} {p : Int32} : FF (cS σ p) = Fs (aI σ 63) (aI σ 64) (aI σ 65) (nT (gI σ 62 - 1)) := FF_of (σ := sI σ 62 (gI σ 62 - 1)) rfl rfl rfl rfl
theorem PI.cs {σ : RS} {p : Int32} {mn : Nat} {k j : Int} (h : PI σ [] ((20, nT p) :: Fs (aI σ 63) (aI σ 64) (aI σ 65) (nT (gI σ 62 - 1)), mn) k j) (hk : k ≤ 18) (hop : 0 < gI σ 62) : PI (cS σ p) [] (FF (cS σ p), mn) k j := by
  have hj0 := h.1.2.2.2.2.2.2
  have b1 := h.ends (a := p) (aI σ 22 (nT p)) (h.tok (c := nT p) (by simp)).2 (by omega)
  have b2 := b1.popl hop
  rw [FF_cS]
  exact b2.wk k j ⟨by omega, by omega⟩ ⟨by omega, by omega⟩
theorem MF.cs {σ : RS} {p : Int32} (h : MF σ) (hop : 0 < gI σ 62) (hs : ¬ aI σ 63 (nT (gI σ 62 - 1)) = 0) : MF (cS σ p) := MF.pop h hop hs rfl rfl rfl
/-- return, throw -/
def g0 (X : RS) (o a b t P : Int32) : RS := em (sI (sA (em X o a t) 21 (upd (aI (em X o a t) 21) (gI X 18).toNatClampNeg b)) 14 (gI X 14 + 1)) 45 P t
theorem FF_g0 {X : RS} {o a b t P : Int32} : FF (g0 X o a b t P) = FF X := by
  unfold g0
  rw [FF_em, FF_sI (k := 14) (by omega), FF_sA (k := 21) (by omega), FF_em]
theorem PI.g0x {X : RS} {E : List Nat} {o a b t P : Int32} {r : List (Nat × Nat)} {mn : Nat} {k j : Int} (h : PI X E ((20, nT P) :: r, mn) k j) (ho : o = 48 ∨ o = 49) (he : eSt (nT o) a b E = some []) (ht : 0 ≤ t ∧ t ≤ 500) (hp : gI X 14 < 500) (hk : k ≤ 18) : PI (g0 X o a b t P) [] (r, mn) (k - 4) (j + 1) := by
  have hj0 := h.1.2.2.2.2.2.2
  have b1 := h.cbm o a b t (by rcases ho with rfl | rfl <;> decide) ht (by rcases ho with rfl | rfl <;> rfl) (by rcases ho with rfl | rfl <;> (intro q; cases q)) (by rcases ho with rfl | rfl <;> (intro q; exact absurd q (by decide))) (by rcases ho with rfl | rfl <;> (intro q; exact absurd q (by decide))) (by rcases ho with rfl | rfl <;> (intro q; exact absurd q (by decide))) (by rcases ho with rfl | rfl <;> (intro q; cases q)) he (s' := ((20, nT P) :: r, mn)) (by rcases ho with rfl | rfl <;> rfl) (by omega) (by rcases ho with rfl | rfl <;> decide)
  have b2 := b1.take hp rfl (k - 5) (j + 1) ⟨by omega, by omega⟩ ⟨by omega, by omega⟩
  have b3 := b2.ends (a := P) t ht (by omega)
  exact b3.wk (k - 4) (j + 1) ⟨by omega, by omega⟩ ⟨by omega, by omega⟩
/-- break, continue -/
def jX (X : RS) (o a u t P : Int32) : RS := em (sI (em X o a u) 14 (gI X 14 + 1)) 45 P t
theorem FF_jX {X : RS} {o a u t P : Int32} : FF (jX X o a u t P) = FF X := by
  unfold jX
  rw [FF_em, FF_sI (k := 14) (by omega), FF_em]
theorem PI.jx {X : RS} {o a u t P : Int32} {r : List (Nat × Nat)} {mn : Nat} {k j : Int} (h : PI X [] ((20, nT P) :: r, mn) k j) (ho : o = 46 ∨ o = 47) (ha : a = -2 ∨ (0 ≤ a ∧ a < gI X 49)) (hq : a = -2 ∨ ∃ q ∈ r, q.2 = nT a ∧ jo (nT o) q.1) (hw : aI X 3 (nT u) = 1 → aI X 6 (nT u + 1) = 59) (hj : 1 ≤ j) (hu : 0 ≤ u ∧ u ≤ 500) (ht : 0 ≤ t ∧ t ≤ 500) (hp : gI X 14 < 500) (hk : k ≤ 18) : PI (jX X o a u t P) [] (r, mn) (k - 4) j := by
  have b1 := h.cemg o a u (by rcases ho with rfl | rfl <;> decide) hu (by rcases ho with rfl | rfl <;> rfl) (by rcases ho with rfl | rfl <;> (intro q; cases q)) (by rcases ho with rfl | rfl <;> (intro q; exact absurd q (by decide))) (by rcases ho with rfl | rfl <;> (intro q; exact absurd q (by decide))) (fun _ => ha) (by rcases ho with rfl | rfl <;> (intro q; cases q)) (E' := []) (by rcases ho with rfl | rfl <;> rfl) (s' := ((20, nT P) :: r, mn)) (by rcases ho with rfl | rfl <;> rfl) (by omega) (j - 1) (by
    have n1 : ¬ o = 41 ∧ ¬ o = 26 ∧ ¬ o = 29 ∧ ¬ o = 50 ∧ ¬ o = 32 ∧ ¬ o = 54 := by rcases ho with rfl | rfl <;> decide
    obtain ⟨n1, n2, n3, n4, n5, n6⟩ := n1
    refine ⟨⟨fun q => absurd q n1, fun _ => hw⟩, ⟨fun q => absurd q (not_or.mpr ⟨n2, not_or.mpr ⟨n3, n4⟩⟩), fun q => absurd q n2, fun q => absurd q n3, fun q => absurd q n5⟩, fun q => absurd q (not_or.mpr ⟨n1, n4⟩), fun q => absurd q n6, fun _ => ?_, fun _ => by omega, by omega, by omega⟩
    exact hq.imp id (fun ⟨q, q1, q2⟩ => ⟨q, List.mem_cons_of_mem _ q1, q2⟩))
  have b2 := b1.take hp rfl (k - 5) j ⟨by omega, by omega⟩ ⟨by omega, by omega⟩
  have b3 := b2.ends (a := P) t ht (by omega)
  exact b3.wk (k - 4) j ⟨by omega, by omega⟩ ⟨by omega, by omega⟩
def P_closed : RP := fun As σ => match As with
  | [.int p] => ∃ mn k j, PI σ [] ((20, nT p) :: Fs (aI σ 63) (aI σ 64) (aI σ 65) (nT (gI σ 62 - 1)), mn) k j ∧ k ≤ 18 ∧ 0 < (gI σ 62) ∧ MF σ ∧ (0 ≤ p ∧ p < (gI σ 18)) ∧ ¬ aI σ 63 (nT (gI σ 62 - 1)) = 0
  | _ => False
def Q_closed : RQ := fun As σ w τ => match As with
  | [.int p] => ∃ r : Int32, w = some (.int r) ∧ ((r = 0 ∧ Fp σ τ) ∨ (r = 1 ∧ Fp σ τ ∧ (∀ mn k j, PI σ [] ((20, nT p) :: Fs (aI σ 63) (aI σ 64) (aI σ 65) (nT (gI σ 62 - 1)), mn) k j → k ≤ 18 → PI τ [] (FF τ, mn) k j) ∧ MF τ ∧ (gI σ 14) ≤ (gI τ 14)))
  | _ => False
set_option maxRecDepth 100000 in
set_option maxHeartbeats 4000000 in
theorem b_closed : Bod Bclosed [(20, P_emit, Q_emit), (69, P_finished, Q_finished)] P_closed Q_closed := by
  · intro As σ hP G hB hW
    unfold P_closed at hP
    split at hP
    next p => 
      unfold Q_closed at hB
      dsimp only at hB
      obtain ⟨mm, kk, jj, hPJ, hkk, hop, hMF, hp, hnz⟩ := hP
      have nn := PI.nums hPJ
      apply hB
      dsimp only [rgo, rfd, Bclosed, Nat.beq, rwp, rst, lv_args, rlk, rs1, rs2, rdl, rky, rct, rcs, rcd, rno, rsw, Value.category, List.filter, List.take, List.drop, List.reverse, List.reverseAux, List.cons_append, List.nil_append, Option.toList, Int.toNat, Int.reduceToNat, if_pos, if_neg, reduceIte, ↓reduceIte, Nat.reduceAdd, Nat.reduceEqDiff, Nat.reduceBEq, beq_self_eq_true, Bool.not_true, Bool.not_false, Bool.and_true, Bool.and_false, Bool.true_and, Bool.false_and, gI_sI, gI_sL, gI_sA, gI_sM, gL_sI, gL_sL, gL_sA, gL_sM, aI_sI, aI_sL, aI_sA, aI_sM, aL_sI, aL_sL, aL_sA, aL_sM, gI_em, gI_emx, gI_pu, gI_wh, Bclosed_0, oi_1, oi_45, P_emit, P_finished]; try dsimp only
      refine ⟨rfl, rfl, (in_22 (by lia) (by lia)), rfl, (by decide), (⟨by lia, by lia⟩), fun w1 τ1 hq1 => ?_⟩
      obtain ⟨rfl, rfl⟩ := hq1
      dsimp only [Option.toList, List.cons_append, List.nil_append, Nat.beq, gI_sI, gI_sL, gI_sA, gI_sM, gL_sI, gL_sL, gL_sA, gL_sM, aI_sI, aI_sL, aI_sA, aI_sM, aL_sI, aL_sL, aL_sA, aL_sM, gI_em, gI_emx, gI_pu, gI_wh]
      refine ⟨rfl, rfl, rfl, rfl, rfl, (by decide), (⟨mm, kk, jj, PI.cs hPJ hkk hop, hkk, MF.cs hMF hop hnz⟩), fun w2 τ2 hq2 => ?_⟩
      obtain ⟨r2, rfl, hq2⟩ := hq2
      rcases hq2 with ⟨rfl, hf2⟩ | ⟨rfl, hf2, hx2, hm2, hle2⟩
      · dsimp only [Option.toList, List.cons_append, List.nil_append, Nat.beq, gI_sI, gI_sL, gI_sA, gI_sM, gL_sI, gL_sL, gL_sA, gL_sM, aI_sI, aI_sL, aI_sA, aI_sM, aL_sI, aL_sL, aL_sA, aL_sM, gI_em, gI_emx, gI_pu, gI_wh]
        refine ⟨Or.inl rfl, ?_⟩
        exact ⟨_, rfl, Or.inl ⟨rfl, Fp.tr (by repeat (first | exact Fp.rf | (with_reducible refine Fp.vr ?_ ?_) | refine Fp.a ?_ rfl | refine Fp.i ?_ rfl | refine Fp.y ?_ rfl ⟨by lia, by lia⟩ | exact ⟨by lia, by lia⟩)) hf2⟩⟩
      · dsimp only [Option.toList, List.cons_append, List.nil_append, Nat.beq, gI_sI, gI_sL, gI_sA, gI_sM, gL_sI, gL_sL, gL_sA, gL_sM, aI_sI, aI_sL, aI_sA, aI_sM, aL_sI, aL_sL, aL_sA, aL_sM, gI_em, gI_emx, gI_pu, gI_wh]
        refine ⟨Or.inr rfl, ?_⟩
        exact ⟨_, rfl, Or.inr ⟨rfl, Fp.tr (by repeat (first | exact Fp.rf | (with_reducible refine Fp.vr ?_ ?_) | refine Fp.a ?_ rfl | refine Fp.i ?_ rfl | refine Fp.y ?_ rfl ⟨by lia, by lia⟩ | exact ⟨by lia, by lia⟩)) hf2, fun mn k j h hk => hx2 mn k j (PI.cs h hk hop) hk, hm2, hle2⟩⟩
    next => exact hP.elim
theorem m_closed (l : Launch) : RMet l 9 61 P_closed Q_closed := by
  refine RMet.by Bclosed [(20, P_emit, Q_emit), (69, P_finished, Q_finished)] roclosed okBclosed (ctc (m_emit l) (by decide) (ctc (m_finished l) (by decide) ct0)) ?_ b_closed
  · intro As σ hP
    unfold P_closed at hP
    split at hP
    next => exact Nat.le_of_ble_eq_true rfl
    next => exact hP.elim
set_option maxRecDepth 100000 in
theorem e_closed (l : Launch) : RMetE l 9 61 P_closed Q_closed := by
  refine RMetE.by Bclosed [(20, P_emit, Q_emit), (69, P_finished, Q_finished)] rfl rfl roclosed okBclosed (ctEc (e_emit l) (by decide) (ctEc (e_finished l) (by decide) ctE0)) ?_ b_closed
  · intro As σ hP
    unfold P_closed at hP
    split at hP
    next => exact Nat.le_of_ble_eq_true rfl
    next => exact hP.elim
def P_plain : RP := fun As σ => match As with
  | [] => ∃ mn k j, PI σ [] (FF σ, mn) k j ∧ k ≤ 12 ∧ 1 ≤ j ∧ MF σ
  | _ => False
def Q_plain : RQ := fun As σ w τ => match As with
  | [] => ∃ r : Int32, w = some (.int r) ∧ ((r = 0 ∧ Fp σ τ) ∨ (r = 1 ∧ Fp σ τ ∧ (∀ mn k j, PI σ [] (FF σ, mn) k j → k ≤ 12 → 1 ≤ j → PI τ [] (FF τ, mn) k j) ∧ MF τ ∧ (gI σ 14) < (gI τ 14)))
  | _ => False
set_option maxRecDepth 100000 in
set_option maxHeartbeats 4000000 in
theorem b_plain : Bod Bplain [(20, P_emit, Q_emit), (27, P_expression, Q_expression), (69, P_finished, Q_finished), (14, P_isSign, Q_isSign), (51, P_pop, Q_pop), (18, P_want, Q_want)] P_plain Q_plain := by
  · intro As σ hP G hB hW
    unfold P_plain at hP
    split at hP
    next => 
      unfold Q_plain at hB
      dsimp only at hB
      obtain ⟨mm, kk, jj, hPJ, hkk, hjj, hMF⟩ := hP
      have nn := PI.nums hPJ
      have h1 := hPJ.step (gI σ 14) nn.1 (by omega)
      apply hB
      dsimp only [rgo, rfd, Bplain, Nat.beq, rwp, rst, lv_args, rlk, rs1, rs2, rdl, rky, rct, rcs, rcd, rno, rsw, Value.category, List.filter, List.take, List.drop, List.reverse, List.reverseAux, List.cons_append, List.nil_append, Option.toList, Int.toNat, Int.reduceToNat, if_pos, if_neg, reduceIte, ↓reduceIte, Nat.reduceAdd, Nat.reduceEqDiff, Nat.reduceBEq, beq_self_eq_true, Bool.not_true, Bool.not_false, Bool.and_true, Bool.and_false, Bool.true_and, Bool.false_and, gI_sI, gI_sL, gI_sA, gI_sM, gL_sI, gL_sL, gL_sA, gL_sM, aI_sI, aI_sL, aI_sA, aI_sM, aL_sI, aL_sL, aL_sA, aL_sM, gI_em, gI_emx, gI_pu, gI_wh, aI_em22, Bplain_0, Bplain_21, Bplain_28, Bplain_30, Bplain_34, Bplain_43, Bplain_45, oi_0, oi_20, oi_45, oi_59, P_emit, P_expression, P_finished, P_isSign, P_pop, P_want]; try dsimp only
      refine ⟨rfl, rfl, (by decide), (⟨by lia, by lia⟩), fun w1 τ1 hq1 => ?_⟩
      obtain ⟨rfl, rfl⟩ := hq1
      dsimp only [Option.toList, List.cons_append, List.nil_append, Nat.beq, gI_sI, gI_sL, gI_sA, gI_sM, gL_sI, gL_sL, gL_sA, gL_sM, aI_sI, aI_sL, aI_sA, aI_sM, aL_sI, aL_sL, aL_sA, aL_sM, gI_em, gI_emx, gI_pu, gI_wh, aI_em22]
      refine ⟨rfl, (by decide), (⟨by lia, by lia⟩), fun w2 τ2 hq2 => ?_⟩
      obtain ⟨r2, rfl, hr2, e2⟩ := hq2
      obtain rfl := e2.symm
      rcases hr2 with rfl | ⟨rfl, hw2⟩
      · dsimp only [Option.toList, List.cons_append, List.nil_append, Nat.beq, gI_sI, gI_sL, gI_sA, gI_sM, gL_sI, gL_sL, gL_sA, gL_sM, aI_sI, aI_sL, aI_sA, aI_sM, aL_sI, aL_sL, aL_sA, aL_sM, gI_em, gI_emx, gI_pu, gI_wh, aI_em22]
        refine ⟨fun h3 => absurd h3 (by decide), fun h3 => ?_⟩
        clear h3
        apply hB
        dsimp only [rgo, rfd, Bplain, Nat.beq, rwp, rst, lv_args, rlk, rs1, rs2, rdl, rky, rct, rcs, rcd, rno, rsw, Value.category, List.filter, List.take, List.drop, List.reverse, List.reverseAux, List.cons_append, List.nil_append, Option.toList, Int.toNat, Int.reduceToNat, if_pos, if_neg, reduceIte, ↓reduceIte, Nat.reduceAdd, Nat.reduceEqDiff, Nat.reduceBEq, beq_self_eq_true, Bool.not_true, Bool.not_false, Bool.and_true, Bool.and_false, Bool.true_and, Bool.false_and, gI_sI, gI_sL, gI_sA, gI_sM, gL_sI, gL_sL, gL_sA, gL_sM, aI_sI, aI_sL, aI_sA, aI_sM, aL_sI, aL_sL, aL_sA, aL_sM, gI_em, gI_emx, gI_pu, gI_wh, aI_em22, Bplain_0, Bplain_21, Bplain_28, Bplain_30, Bplain_34, Bplain_43, Bplain_45, oi_0, oi_20, oi_45, oi_59, P_emit, P_expression, P_finished, P_isSign, P_pop, P_want]; try dsimp only
        refine ⟨rfl, (by decide), (h1.xp), fun w4 τ4 hq4 => ?_⟩
        obtain ⟨r4, rfl, hq4⟩ := hq4
        rcases hq4 with ⟨rfl, hf4⟩ | ⟨rfl, hx4⟩
        · dsimp only [Option.toList, List.cons_append, List.nil_append, Nat.beq, gI_sI, gI_sL, gI_sA, gI_sM, gL_sI, gL_sL, gL_sA, gL_sM, aI_sI, aI_sL, aI_sA, aI_sM, aL_sI, aL_sL, aL_sA, aL_sM, gI_em, gI_emx, gI_pu, gI_wh, aI_em22]
          refine ⟨fun h5 => absurd h5 (by decide), fun h5 => ?_⟩
          clear h5
          apply hB
          dsimp only [rgo, rfd, Bplain, Nat.beq, rwp, rst, lv_args, rlk, rs1, rs2, rdl, rky, rct, rcs, rcd, rno, rsw, Value.category, List.filter, List.take, List.drop, List.reverse, List.reverseAux, List.cons_append, List.nil_append, Option.toList, Int.toNat, Int.reduceToNat, if_pos, if_neg, reduceIte, ↓reduceIte, Nat.reduceAdd, Nat.reduceEqDiff, Nat.reduceBEq, beq_self_eq_true, Bool.not_true, Bool.not_false, Bool.and_true, Bool.and_false, Bool.true_and, Bool.false_and, gI_sI, gI_sL, gI_sA, gI_sM, gL_sI, gL_sL, gL_sA, gL_sM, aI_sI, aI_sL, aI_sA, aI_sM, aL_sI, aL_sL, aL_sA, aL_sM, gI_em, gI_emx, gI_pu, gI_wh, aI_em22, Bplain_0, Bplain_21, Bplain_28, Bplain_30, Bplain_34, Bplain_43, Bplain_45, oi_0, oi_20, oi_45, oi_59, P_emit, P_expression, P_finished, P_isSign, P_pop, P_want]; try dsimp only
          refine ⟨Or.inl rfl, ?_⟩
          exact ⟨_, rfl, Or.inl ⟨rfl, Fp.tr (by repeat (first | exact Fp.rf | (with_reducible refine Fp.vr ?_ ?_) | refine Fp.a ?_ rfl | refine Fp.i ?_ rfl | refine Fp.y ?_ rfl ⟨by lia, by lia⟩ | exact ⟨by lia, by lia⟩)) hf4.p⟩⟩
        · dsimp only [Option.toList, List.cons_append, List.nil_append, Nat.beq, gI_sI, gI_sL, gI_sA, gI_sM, gL_sI, gL_sL, gL_sA, gL_sM, aI_sI, aI_sL, aI_sA, aI_sM, aL_sI, aL_sL, aL_sA, aL_sM, gI_em, gI_emx, gI_pu, gI_wh, aI_em22]
          have hlt4 := t_lt hx4.2.2.1.1
          have hlz4 : gI σ 14 < gI τ4 14 := hlt4
          have hpe4 := h1.exp hx4 20 ⟨by omega, by omega⟩
          have nne4 := hpe4.nums
          have hro4 := t_le (x := 0) (Int.le_trans (t_0 hx4.2.1.1) hx4.2.2.2.2.2.2.1)
          have hrl4 := t_lt hx4.2.2.2.2.2.2.2
          have hcf4 := (hpe4.2.2.2.1 _ (nT_lt hro4 hrl4)).2.2.1
          have htk4 : gI σ 18 < gI τ4 18 := lt_nT (by lia) (by lia) (hpe4.tok (c := nT (gI σ 18)) (by simp)).1
          refine ⟨fun h6 => ?_, fun h6 => absurd h6 (by decide)⟩
          clear h6
          apply hB
          dsimp only [rgo, rfd, Bplain, Nat.beq, rwp, rst, lv_args, rlk, rs1, rs2, rdl, rky, rct, rcs, rcd, rno, rsw, Value.category, List.filter, List.take, List.drop, List.reverse, List.reverseAux, List.cons_append, List.nil_append, Option.toList, Int.toNat, Int.reduceToNat, if_pos, if_neg, reduceIte, ↓reduceIte, Nat.reduceAdd, Nat.reduceEqDiff, Nat.reduceBEq, beq_self_eq_true, Bool.not_true, Bool.not_false, Bool.and_true, Bool.and_false, Bool.true_and, Bool.false_and, gI_sI, gI_sL, gI_sA, gI_sM, gL_sI, gL_sL, gL_sA, gL_sM, aI_sI, aI_sL, aI_sA, aI_sM, aL_sI, aL_sL, aL_sA, aL_sM, gI_em, gI_emx, gI_pu, gI_wh, aI_em22, Bplain_0, Bplain_21, Bplain_28, Bplain_30, Bplain_34, Bplain_43, Bplain_45, oi_0, oi_20, oi_45, oi_59, P_emit, P_expression, P_finished, P_isSign, P_pop, P_want]; try dsimp only
          refine ⟨rfl, (by decide), (⟨⟨by lia, by lia⟩, by lia, by lia⟩), fun w7 τ7 hq7 => ?_⟩
          obtain ⟨rfl, pa7, rfl⟩ := hq7
          dsimp only [Option.toList, List.cons_append, List.nil_append, Nat.beq, gI_sI, gI_sL, gI_sA, gI_sM, gL_sI, gL_sL, gL_sA, gL_sM, aI_sI, aI_sL, aI_sA, aI_sM, aL_sI, aL_sL, aL_sA, aL_sM, gI_em, gI_emx, gI_pu, gI_wh, aI_em22]
          apply hB
          dsimp only [rgo, rfd, Bplain, Nat.beq, rwp, rst, lv_args, rlk, rs1, rs2, rdl, rky, rct, rcs, rcd, rno, rsw, Value.category, List.filter, List.take, List.drop, List.reverse, List.reverseAux, List.cons_append, List.nil_append, Option.toList, Int.toNat, Int.reduceToNat, if_pos, if_neg, reduceIte, ↓reduceIte, Nat.reduceAdd, Nat.reduceEqDiff, Nat.reduceBEq, beq_self_eq_true, Bool.not_true, Bool.not_false, Bool.and_true, Bool.and_false, Bool.true_and, Bool.false_and, gI_sI, gI_sL, gI_sA, gI_sM, gL_sI, gL_sL, gL_sA, gL_sM, aI_sI, aI_sL, aI_sA, aI_sM, aL_sI, aL_sL, aL_sA, aL_sM, gI_em, gI_emx, gI_pu, gI_wh, aI_em22, Bplain_0, Bplain_21, Bplain_28, Bplain_30, Bplain_34, Bplain_43, Bplain_45, oi_0, oi_20, oi_45, oi_59, P_emit, P_expression, P_finished, P_isSign, P_pop, P_want]; try dsimp only
          refine ⟨rfl, (by decide), (⟨by lia, by lia⟩), fun w8 τ8 hq8 => ?_⟩
          obtain ⟨r8, rfl, hq8⟩ := hq8
          rcases hq8 with ⟨rfl, hp8, hw8, rfl⟩ | ⟨rfl, fa8, fb8, rfl⟩
          · dsimp only [Option.toList, List.cons_append, List.nil_append, Nat.beq, gI_sI, gI_sL, gI_sA, gI_sM, gL_sI, gL_sL, gL_sA, gL_sM, aI_sI, aI_sL, aI_sA, aI_sM, aL_sI, aL_sL, aL_sA, aL_sM, gI_em, gI_emx, gI_pu, gI_wh, aI_em22]
            try dsimp only [Option.toList, List.cons_append, List.nil_append, Nat.beq, gI_sI, gI_sL, gI_sA, gI_sM, gL_sI, gL_sL, gL_sA, gL_sM, aI_sI, aI_sL, aI_sA, aI_sM, aL_sI, aL_sL, aL_sA, aL_sM, gI_em, gI_emx, gI_pu, gI_wh, aI_em22] at hp8
            refine ⟨fun h9 => ?_, fun h9 => absurd h9 (by decide)⟩
            clear h9
            apply hB
            dsimp only [rgo, rfd, Bplain, Nat.beq, rwp, rst, lv_args, rlk, rs1, rs2, rdl, rky, rct, rcs, rcd, rno, rsw, Value.category, List.filter, List.take, List.drop, List.reverse, List.reverseAux, List.cons_append, List.nil_append, Option.toList, Int.toNat, Int.reduceToNat, if_pos, if_neg, reduceIte, ↓reduceIte, Nat.reduceAdd, Nat.reduceEqDiff, Nat.reduceBEq, beq_self_eq_true, Bool.not_true, Bool.not_false, Bool.and_true, Bool.and_false, Bool.true_and, Bool.false_and, gI_sI, gI_sL, gI_sA, gI_sM, gL_sI, gL_sL, gL_sA, gL_sM, aI_sI, aI_sL, aI_sA, aI_sM, aL_sI, aL_sL, aL_sA, aL_sM, gI_em, gI_emx, gI_pu, gI_wh, aI_em22, Bplain_0, Bplain_21, Bplain_28, Bplain_30, Bplain_34, Bplain_43, Bplain_45, oi_0, oi_20, oi_45, oi_59, P_emit, P_expression, P_finished, P_isSign, P_pop, P_want]; try dsimp only
            refine ⟨rfl, rfl, (in_22 (by lia) (by lia)), rfl, (by decide), (⟨by lia, by lia⟩), fun w10 τ10 hq10 => ?_⟩
            obtain ⟨rfl, rfl⟩ := hq10
            dsimp only [Option.toList, List.cons_append, List.nil_append, Nat.beq, gI_sI, gI_sL, gI_sA, gI_sM, gL_sI, gL_sL, gL_sA, gL_sM, aI_sI, aI_sL, aI_sA, aI_sM, aL_sI, aL_sL, aL_sA, aL_sM, gI_em, gI_emx, gI_pu, gI_wh, aI_em22]
            refine ⟨rfl, (by decide), (⟨mm, _, _, PI.pl1 hPJ (by omega) hx4 _ _ hcf4 (by assumption), by omega, MF.of (MF.ff hx4.1.f (MF.of hMF rfl rfl rfl)) rfl rfl rfl⟩), fun w11 τ11 hq11 => ?_⟩
            obtain ⟨r11, rfl, hq11⟩ := hq11
            rcases hq11 with ⟨rfl, hf11⟩ | ⟨rfl, hf11, hx11, hm11, hle11⟩
            · dsimp only [Option.toList, List.cons_append, List.nil_append, Nat.beq, gI_sI, gI_sL, gI_sA, gI_sM, gL_sI, gL_sL, gL_sA, gL_sM, aI_sI, aI_sL, aI_sA, aI_sM, aL_sI, aL_sL, aL_sA, aL_sM, gI_em, gI_emx, gI_pu, gI_wh, aI_em22]
              refine ⟨Or.inl rfl, ?_⟩
              exact ⟨_, rfl, Or.inl ⟨rfl, Fp.tr ((Fp.tr (by repeat (first | exact Fp.rf | (with_reducible refine Fp.vr ?_ ?_) | refine Fp.a ?_ rfl | refine Fp.i ?_ rfl | refine Fp.y ?_ rfl ⟨by lia, by lia⟩ | exact ⟨by lia, by lia⟩)) hx4.1.p).tr (by repeat (first | exact Fp.rf | (with_reducible refine Fp.vr ?_ ?_) | refine Fp.a ?_ rfl | refine Fp.i ?_ rfl | refine Fp.y ?_ rfl ⟨by lia, by lia⟩ | exact ⟨by lia, by lia⟩))) hf11⟩⟩
            · dsimp only [Option.toList, List.cons_append, List.nil_append, Nat.beq, gI_sI, gI_sL, gI_sA, gI_sM, gL_sI, gL_sL, gL_sA, gL_sM, aI_sI, aI_sL, aI_sA, aI_sM, aL_sI, aL_sL, aL_sA, aL_sM, gI_em, gI_emx, gI_pu, gI_wh, aI_em22]
              refine ⟨Or.inr rfl, ?_⟩
              refine ⟨_, rfl, Or.inr ⟨rfl, Fp.tr ((Fp.tr (by repeat (first | exact Fp.rf | (with_reducible refine Fp.vr ?_ ?_) | refine Fp.a ?_ rfl | refine Fp.i ?_ rfl | refine Fp.y ?_ rfl ⟨by lia, by lia⟩ | exact ⟨by lia, by lia⟩)) hx4.1.p).tr (by repeat (first | exact Fp.rf | (with_reducible refine Fp.vr ?_ ?_) | refine Fp.a ?_ rfl | refine Fp.i ?_ rfl | refine Fp.y ?_ rfl ⟨by lia, by lia⟩ | exact ⟨by lia, by lia⟩))) hf11, fun mn k j h hk hj => ?_, hm11, ?_⟩⟩
              · have b := hx11 mn _ _ (PI.pl1 h (by omega) hx4 _ _ hcf4 (by assumption)) (by omega)
                exact b.wk k j ⟨by omega, by omega⟩ ⟨by omega, by omega⟩
              · have hz : gI τ4 14 + 1 ≤ gI τ11 14 := hle11
                lia
          · dsimp only [Option.toList, List.cons_append, List.nil_append, Nat.beq, gI_sI, gI_sL, gI_sA, gI_sM, gL_sI, gL_sL, gL_sA, gL_sM, aI_sI, aI_sL, aI_sA, aI_sM, aL_sI, aL_sL, aL_sA, aL_sM, gI_em, gI_emx, gI_pu, gI_wh, aI_em22]
            refine ⟨fun h12 => absurd h12 (by decide), fun h12 => ?_⟩
            clear h12
            apply hB
            dsimp only [rgo, rfd, Bplain, Nat.beq, rwp, rst, lv_args, rlk, rs1, rs2, rdl, rky, rct, rcs, rcd, rno, rsw, Value.category, List.filter, List.take, List.drop, List.reverse, List.reverseAux, List.cons_append, List.nil_append, Option.toList, Int.toNat, Int.reduceToNat, if_pos, if_neg, reduceIte, ↓reduceIte, Nat.reduceAdd, Nat.reduceEqDiff, Nat.reduceBEq, beq_self_eq_true, Bool.not_true, Bool.not_false, Bool.and_true, Bool.and_false, Bool.true_and, Bool.false_and, gI_sI, gI_sL, gI_sA, gI_sM, gL_sI, gL_sL, gL_sA, gL_sM, aI_sI, aI_sL, aI_sA, aI_sM, aL_sI, aL_sL, aL_sA, aL_sM, gI_em, gI_emx, gI_pu, gI_wh, aI_em22, Bplain_0, Bplain_21, Bplain_28, Bplain_30, Bplain_34, Bplain_43, Bplain_45, oi_0, oi_20, oi_45, oi_59, P_emit, P_expression, P_finished, P_isSign, P_pop, P_want]; try dsimp only
            refine ⟨Or.inl rfl, ?_⟩
            exact ⟨_, rfl, Or.inl ⟨rfl, (Fp.tr (by repeat (first | exact Fp.rf | (with_reducible refine Fp.vr ?_ ?_) | refine Fp.a ?_ rfl | refine Fp.i ?_ rfl | refine Fp.y ?_ rfl ⟨by lia, by lia⟩ | exact ⟨by lia, by lia⟩)) hx4.1.p).tr (by repeat (first | exact Fp.rf | (with_reducible refine Fp.vr ?_ ?_) | refine Fp.a ?_ rfl | refine Fp.i ?_ rfl | refine Fp.y ?_ rfl ⟨by lia, by lia⟩ | exact ⟨by lia, by lia⟩))⟩⟩
      · dsimp only [Option.toList, List.cons_append, List.nil_append, Nat.beq, gI_sI, gI_sL, gI_sA, gI_sM, gL_sI, gL_sL, gL_sA, gL_sM, aI_sI, aI_sL, aI_sA, aI_sM, aL_sI, aL_sL, aL_sA, aL_sM, gI_em, gI_emx, gI_pu, gI_wh, aI_em22]
        refine ⟨fun h13 => ?_, fun h13 => absurd h13 (by decide)⟩
        clear h13
        apply hB
        dsimp only [rgo, rfd, Bplain, Nat.beq, rwp, rst, lv_args, rlk, rs1, rs2, rdl, rky, rct, rcs, rcd, rno, rsw, Value.category, List.filter, List.take, List.drop, List.reverse, List.reverseAux, List.cons_append, List.nil_append, Option.toList, Int.toNat, Int.reduceToNat, if_pos, if_neg, reduceIte, ↓reduceIte, Nat.reduceAdd, Nat.reduceEqDiff, Nat.reduceBEq, beq_self_eq_true, Bool.not_true, Bool.not_false, Bool.and_true, Bool.and_false, Bool.true_and, Bool.false_and, gI_sI, gI_sL, gI_sA, gI_sM, gL_sI, gL_sL, gL_sA, gL_sM, aI_sI, aI_sL, aI_sA, aI_sM, aL_sI, aL_sL, aL_sA, aL_sM, gI_em, gI_emx, gI_pu, gI_wh, aI_em22, Bplain_0, Bplain_21, Bplain_28, Bplain_30, Bplain_34, Bplain_43, Bplain_45, oi_0, oi_20, oi_45, oi_59, P_emit, P_expression, P_finished, P_isSign, P_pop, P_want]; try dsimp only
        refine ⟨rfl, (by decide), (⟨by lia, by lia⟩), fun w14 τ14 hq14 => ?_⟩
        obtain ⟨r14, rfl, hq14⟩ := hq14
        rcases hq14 with ⟨rfl, hp14, hw14, rfl⟩ | ⟨rfl, fa14, fb14, rfl⟩
        · dsimp only [Option.toList, List.cons_append, List.nil_append, Nat.beq, gI_sI, gI_sL, gI_sA, gI_sM, gL_sI, gL_sL, gL_sA, gL_sM, aI_sI, aI_sL, aI_sA, aI_sM, aL_sI, aL_sL, aL_sA, aL_sM, gI_em, gI_emx, gI_pu, gI_wh, aI_em22]
          try dsimp only [Option.toList, List.cons_append, List.nil_append, Nat.beq, gI_sI, gI_sL, gI_sA, gI_sM, gL_sI, gL_sL, gL_sA, gL_sM, aI_sI, aI_sL, aI_sA, aI_sM, aL_sI, aL_sL, aL_sA, aL_sM, gI_em, gI_emx, gI_pu, gI_wh, aI_em22] at hp14
          refine ⟨fun h15 => ?_, fun h15 => absurd h15 (by decide)⟩
          clear h15
          apply hB
          dsimp only [rgo, rfd, Bplain, Nat.beq, rwp, rst, lv_args, rlk, rs1, rs2, rdl, rky, rct, rcs, rcd, rno, rsw, Value.category, List.filter, List.take, List.drop, List.reverse, List.reverseAux, List.cons_append, List.nil_append, Option.toList, Int.toNat, Int.reduceToNat, if_pos, if_neg, reduceIte, ↓reduceIte, Nat.reduceAdd, Nat.reduceEqDiff, Nat.reduceBEq, beq_self_eq_true, Bool.not_true, Bool.not_false, Bool.and_true, Bool.and_false, Bool.true_and, Bool.false_and, gI_sI, gI_sL, gI_sA, gI_sM, gL_sI, gL_sL, gL_sA, gL_sM, aI_sI, aI_sL, aI_sA, aI_sM, aL_sI, aL_sL, aL_sA, aL_sM, gI_em, gI_emx, gI_pu, gI_wh, aI_em22, Bplain_0, Bplain_21, Bplain_28, Bplain_30, Bplain_34, Bplain_43, Bplain_45, oi_0, oi_20, oi_45, oi_59, P_emit, P_expression, P_finished, P_isSign, P_pop, P_want]; try dsimp only
          refine ⟨rfl, rfl, (in_22 (by lia) (by lia)), rfl, (by decide), (⟨by lia, by lia⟩), fun w16 τ16 hq16 => ?_⟩
          obtain ⟨rfl, rfl⟩ := hq16
          dsimp only [Option.toList, List.cons_append, List.nil_append, Nat.beq, gI_sI, gI_sL, gI_sA, gI_sM, gL_sI, gL_sL, gL_sA, gL_sM, aI_sI, aI_sL, aI_sA, aI_sM, aL_sI, aL_sL, aL_sA, aL_sM, gI_em, gI_emx, gI_pu, gI_wh, aI_em22]
          refine ⟨rfl, (by decide), (⟨mm, _, _, PI.pl0 hPJ (by omega) (by assumption), by omega, MF.of hMF rfl rfl rfl⟩), fun w17 τ17 hq17 => ?_⟩
          obtain ⟨r17, rfl, hq17⟩ := hq17
          rcases hq17 with ⟨rfl, hf17⟩ | ⟨rfl, hf17, hx17, hm17, hle17⟩
          · dsimp only [Option.toList, List.cons_append, List.nil_append, Nat.beq, gI_sI, gI_sL, gI_sA, gI_sM, gL_sI, gL_sL, gL_sA, gL_sM, aI_sI, aI_sL, aI_sA, aI_sM, aL_sI, aL_sL, aL_sA, aL_sM, gI_em, gI_emx, gI_pu, gI_wh, aI_em22]
            refine ⟨Or.inl rfl, ?_⟩
            exact ⟨_, rfl, Or.inl ⟨rfl, Fp.tr (by repeat (first | exact Fp.rf | (with_reducible refine Fp.vr ?_ ?_) | refine Fp.a ?_ rfl | refine Fp.i ?_ rfl | refine Fp.y ?_ rfl ⟨by lia, by lia⟩ | exact ⟨by lia, by lia⟩)) hf17⟩⟩
          · dsimp only [Option.toList, List.cons_append, List.nil_append, Nat.beq, gI_sI, gI_sL, gI_sA, gI_sM, gL_sI, gL_sL, gL_sA, gL_sM, aI_sI, aI_sL, aI_sA, aI_sM, aL_sI, aL_sL, aL_sA, aL_sM, gI_em, gI_emx, gI_pu, gI_wh, aI_em22]
            refine ⟨Or.inr rfl, ?_⟩
            refine ⟨_, rfl, Or.inr ⟨rfl, Fp.tr (by repeat (first | exact Fp.rf | (with_reducible refine Fp.vr ?_ ?_) | refine Fp.a ?_ rfl | refine Fp.i ?_ rfl | refine Fp.y ?_ rfl ⟨by lia, by lia⟩ | exact ⟨by lia, by lia⟩)) hf17, fun mn k j h hk hj => ?_, hm17, ?_⟩⟩
            · have b := hx17 mn _ _ (PI.pl0 h (by omega) (by assumption)) (by omega)
              exact b.wk k j ⟨by omega, by omega⟩ ⟨by omega, by omega⟩
            · have hz : gI σ 14 + 1 ≤ gI τ17 14 := hle17
              lia
        · dsimp only [Option.toList, List.cons_append, List.nil_append, Nat.beq, gI_sI, gI_sL, gI_sA, gI_sM, gL_sI, gL_sL, gL_sA, gL_sM, aI_sI, aI_sL, aI_sA, aI_sM, aL_sI, aL_sL, aL_sA, aL_sM, gI_em, gI_emx, gI_pu, gI_wh, aI_em22]
          refine ⟨fun h18 => absurd h18 (by decide), fun h18 => ?_⟩
          clear h18
          apply hB
          dsimp only [rgo, rfd, Bplain, Nat.beq, rwp, rst, lv_args, rlk, rs1, rs2, rdl, rky, rct, rcs, rcd, rno, rsw, Value.category, List.filter, List.take, List.drop, List.reverse, List.reverseAux, List.cons_append, List.nil_append, Option.toList, Int.toNat, Int.reduceToNat, if_pos, if_neg, reduceIte, ↓reduceIte, Nat.reduceAdd, Nat.reduceEqDiff, Nat.reduceBEq, beq_self_eq_true, Bool.not_true, Bool.not_false, Bool.and_true, Bool.and_false, Bool.true_and, Bool.false_and, gI_sI, gI_sL, gI_sA, gI_sM, gL_sI, gL_sL, gL_sA, gL_sM, aI_sI, aI_sL, aI_sA, aI_sM, aL_sI, aL_sL, aL_sA, aL_sM, gI_em, gI_emx, gI_pu, gI_wh, aI_em22, Bplain_0, Bplain_21, Bplain_28, Bplain_30, Bplain_34, Bplain_43, Bplain_45, oi_0, oi_20, oi_45, oi_59, P_emit, P_expression, P_finished, P_isSign, P_pop, P_want]; try dsimp only
          refine ⟨Or.inl rfl, ?_⟩
          exact ⟨_, rfl, Or.inl ⟨rfl, by repeat (first | exact Fp.rf | (with_reducible refine Fp.vr ?_ ?_) | refine Fp.a ?_ rfl | refine Fp.i ?_ rfl | refine Fp.y ?_ rfl ⟨by lia, by lia⟩ | exact ⟨by lia, by lia⟩)⟩⟩
    next => exact hP.elim
theorem m_plain (l : Launch) : RMet l 9 50 P_plain Q_plain := by
  refine RMet.by Bplain [(20, P_emit, Q_emit), (27, P_expression, Q_expression), (69, P_finished, Q_finished), (14, P_isSign, Q_isSign), (51, P_pop, Q_pop), (18, P_want, Q_want)] roplain okBplain (ctc (m_emit l) (by decide) (ctc (m_expression l) (by decide) (ctc (m_finished l) (by decide) (ctc (m_isSign l) (by decide) (ctc (m_pop l) (by decide) (ctc (m_want l) (by decide) ct0)))))) ?_ b_plain
  · intro As σ hP
    unfold P_plain at hP
    split at hP
    next => exact Nat.le_of_ble_eq_true rfl
    next => exact hP.elim
set_option maxRecDepth 100000 in
theorem e_plain (l : Launch) : RMetE l 9 50 P_plain Q_plain := by
  refine RMetE.by Bplain [(20, P_emit, Q_emit), (27, P_expression, Q_expression), (69, P_finished, Q_finished), (14, P_isSign, Q_isSign), (51, P_pop, Q_pop), (18, P_want, Q_want)] rfl rfl roplain okBplain (ctEc (e_emit l) (by decide) (ctEc (e_expression l) (by decide) (ctEc (e_finished l) (by decide) (ctEc (e_isSign l) (by decide) (ctEc (e_pop l) (by decide) (ctEc (e_want l) (by decide) ctE0)))))) ?_ b_plain
  · intro As σ hP
    unfold P_plain at hP
    split at hP
    next => exact Nat.le_of_ble_eq_true rfl
    next => exact hP.elim
def P_gives : RP := fun As σ => match As with
  | [] => ∃ mn k j, PI σ [] (FF σ, mn) k j ∧ k ≤ 12 ∧ 1 ≤ j ∧ MF σ
  | _ => False
def Q_gives : RQ := fun As σ w τ => match As with
  | [] => ∃ r : Int32, w = some (.int r) ∧ ((r = 0 ∧ Fp σ τ) ∨ (r = 1 ∧ Fp σ τ ∧ (∀ mn k j, PI σ [] (FF σ, mn) k j → k ≤ 12 → 1 ≤ j → PI τ [] (FF τ, mn) k j) ∧ MF τ ∧ (gI σ 14) < (gI τ 14)))
  | _ => False
set_option maxRecDepth 100000 in
set_option maxHeartbeats 4000000 in
theorem b_gives : Bod Bgives [(20, P_emit, Q_emit), (27, P_expression, Q_expression), (69, P_finished, Q_finished), (14, P_isSign, Q_isSign), (15, P_isWord, Q_isWord), (17, P_take, Q_take), (18, P_want, Q_want)] P_gives Q_gives := by
  · intro As σ hP G hB hW
    unfold P_gives at hP
    split at hP
    next => 
      unfold Q_gives at hB
      dsimp only at hB
      obtain ⟨mm, kk, jj, hPJ, hkk, hjj, hMF⟩ := hP
      have nn := PI.nums hPJ
      have h1 := hPJ.step (gI σ 14) nn.1 (by omega)
      apply hB
      dsimp only [rgo, rfd, Bgives, Nat.beq, rwp, rst, lv_args, rlk, rs1, rs2, rdl, rky, rct, rcs, rcd, rno, rsw, Value.category, List.filter, List.take, List.drop, List.reverse, List.reverseAux, List.cons_append, List.nil_append, Option.toList, Int.toNat, Int.reduceToNat, if_pos, if_neg, reduceIte, ↓reduceIte, Nat.reduceAdd, Nat.reduceEqDiff, Nat.reduceBEq, beq_self_eq_true, Bool.not_true, Bool.not_false, Bool.and_true, Bool.and_false, Bool.true_and, Bool.false_and, gI_sI, gI_sL, gI_sA, gI_sM, gL_sI, gL_sL, gL_sA, gL_sM, aI_sI, aI_sL, aI_sA, aI_sM, aL_sI, aL_sL, aL_sA, aL_sM, gI_em, gI_emx, gI_pu, gI_wh, Bgives_0, Bgives_28, Bgives_30, Bgives_34, Bgives_43, Bgives_47, Bgives_48, Bgives_55, Bgives_62, Bgives_64, Bgives_69, Bgives_74, Bgives_76, Bgives_81, Bgives_85, Bgives_86, Bgives_103, Bgives_110, Bgives_112, Bgives_122, Bgives_124, oi_0, oi_1, oi_17, oi_20, oi_45, oi_48, oi_49, oi_59, oi_m2, P_emit, P_expression, P_finished, P_isSign, P_isWord, P_take, P_want]; try dsimp only
      refine ⟨rfl, rfl, (by decide), (⟨by lia, by lia⟩), fun w1 τ1 hq1 => ?_⟩
      obtain ⟨r1, rfl, hr1, e1⟩ := hq1
      obtain rfl := e1.symm
      rcases hr1 with rfl | rfl
      · dsimp only [Option.toList, List.cons_append, List.nil_append, Nat.beq, gI_sI, gI_sL, gI_sA, gI_sM, gL_sI, gL_sL, gL_sA, gL_sM, aI_sI, aI_sL, aI_sA, aI_sM, aL_sI, aL_sL, aL_sA, aL_sM, gI_em, gI_emx, gI_pu, gI_wh]
        refine ⟨rfl, (by decide), (⟨by lia, by lia⟩), fun w2 τ2 hq2 => ?_⟩
        obtain ⟨rfl, rfl⟩ := hq2
        dsimp only [Option.toList, List.cons_append, List.nil_append, Nat.beq, gI_sI, gI_sL, gI_sA, gI_sM, gL_sI, gL_sL, gL_sA, gL_sM, aI_sI, aI_sL, aI_sA, aI_sM, aL_sI, aL_sL, aL_sA, aL_sM, gI_em, gI_emx, gI_pu, gI_wh]
        refine ⟨rfl, (by decide), (⟨by lia, by lia⟩), fun w3 τ3 hq3 => ?_⟩
        obtain ⟨r3, rfl, hq3⟩ := hq3
        rcases hq3 with ⟨rfl, hp3, rfl⟩ | ⟨rfl, fa3, fb3, rfl⟩
        · dsimp only [Option.toList, List.cons_append, List.nil_append, Nat.beq, gI_sI, gI_sL, gI_sA, gI_sM, gL_sI, gL_sL, gL_sA, gL_sM, aI_sI, aI_sL, aI_sA, aI_sM, aL_sI, aL_sL, aL_sA, aL_sM, gI_em, gI_emx, gI_pu, gI_wh]
          try dsimp only [Option.toList, List.cons_append, List.nil_append, Nat.beq, gI_sI, gI_sL, gI_sA, gI_sM, gL_sI, gL_sL, gL_sA, gL_sM, aI_sI, aI_sL, aI_sA, aI_sM, aL_sI, aL_sL, aL_sA, aL_sM, gI_em, gI_emx, gI_pu, gI_wh] at hp3
          have g2 := h1.take (by assumption) rfl (kk - 5) (jj + 1) ⟨by omega, by omega⟩ ⟨by omega, by omega⟩
          refine ⟨fun h4 => ?_, fun h4 => absurd h4 (by decide)⟩
          clear h4
          apply hB
          dsimp only [rgo, rfd, Bgives, Nat.beq, rwp, rst, lv_args, rlk, rs1, rs2, rdl, rky, rct, rcs, rcd, rno, rsw, Value.category, List.filter, List.take, List.drop, List.reverse, List.reverseAux, List.cons_append, List.nil_append, Option.toList, Int.toNat, Int.reduceToNat, if_pos, if_neg, reduceIte, ↓reduceIte, Nat.reduceAdd, Nat.reduceEqDiff, Nat.reduceBEq, beq_self_eq_true, Bool.not_true, Bool.not_false, Bool.and_true, Bool.and_false, Bool.true_and, Bool.false_and, gI_sI, gI_sL, gI_sA, gI_sM, gL_sI, gL_sL, gL_sA, gL_sM, aI_sI, aI_sL, aI_sA, aI_sM, aL_sI, aL_sL, aL_sA, aL_sM, gI_em, gI_emx, gI_pu, gI_wh, Bgives_0, Bgives_28, Bgives_30, Bgives_34, Bgives_43, Bgives_47, Bgives_48, Bgives_55, Bgives_62, Bgives_64, Bgives_69, Bgives_74, Bgives_76, Bgives_81, Bgives_85, Bgives_86, Bgives_103, Bgives_110, Bgives_112, Bgives_122, Bgives_124, oi_0, oi_1, oi_17, oi_20, oi_45, oi_48, oi_49, oi_59, oi_m2, P_emit, P_expression, P_finished, P_isSign, P_isWord, P_take, P_want]; try dsimp only
          refine ⟨fun h5 => absurd h5 (by decide), fun h5 => ?_⟩
          clear h5
          apply hB
          dsimp only [rgo, rfd, Bgives, Nat.beq, rwp, rst, lv_args, rlk, rs1, rs2, rdl, rky, rct, rcs, rcd, rno, rsw, Value.category, List.filter, List.take, List.drop, List.reverse, List.reverseAux, List.cons_append, List.nil_append, Option.toList, Int.toNat, Int.reduceToNat, if_pos, if_neg, reduceIte, ↓reduceIte, Nat.reduceAdd, Nat.reduceEqDiff, Nat.reduceBEq, beq_self_eq_true, Bool.not_true, Bool.not_false, Bool.and_true, Bool.and_false, Bool.true_and, Bool.false_and, gI_sI, gI_sL, gI_sA, gI_sM, gL_sI, gL_sL, gL_sA, gL_sM, aI_sI, aI_sL, aI_sA, aI_sM, aL_sI, aL_sL, aL_sA, aL_sM, gI_em, gI_emx, gI_pu, gI_wh, Bgives_0, Bgives_28, Bgives_30, Bgives_34, Bgives_43, Bgives_47, Bgives_48, Bgives_55, Bgives_62, Bgives_64, Bgives_69, Bgives_74, Bgives_76, Bgives_81, Bgives_85, Bgives_86, Bgives_103, Bgives_110, Bgives_112, Bgives_122, Bgives_124, oi_0, oi_1, oi_17, oi_20, oi_45, oi_48, oi_49, oi_59, oi_m2, P_emit, P_expression, P_finished, P_isSign, P_isWord, P_take, P_want]; try dsimp only
          refine ⟨rfl, (by decide), (⟨by lia, by lia⟩), fun w6 τ6 hq6 => ?_⟩
          obtain ⟨r6, rfl, hr6, e6⟩ := hq6
          obtain rfl := e6.symm
          rcases hr6 with rfl | ⟨rfl, hw6⟩
          · dsimp only [Option.toList, List.cons_append, List.nil_append, Nat.beq, gI_sI, gI_sL, gI_sA, gI_sM, gL_sI, gL_sL, gL_sA, gL_sM, aI_sI, aI_sL, aI_sA, aI_sM, aL_sI, aL_sL, aL_sA, aL_sM, gI_em, gI_emx, gI_pu, gI_wh]
            refine ⟨fun h7 => absurd h7 (by decide), fun h7 => ?_⟩
            clear h7
            apply hB
            dsimp only [rgo, rfd, Bgives, Nat.beq, rwp, rst, lv_args, rlk, rs1, rs2, rdl, rky, rct, rcs, rcd, rno, rsw, Value.category, List.filter, List.take, List.drop, List.reverse, List.reverseAux, List.cons_append, List.nil_append, Option.toList, Int.toNat, Int.reduceToNat, if_pos, if_neg, reduceIte, ↓reduceIte, Nat.reduceAdd, Nat.reduceEqDiff, Nat.reduceBEq, beq_self_eq_true, Bool.not_true, Bool.not_false, Bool.and_true, Bool.and_false, Bool.true_and, Bool.false_and, gI_sI, gI_sL, gI_sA, gI_sM, gL_sI, gL_sL, gL_sA, gL_sM, aI_sI, aI_sL, aI_sA, aI_sM, aL_sI, aL_sL, aL_sA, aL_sM, gI_em, gI_emx, gI_pu, gI_wh, Bgives_0, Bgives_28, Bgives_30, Bgives_34, Bgives_43, Bgives_47, Bgives_48, Bgives_55, Bgives_62, Bgives_64, Bgives_69, Bgives_74, Bgives_76, Bgives_81, Bgives_85, Bgives_86, Bgives_103, Bgives_110, Bgives_112, Bgives_122, Bgives_124, oi_0, oi_1, oi_17, oi_20, oi_45, oi_48, oi_49, oi_59, oi_m2, P_emit, P_expression, P_finished, P_isSign, P_isWord, P_take, P_want]; try dsimp only
            apply hB
            dsimp only [rgo, rfd, Bgives, Nat.beq, rwp, rst, lv_args, rlk, rs1, rs2, rdl, rky, rct, rcs, rcd, rno, rsw, Value.category, List.filter, List.take, List.drop, List.reverse, List.reverseAux, List.cons_append, List.nil_append, Option.toList, Int.toNat, Int.reduceToNat, if_pos, if_neg, reduceIte, ↓reduceIte, Nat.reduceAdd, Nat.reduceEqDiff, Nat.reduceBEq, beq_self_eq_true, Bool.not_true, Bool.not_false, Bool.and_true, Bool.and_false, Bool.true_and, Bool.false_and, gI_sI, gI_sL, gI_sA, gI_sM, gL_sI, gL_sL, gL_sA, gL_sM, aI_sI, aI_sL, aI_sA, aI_sM, aL_sI, aL_sL, aL_sA, aL_sM, gI_em, gI_emx, gI_pu, gI_wh, Bgives_0, Bgives_28, Bgives_30, Bgives_34, Bgives_43, Bgives_47, Bgives_48, Bgives_55, Bgives_62, Bgives_64, Bgives_69, Bgives_74, Bgives_76, Bgives_81, Bgives_85, Bgives_86, Bgives_103, Bgives_110, Bgives_112, Bgives_122, Bgives_124, oi_0, oi_1, oi_17, oi_20, oi_45, oi_48, oi_49, oi_59, oi_m2, P_emit, P_expression, P_finished, P_isSign, P_isWord, P_take, P_want]; try dsimp only
            refine ⟨fun h8 => absurd h8 (by decide), fun h8 => ?_⟩
            clear h8
            apply hB
            dsimp only [rgo, rfd, Bgives, Nat.beq, rwp, rst, lv_args, rlk, rs1, rs2, rdl, rky, rct, rcs, rcd, rno, rsw, Value.category, List.filter, List.take, List.drop, List.reverse, List.reverseAux, List.cons_append, List.nil_append, Option.toList, Int.toNat, Int.reduceToNat, if_pos, if_neg, reduceIte, ↓reduceIte, Nat.reduceAdd, Nat.reduceEqDiff, Nat.reduceBEq, beq_self_eq_true, Bool.not_true, Bool.not_false, Bool.and_true, Bool.and_false, Bool.true_and, Bool.false_and, gI_sI, gI_sL, gI_sA, gI_sM, gL_sI, gL_sL, gL_sA, gL_sM, aI_sI, aI_sL, aI_sA, aI_sM, aL_sI, aL_sL, aL_sA, aL_sM, gI_em, gI_emx, gI_pu, gI_wh, Bgives_0, Bgives_28, Bgives_30, Bgives_34, Bgives_43, Bgives_47, Bgives_48, Bgives_55, Bgives_62, Bgives_64, Bgives_69, Bgives_74, Bgives_76, Bgives_81, Bgives_85, Bgives_86, Bgives_103, Bgives_110, Bgives_112, Bgives_122, Bgives_124, oi_0, oi_1, oi_17, oi_20, oi_45, oi_48, oi_49, oi_59, oi_m2, P_emit, P_expression, P_finished, P_isSign, P_isWord, P_take, P_want]; try dsimp only
            refine ⟨rfl, (by decide), (g2.xp), fun w9 τ9 hq9 => ?_⟩
            obtain ⟨r9, rfl, hq9⟩ := hq9
            rcases hq9 with ⟨rfl, hf9⟩ | ⟨rfl, hx9⟩
            · dsimp only [Option.toList, List.cons_append, List.nil_append, Nat.beq, gI_sI, gI_sL, gI_sA, gI_sM, gL_sI, gL_sL, gL_sA, gL_sM, aI_sI, aI_sL, aI_sA, aI_sM, aL_sI, aL_sL, aL_sA, aL_sM, gI_em, gI_emx, gI_pu, gI_wh]
              refine ⟨fun h10 => absurd h10 (by decide), fun h10 => ?_⟩
              clear h10
              apply hB
              dsimp only [rgo, rfd, Bgives, Nat.beq, rwp, rst, lv_args, rlk, rs1, rs2, rdl, rky, rct, rcs, rcd, rno, rsw, Value.category, List.filter, List.take, List.drop, List.reverse, List.reverseAux, List.cons_append, List.nil_append, Option.toList, Int.toNat, Int.reduceToNat, if_pos, if_neg, reduceIte, ↓reduceIte, Nat.reduceAdd, Nat.reduceEqDiff, Nat.reduceBEq, beq_self_eq_true, Bool.not_true, Bool.not_false, Bool.and_true, Bool.and_false, Bool.true_and, Bool.false_and, gI_sI, gI_sL, gI_sA, gI_sM, gL_sI, gL_sL, gL_sA, gL_sM, aI_sI, aI_sL, aI_sA, aI_sM, aL_sI, aL_sL, aL_sA, aL_sM, gI_em, gI_emx, gI_pu, gI_wh, Bgives_0, Bgives_28, Bgives_30, Bgives_34, Bgives_43, Bgives_47, Bgives_48, Bgives_55, Bgives_62, Bgives_64, Bgives_69, Bgives_74, Bgives_76, Bgives_81, Bgives_85, Bgives_86, Bgives_103, Bgives_110, Bgives_112, Bgives_122, Bgives_124, oi_0, oi_1, oi_17, oi_20, oi_45, oi_48, oi_49, oi_59, oi_m2, P_emit, P_expression, P_finished, P_isSign, P_isWord, P_take, P_want]; try dsimp only
              refine ⟨Or.inl rfl, ?_⟩
              exact ⟨_, rfl, Or.inl ⟨rfl, Fp.tr (by repeat (first | exact Fp.rf | (with_reducible refine Fp.vr ?_ ?_) | refine Fp.a ?_ rfl | refine Fp.i ?_ rfl | refine Fp.y ?_ rfl ⟨by lia, by lia⟩ | exact ⟨by lia, by lia⟩)) hf9.p⟩⟩
            · dsimp only [Option.toList, List.cons_append, List.nil_append, Nat.beq, gI_sI, gI_sL, gI_sA, gI_sM, gL_sI, gL_sL, gL_sA, gL_sM, aI_sI, aI_sL, aI_sA, aI_sM, aL_sI, aL_sL, aL_sA, aL_sM, gI_em, gI_emx, gI_pu, gI_wh]
              have hlt9 := t_lt hx9.2.2.1.1
              have hlz9 : gI σ 14 < gI τ9 14 := by have hlq : gI σ 14 + 1 < gI τ9 14 := hlt9; lia
              have hpe9 := g2.exp hx9 20 ⟨by omega, by omega⟩
              have nne9 := hpe9.nums
              have hro9 := t_le (x := 0) (Int.le_trans (t_0 hx9.2.1.1) hx9.2.2.2.2.2.2.1)
              have hrl9 := t_lt hx9.2.2.2.2.2.2.2
              have hcf9 := (hpe9.2.2.2.1 _ (nT_lt hro9 hrl9)).2.2.1
              have htk9 : gI σ 18 < gI τ9 18 := lt_nT (by lia) (by lia) (hpe9.tok (c := nT (gI σ 18)) (by simp)).1
              refine ⟨fun h11 => ?_, fun h11 => absurd h11 (by decide)⟩
              clear h11
              apply hB
              dsimp only [rgo, rfd, Bgives, Nat.beq, rwp, rst, lv_args, rlk, rs1, rs2, rdl, rky, rct, rcs, rcd, rno, rsw, Value.category, List.filter, List.take, List.drop, List.reverse, List.reverseAux, List.cons_append, List.nil_append, Option.toList, Int.toNat, Int.reduceToNat, if_pos, if_neg, reduceIte, ↓reduceIte, Nat.reduceAdd, Nat.reduceEqDiff, Nat.reduceBEq, beq_self_eq_true, Bool.not_true, Bool.not_false, Bool.and_true, Bool.and_false, Bool.true_and, Bool.false_and, gI_sI, gI_sL, gI_sA, gI_sM, gL_sI, gL_sL, gL_sA, gL_sM, aI_sI, aI_sL, aI_sA, aI_sM, aL_sI, aL_sL, aL_sA, aL_sM, gI_em, gI_emx, gI_pu, gI_wh, Bgives_0, Bgives_28, Bgives_30, Bgives_34, Bgives_43, Bgives_47, Bgives_48, Bgives_55, Bgives_62, Bgives_64, Bgives_69, Bgives_74, Bgives_76, Bgives_81, Bgives_85, Bgives_86, Bgives_103, Bgives_110, Bgives_112, Bgives_122, Bgives_124, oi_0, oi_1, oi_17, oi_20, oi_45, oi_48, oi_49, oi_59, oi_m2, P_emit, P_expression, P_finished, P_isSign, P_isWord, P_take, P_want]; try dsimp only
              refine ⟨fun h12 => ?_, fun h12 => absurd h12 (by decide)⟩
              clear h12
              apply hB
              dsimp only [rgo, rfd, Bgives, Nat.beq, rwp, rst, lv_args, rlk, rs1, rs2, rdl, rky, rct, rcs, rcd, rno, rsw, Value.category, List.filter, List.take, List.drop, List.reverse, List.reverseAux, List.cons_append, List.nil_append, Option.toList, Int.toNat, Int.reduceToNat, if_pos, if_neg, reduceIte, ↓reduceIte, Nat.reduceAdd, Nat.reduceEqDiff, Nat.reduceBEq, beq_self_eq_true, Bool.not_true, Bool.not_false, Bool.and_true, Bool.and_false, Bool.true_and, Bool.false_and, gI_sI, gI_sL, gI_sA, gI_sM, gL_sI, gL_sL, gL_sA, gL_sM, aI_sI, aI_sL, aI_sA, aI_sM, aL_sI, aL_sL, aL_sA, aL_sM, gI_em, gI_emx, gI_pu, gI_wh, Bgives_0, Bgives_28, Bgives_30, Bgives_34, Bgives_43, Bgives_47, Bgives_48, Bgives_55, Bgives_62, Bgives_64, Bgives_69, Bgives_74, Bgives_76, Bgives_81, Bgives_85, Bgives_86, Bgives_103, Bgives_110, Bgives_112, Bgives_122, Bgives_124, oi_0, oi_1, oi_17, oi_20, oi_45, oi_48, oi_49, oi_59, oi_m2, P_emit, P_expression, P_finished, P_isSign, P_isWord, P_take, P_want]; try dsimp only
              apply hB
              dsimp only [rgo, rfd, Bgives, Nat.beq, rwp, rst, lv_args, rlk, rs1, rs2, rdl, rky, rct, rcs, rcd, rno, rsw, Value.category, List.filter, List.take, List.drop, List.reverse, List.reverseAux, List.cons_append, List.nil_append, Option.toList, Int.toNat, Int.reduceToNat, if_pos, if_neg, reduceIte, ↓reduceIte, Nat.reduceAdd, Nat.reduceEqDiff, Nat.reduceBEq, beq_self_eq_true, Bool.not_true, Bool.not_false, Bool.and_true, Bool.and_false, Bool.true_and, Bool.false_and, gI_sI, gI_sL, gI_sA, gI_sM, gL_sI, gL_sL, gL_sA, gL_sM, aI_sI, aI_sL, aI_sA, aI_sM, aL_sI, aL_sL, aL_sA, aL_sM, gI_em, gI_emx, gI_pu, gI_wh, Bgives_0, Bgives_28, Bgives_30, Bgives_34, Bgives_43, Bgives_47, Bgives_48, Bgives_55, Bgives_62, Bgives_64, Bgives_69, Bgives_74, Bgives_76, Bgives_81, Bgives_85, Bgives_86, Bgives_103, Bgives_110, Bgives_112, Bgives_122, Bgives_124, oi_0, oi_1, oi_17, oi_20, oi_45, oi_48, oi_49, oi_59, oi_m2, P_emit, P_expression, P_finished, P_isSign, P_isWord, P_take, P_want]; try dsimp only
              refine ⟨fun h13 => absurd h13 (by decide), fun h13 => ?_⟩
              clear h13
              apply hB
              dsimp only [rgo, rfd, Bgives, Nat.beq, rwp, rst, lv_args, rlk, rs1, rs2, rdl, rky, rct, rcs, rcd, rno, rsw, Value.category, List.filter, List.take, List.drop, List.reverse, List.reverseAux, List.cons_append, List.nil_append, Option.toList, Int.toNat, Int.reduceToNat, if_pos, if_neg, reduceIte, ↓reduceIte, Nat.reduceAdd, Nat.reduceEqDiff, Nat.reduceBEq, beq_self_eq_true, Bool.not_true, Bool.not_false, Bool.and_true, Bool.and_false, Bool.true_and, Bool.false_and, gI_sI, gI_sL, gI_sA, gI_sM, gL_sI, gL_sL, gL_sA, gL_sM, aI_sI, aI_sL, aI_sA, aI_sM, aL_sI, aL_sL, aL_sA, aL_sM, gI_em, gI_emx, gI_pu, gI_wh, Bgives_0, Bgives_28, Bgives_30, Bgives_34, Bgives_43, Bgives_47, Bgives_48, Bgives_55, Bgives_62, Bgives_64, Bgives_69, Bgives_74, Bgives_76, Bgives_81, Bgives_85, Bgives_86, Bgives_103, Bgives_110, Bgives_112, Bgives_122, Bgives_124, oi_0, oi_1, oi_17, oi_20, oi_45, oi_48, oi_49, oi_59, oi_m2, P_emit, P_expression, P_finished, P_isSign, P_isWord, P_take, P_want]; try dsimp only
              apply hB
              dsimp only [rgo, rfd, Bgives, Nat.beq, rwp, rst, lv_args, rlk, rs1, rs2, rdl, rky, rct, rcs, rcd, rno, rsw, Value.category, List.filter, List.take, List.drop, List.reverse, List.reverseAux, List.cons_append, List.nil_append, Option.toList, Int.toNat, Int.reduceToNat, if_pos, if_neg, reduceIte, ↓reduceIte, Nat.reduceAdd, Nat.reduceEqDiff, Nat.reduceBEq, beq_self_eq_true, Bool.not_true, Bool.not_false, Bool.and_true, Bool.and_false, Bool.true_and, Bool.false_and, gI_sI, gI_sL, gI_sA, gI_sM, gL_sI, gL_sL, gL_sA, gL_sM, aI_sI, aI_sL, aI_sA, aI_sM, aL_sI, aL_sL, aL_sA, aL_sM, gI_em, gI_emx, gI_pu, gI_wh, Bgives_0, Bgives_28, Bgives_30, Bgives_34, Bgives_43, Bgives_47, Bgives_48, Bgives_55, Bgives_62, Bgives_64, Bgives_69, Bgives_74, Bgives_76, Bgives_81, Bgives_85, Bgives_86, Bgives_103, Bgives_110, Bgives_112, Bgives_122, Bgives_124, oi_0, oi_1, oi_17, oi_20, oi_45, oi_48, oi_49, oi_59, oi_m2, P_emit, P_expression, P_finished, P_isSign, P_isWord, P_take, P_want]; try dsimp only
              refine ⟨rfl, (by decide), (⟨by lia, by lia⟩), fun w14 τ14 hq14 => ?_⟩
              obtain ⟨rfl, rfl⟩ := hq14
              dsimp only [Option.toList, List.cons_append, List.nil_append, Nat.beq, gI_sI, gI_sL, gI_sA, gI_sM, gL_sI, gL_sL, gL_sA, gL_sM, aI_sI, aI_sL, aI_sA, aI_sM, aL_sI, aL_sL, aL_sA, aL_sM, gI_em, gI_emx, gI_pu, gI_wh]
              refine ⟨rfl, fun h15 => absurd h15 (by decide), fun h15 => ?_⟩
              clear h15
              apply hB
              dsimp only [rgo, rfd, Bgives, Nat.beq, rwp, rst, lv_args, rlk, rs1, rs2, rdl, rky, rct, rcs, rcd, rno, rsw, Value.category, List.filter, List.take, List.drop, List.reverse, List.reverseAux, List.cons_append, List.nil_append, Option.toList, Int.toNat, Int.reduceToNat, if_pos, if_neg, reduceIte, ↓reduceIte, Nat.reduceAdd, Nat.reduceEqDiff, Nat.reduceBEq, beq_self_eq_true, Bool.not_true, Bool.not_false, Bool.and_true, Bool.and_false, Bool.true_and, Bool.false_and, gI_sI, gI_sL, gI_sA, gI_sM, gL_sI, gL_sL, gL_sA, gL_sM, aI_sI, aI_sL, aI_sA, aI_sM, aL_sI, aL_sL, aL_sA, aL_sM, gI_em, gI_emx, gI_pu, gI_wh, Bgives_0, Bgives_28, Bgives_30, Bgives_34, Bgives_43, Bgives_47, Bgives_48, Bgives_55, Bgives_62, Bgives_64, Bgives_69, Bgives_74, Bgives_76, Bgives_81, Bgives_85, Bgives_86, Bgives_103, Bgives_110, Bgives_112, Bgives_122, Bgives_124, oi_0, oi_1, oi_17, oi_20, oi_45, oi_48, oi_49, oi_59, oi_m2, P_emit, P_expression, P_finished, P_isSign, P_isWord, P_take, P_want]; try dsimp only
              refine ⟨rfl, ?_⟩
              apply hB
              dsimp only [rgo, rfd, Bgives, Nat.beq, rwp, rst, lv_args, rlk, rs1, rs2, rdl, rky, rct, rcs, rcd, rno, rsw, Value.category, List.filter, List.take, List.drop, List.reverse, List.reverseAux, List.cons_append, List.nil_append, Option.toList, Int.toNat, Int.reduceToNat, if_pos, if_neg, reduceIte, ↓reduceIte, Nat.reduceAdd, Nat.reduceEqDiff, Nat.reduceBEq, beq_self_eq_true, Bool.not_true, Bool.not_false, Bool.and_true, Bool.and_false, Bool.true_and, Bool.false_and, gI_sI, gI_sL, gI_sA, gI_sM, gL_sI, gL_sL, gL_sA, gL_sM, aI_sI, aI_sL, aI_sA, aI_sM, aL_sI, aL_sL, aL_sA, aL_sM, gI_em, gI_emx, gI_pu, gI_wh, Bgives_0, Bgives_28, Bgives_30, Bgives_34, Bgives_43, Bgives_47, Bgives_48, Bgives_55, Bgives_62, Bgives_64, Bgives_69, Bgives_74, Bgives_76, Bgives_81, Bgives_85, Bgives_86, Bgives_103, Bgives_110, Bgives_112, Bgives_122, Bgives_124, oi_0, oi_1, oi_17, oi_20, oi_45, oi_48, oi_49, oi_59, oi_m2, P_emit, P_expression, P_finished, P_isSign, P_isWord, P_take, P_want]; try dsimp only
              refine ⟨rfl, (in_21 (by lia) (by lia)), rfl, (by decide), (⟨by lia, by lia⟩), fun w16 τ16 hq16 => ?_⟩
              obtain ⟨r16, rfl, hq16⟩ := hq16
              rcases hq16 with ⟨rfl, hp16, hw16, rfl⟩ | ⟨rfl, fa16, fb16, rfl⟩
              · dsimp only [Option.toList, List.cons_append, List.nil_append, Nat.beq, gI_sI, gI_sL, gI_sA, gI_sM, gL_sI, gL_sL, gL_sA, gL_sM, aI_sI, aI_sL, aI_sA, aI_sM, aL_sI, aL_sL, aL_sA, aL_sM, gI_em, gI_emx, gI_pu, gI_wh]
                try dsimp only [Option.toList, List.cons_append, List.nil_append, Nat.beq, gI_sI, gI_sL, gI_sA, gI_sM, gL_sI, gL_sL, gL_sA, gL_sM, aI_sI, aI_sL, aI_sA, aI_sM, aL_sI, aL_sL, aL_sA, aL_sM, gI_em, gI_emx, gI_pu, gI_wh] at hp16
                refine ⟨fun h17 => ?_, fun h17 => absurd h17 (by decide)⟩
                clear h17
                apply hB
                dsimp only [rgo, rfd, Bgives, Nat.beq, rwp, rst, lv_args, rlk, rs1, rs2, rdl, rky, rct, rcs, rcd, rno, rsw, Value.category, List.filter, List.take, List.drop, List.reverse, List.reverseAux, List.cons_append, List.nil_append, Option.toList, Int.toNat, Int.reduceToNat, if_pos, if_neg, reduceIte, ↓reduceIte, Nat.reduceAdd, Nat.reduceEqDiff, Nat.reduceBEq, beq_self_eq_true, Bool.not_true, Bool.not_false, Bool.and_true, Bool.and_false, Bool.true_and, Bool.false_and, gI_sI, gI_sL, gI_sA, gI_sM, gL_sI, gL_sL, gL_sA, gL_sM, aI_sI, aI_sL, aI_sA, aI_sM, aL_sI, aL_sL, aL_sA, aL_sM, gI_em, gI_emx, gI_pu, gI_wh, Bgives_0, Bgives_28, Bgives_30, Bgives_34, Bgives_43, Bgives_47, Bgives_48, Bgives_55, Bgives_62, Bgives_64, Bgives_69, Bgives_74, Bgives_76, Bgives_81, Bgives_85, Bgives_86, Bgives_103, Bgives_110, Bgives_112, Bgives_122, Bgives_124, oi_0, oi_1, oi_17, oi_20, oi_45, oi_48, oi_49, oi_59, oi_m2, P_emit, P_expression, P_finished, P_isSign, P_isWord, P_take, P_want]; try dsimp only
                refine ⟨rfl, (by decide), (⟨by lia, by lia⟩), fun w18 τ18 hq18 => ?_⟩
                obtain ⟨rfl, rfl⟩ := hq18
                dsimp only [Option.toList, List.cons_append, List.nil_append, Nat.beq, gI_sI, gI_sL, gI_sA, gI_sM, gL_sI, gL_sL, gL_sA, gL_sM, aI_sI, aI_sL, aI_sA, aI_sM, aL_sI, aL_sL, aL_sA, aL_sM, gI_em, gI_emx, gI_pu, gI_wh]
                refine ⟨rfl, (by decide), (by
                  have b1 := hPJ.step (gI σ 14) nn.1 (by omega)
                  have b2 := b1.take (by assumption) rfl (kk - 5) (jj + 1) ⟨by omega, by omega⟩ ⟨by omega, by omega⟩
                  have b3 := b2.exp hx9 (kk - 5) ⟨by omega, by omega⟩
                  have b4 := b3.g0x (o := 48) (a := 1) (b := (gI τ9 33)) (t := gI σ 14) (P := gI σ 18) (Or.inl rfl) rfl nn.1 (by assumption) (by omega)
                  have eF : FF (g0 τ9 48 1 (gI τ9 33) (gI σ 14) (gI σ 18)) = FF σ := by
                    rw [FF_g0, FF_ff hx9.1.f, FF_sI (k := 14) (by omega), FF_em]
                  rw [← eF] at b4
                  exact ⟨mm, _, _, b4, by omega, MF.of (MF.ff hx9.1.f (MF.of hMF rfl rfl rfl)) rfl rfl rfl⟩), fun w19 τ19 hq19 => ?_⟩
                obtain ⟨r19, rfl, hq19⟩ := hq19
                rcases hq19 with ⟨rfl, hf19⟩ | ⟨rfl, hf19, hx19, hm19, hle19⟩
                · dsimp only [Option.toList, List.cons_append, List.nil_append, Nat.beq, gI_sI, gI_sL, gI_sA, gI_sM, gL_sI, gL_sL, gL_sA, gL_sM, aI_sI, aI_sL, aI_sA, aI_sM, aL_sI, aL_sL, aL_sA, aL_sM, gI_em, gI_emx, gI_pu, gI_wh]
                  refine ⟨Or.inl rfl, ?_⟩
                  exact ⟨_, rfl, Or.inl ⟨rfl, Fp.tr ((Fp.tr (by repeat (first | exact Fp.rf | (with_reducible refine Fp.vr ?_ ?_) | refine Fp.a ?_ rfl | refine Fp.i ?_ rfl | refine Fp.y ?_ rfl ⟨by lia, by lia⟩ | exact ⟨by lia, by lia⟩)) hx9.1.p).tr (by repeat (first | exact Fp.rf | (with_reducible refine Fp.vr ?_ ?_) | refine Fp.a ?_ rfl | refine Fp.i ?_ rfl | refine Fp.y ?_ rfl ⟨by lia, by lia⟩ | exact ⟨by lia, by lia⟩))) hf19⟩⟩
                · dsimp only [Option.toList, List.cons_append, List.nil_append, Nat.beq, gI_sI, gI_sL, gI_sA, gI_sM, gL_sI, gL_sL, gL_sA, gL_sM, aI_sI, aI_sL, aI_sA, aI_sM, aL_sI, aL_sL, aL_sA, aL_sM, gI_em, gI_emx, gI_pu, gI_wh]
                  refine ⟨Or.inr rfl, ?_⟩
                  refine ⟨_, rfl, Or.inr ⟨rfl, Fp.tr ((Fp.tr (by repeat (first | exact Fp.rf | (with_reducible refine Fp.vr ?_ ?_) | refine Fp.a ?_ rfl | refine Fp.i ?_ rfl | refine Fp.y ?_ rfl ⟨by lia, by lia⟩ | exact ⟨by lia, by lia⟩)) hx9.1.p).tr (by repeat (first | exact Fp.rf | (with_reducible refine Fp.vr ?_ ?_) | refine Fp.a ?_ rfl | refine Fp.i ?_ rfl | refine Fp.y ?_ rfl ⟨by lia, by lia⟩ | exact ⟨by lia, by lia⟩))) hf19, fun mn k j h hk hj => ?_, hm19, ?_⟩⟩
                  · have b1 := h.step (gI σ 14) nn.1 (by omega)
                    have b2 := b1.take (by assumption) rfl (k - 5) (j + 1) ⟨by omega, by omega⟩ ⟨by omega, by omega⟩
                    have b3 := b2.exp hx9 (k - 5) ⟨by omega, by omega⟩
                    have b4 := b3.g0x (o := 48) (a := 1) (b := (gI τ9 33)) (t := gI σ 14) (P := gI σ 18) (Or.inl rfl) rfl nn.1 (by assumption) (by omega)
                    have eF : FF (g0 τ9 48 1 (gI τ9 33) (gI σ 14) (gI σ 18)) = FF σ := by
                      rw [FF_g0, FF_ff hx9.1.f, FF_sI (k := 14) (by omega), FF_em]
                    rw [← eF] at b4
                    have b := hx19 mn _ _ b4 (by omega)
                    exact b.wk k j ⟨by omega, by omega⟩ ⟨by omega, by omega⟩
                  · have hz : gI τ9 14 + 1 ≤ gI τ19 14 := hle19
                    lia
              · dsimp only [Option.toList, List.cons_append, List.nil_append, Nat.beq, gI_sI, gI_sL, gI_sA, gI_sM, gL_sI, gL_sL, gL_sA, gL_sM, aI_sI, aI_sL, aI_sA, aI_sM, aL_sI, aL_sL, aL_sA, aL_sM, gI_em, gI_emx, gI_pu, gI_wh]
                refine ⟨fun h20 => absurd h20 (by decide), fun h20 => ?_⟩
                clear h20
                apply hB
                dsimp only [rgo, rfd, Bgives, Nat.beq, rwp, rst, lv_args, rlk, rs1, rs2, rdl, rky, rct, rcs, rcd, rno, rsw, Value.category, List.filter, List.take, List.drop, List.reverse, List.reverseAux, List.cons_append, List.nil_append, Option.toList, Int.toNat, Int.reduceToNat, if_pos, if_neg, reduceIte, ↓reduceIte, Nat.reduceAdd, Nat.reduceEqDiff, Nat.reduceBEq, beq_self_eq_true, Bool.not_true, Bool.not_false, Bool.and_true, Bool.and_false, Bool.true_and, Bool.false_and, gI_sI, gI_sL, gI_sA, gI_sM, gL_sI, gL_sL, gL_sA, gL_sM, aI_sI, aI_sL, aI_sA, aI_sM, aL_sI, aL_sL, aL_sA, aL_sM, gI_em, gI_emx, gI_pu, gI_wh, Bgives_0, Bgives_28, Bgives_30, Bgives_34, Bgives_43, Bgives_47, Bgives_48, Bgives_55, Bgives_62, Bgives_64, Bgives_69, Bgives_74, Bgives_76, Bgives_81, Bgives_85, Bgives_86, Bgives_103, Bgives_110, Bgives_112, Bgives_122, Bgives_124, oi_0, oi_1, oi_17, oi_20, oi_45, oi_48, oi_49, oi_59, oi_m2, P_emit, P_expression, P_finished, P_isSign, P_isWord, P_take, P_want]; try dsimp only
                refine ⟨Or.inl rfl, ?_⟩
                exact ⟨_, rfl, Or.inl ⟨rfl, (Fp.tr (by repeat (first | exact Fp.rf | (with_reducible refine Fp.vr ?_ ?_) | refine Fp.a ?_ rfl | refine Fp.i ?_ rfl | refine Fp.y ?_ rfl ⟨by lia, by lia⟩ | exact ⟨by lia, by lia⟩)) hx9.1.p).tr (by repeat (first | exact Fp.rf | (with_reducible refine Fp.vr ?_ ?_) | refine Fp.a ?_ rfl | refine Fp.i ?_ rfl | refine Fp.y ?_ rfl ⟨by lia, by lia⟩ | exact ⟨by lia, by lia⟩))⟩⟩
          · dsimp only [Option.toList, List.cons_append, List.nil_append, Nat.beq, gI_sI, gI_sL, gI_sA, gI_sM, gL_sI, gL_sL, gL_sA, gL_sM, aI_sI, aI_sL, aI_sA, aI_sM, aL_sI, aL_sL, aL_sA, aL_sM, gI_em, gI_emx, gI_pu, gI_wh]
            refine ⟨fun h21 => ?_, fun h21 => absurd h21 (by decide)⟩
            clear h21
            apply hB
            dsimp only [rgo, rfd, Bgives, Nat.beq, rwp, rst, lv_args, rlk, rs1, rs2, rdl, rky, rct, rcs, rcd, rno, rsw, Value.category, List.filter, List.take, List.drop, List.reverse, List.reverseAux, List.cons_append, List.nil_append, Option.toList, Int.toNat, Int.reduceToNat, if_pos, if_neg, reduceIte, ↓reduceIte, Nat.reduceAdd, Nat.reduceEqDiff, Nat.reduceBEq, beq_self_eq_true, Bool.not_true, Bool.not_false, Bool.and_true, Bool.and_false, Bool.true_and, Bool.false_and, gI_sI, gI_sL, gI_sA, gI_sM, gL_sI, gL_sL, gL_sA, gL_sM, aI_sI, aI_sL, aI_sA, aI_sM, aL_sI, aL_sL, aL_sA, aL_sM, gI_em, gI_emx, gI_pu, gI_wh, Bgives_0, Bgives_28, Bgives_30, Bgives_34, Bgives_43, Bgives_47, Bgives_48, Bgives_55, Bgives_62, Bgives_64, Bgives_69, Bgives_74, Bgives_76, Bgives_81, Bgives_85, Bgives_86, Bgives_103, Bgives_110, Bgives_112, Bgives_122, Bgives_124, oi_0, oi_1, oi_17, oi_20, oi_45, oi_48, oi_49, oi_59, oi_m2, P_emit, P_expression, P_finished, P_isSign, P_isWord, P_take, P_want]; try dsimp only
            apply hB
            dsimp only [rgo, rfd, Bgives, Nat.beq, rwp, rst, lv_args, rlk, rs1, rs2, rdl, rky, rct, rcs, rcd, rno, rsw, Value.category, List.filter, List.take, List.drop, List.reverse, List.reverseAux, List.cons_append, List.nil_append, Option.toList, Int.toNat, Int.reduceToNat, if_pos, if_neg, reduceIte, ↓reduceIte, Nat.reduceAdd, Nat.reduceEqDiff, Nat.reduceBEq, beq_self_eq_true, Bool.not_true, Bool.not_false, Bool.and_true, Bool.and_false, Bool.true_and, Bool.false_and, gI_sI, gI_sL, gI_sA, gI_sM, gL_sI, gL_sL, gL_sA, gL_sM, aI_sI, aI_sL, aI_sA, aI_sM, aL_sI, aL_sL, aL_sA, aL_sM, gI_em, gI_emx, gI_pu, gI_wh, Bgives_0, Bgives_28, Bgives_30, Bgives_34, Bgives_43, Bgives_47, Bgives_48, Bgives_55, Bgives_62, Bgives_64, Bgives_69, Bgives_74, Bgives_76, Bgives_81, Bgives_85, Bgives_86, Bgives_103, Bgives_110, Bgives_112, Bgives_122, Bgives_124, oi_0, oi_1, oi_17, oi_20, oi_45, oi_48, oi_49, oi_59, oi_m2, P_emit, P_expression, P_finished, P_isSign, P_isWord, P_take, P_want]; try dsimp only
            refine ⟨fun h22 => ?_, fun h22 => absurd h22 (by decide)⟩
            clear h22
            apply hB
            dsimp only [rgo, rfd, Bgives, Nat.beq, rwp, rst, lv_args, rlk, rs1, rs2, rdl, rky, rct, rcs, rcd, rno, rsw, Value.category, List.filter, List.take, List.drop, List.reverse, List.reverseAux, List.cons_append, List.nil_append, Option.toList, Int.toNat, Int.reduceToNat, if_pos, if_neg, reduceIte, ↓reduceIte, Nat.reduceAdd, Nat.reduceEqDiff, Nat.reduceBEq, beq_self_eq_true, Bool.not_true, Bool.not_false, Bool.and_true, Bool.and_false, Bool.true_and, Bool.false_and, gI_sI, gI_sL, gI_sA, gI_sM, gL_sI, gL_sL, gL_sA, gL_sM, aI_sI, aI_sL, aI_sA, aI_sM, aL_sI, aL_sL, aL_sA, aL_sM, gI_em, gI_emx, gI_pu, gI_wh, Bgives_0, Bgives_28, Bgives_30, Bgives_34, Bgives_43, Bgives_47, Bgives_48, Bgives_55, Bgives_62, Bgives_64, Bgives_69, Bgives_74, Bgives_76, Bgives_81, Bgives_85, Bgives_86, Bgives_103, Bgives_110, Bgives_112, Bgives_122, Bgives_124, oi_0, oi_1, oi_17, oi_20, oi_45, oi_48, oi_49, oi_59, oi_m2, P_emit, P_expression, P_finished, P_isSign, P_isWord, P_take, P_want]; try dsimp only
            refine ⟨fun h23 => ?_, fun h23 => absurd h23 (by decide)⟩
            clear h23
            apply hB
            dsimp only [rgo, rfd, Bgives, Nat.beq, rwp, rst, lv_args, rlk, rs1, rs2, rdl, rky, rct, rcs, rcd, rno, rsw, Value.category, List.filter, List.take, List.drop, List.reverse, List.reverseAux, List.cons_append, List.nil_append, Option.toList, Int.toNat, Int.reduceToNat, if_pos, if_neg, reduceIte, ↓reduceIte, Nat.reduceAdd, Nat.reduceEqDiff, Nat.reduceBEq, beq_self_eq_true, Bool.not_true, Bool.not_false, Bool.and_true, Bool.and_false, Bool.true_and, Bool.false_and, gI_sI, gI_sL, gI_sA, gI_sM, gL_sI, gL_sL, gL_sA, gL_sM, aI_sI, aI_sL, aI_sA, aI_sM, aL_sI, aL_sL, aL_sA, aL_sM, gI_em, gI_emx, gI_pu, gI_wh, Bgives_0, Bgives_28, Bgives_30, Bgives_34, Bgives_43, Bgives_47, Bgives_48, Bgives_55, Bgives_62, Bgives_64, Bgives_69, Bgives_74, Bgives_76, Bgives_81, Bgives_85, Bgives_86, Bgives_103, Bgives_110, Bgives_112, Bgives_122, Bgives_124, oi_0, oi_1, oi_17, oi_20, oi_45, oi_48, oi_49, oi_59, oi_m2, P_emit, P_expression, P_finished, P_isSign, P_isWord, P_take, P_want]; try dsimp only
            apply hB
            dsimp only [rgo, rfd, Bgives, Nat.beq, rwp, rst, lv_args, rlk, rs1, rs2, rdl, rky, rct, rcs, rcd, rno, rsw, Value.category, List.filter, List.take, List.drop, List.reverse, List.reverseAux, List.cons_append, List.nil_append, Option.toList, Int.toNat, Int.reduceToNat, if_pos, if_neg, reduceIte, ↓reduceIte, Nat.reduceAdd, Nat.reduceEqDiff, Nat.reduceBEq, beq_self_eq_true, Bool.not_true, Bool.not_false, Bool.and_true, Bool.and_false, Bool.true_and, Bool.false_and, gI_sI, gI_sL, gI_sA, gI_sM, gL_sI, gL_sL, gL_sA, gL_sM, aI_sI, aI_sL, aI_sA, aI_sM, aL_sI, aL_sL, aL_sA, aL_sM, gI_em, gI_emx, gI_pu, gI_wh, Bgives_0, Bgives_28, Bgives_30, Bgives_34, Bgives_43, Bgives_47, Bgives_48, Bgives_55, Bgives_62, Bgives_64, Bgives_69, Bgives_74, Bgives_76, Bgives_81, Bgives_85, Bgives_86, Bgives_103, Bgives_110, Bgives_112, Bgives_122, Bgives_124, oi_0, oi_1, oi_17, oi_20, oi_45, oi_48, oi_49, oi_59, oi_m2, P_emit, P_expression, P_finished, P_isSign, P_isWord, P_take, P_want]; try dsimp only
            refine ⟨fun h24 => ?_, fun h24 => absurd h24 (by decide)⟩
            clear h24
            apply hB
            dsimp only [rgo, rfd, Bgives, Nat.beq, rwp, rst, lv_args, rlk, rs1, rs2, rdl, rky, rct, rcs, rcd, rno, rsw, Value.category, List.filter, List.take, List.drop, List.reverse, List.reverseAux, List.cons_append, List.nil_append, Option.toList, Int.toNat, Int.reduceToNat, if_pos, if_neg, reduceIte, ↓reduceIte, Nat.reduceAdd, Nat.reduceEqDiff, Nat.reduceBEq, beq_self_eq_true, Bool.not_true, Bool.not_false, Bool.and_true, Bool.and_false, Bool.true_and, Bool.false_and, gI_sI, gI_sL, gI_sA, gI_sM, gL_sI, gL_sL, gL_sA, gL_sM, aI_sI, aI_sL, aI_sA, aI_sM, aL_sI, aL_sL, aL_sA, aL_sM, gI_em, gI_emx, gI_pu, gI_wh, Bgives_0, Bgives_28, Bgives_30, Bgives_34, Bgives_43, Bgives_47, Bgives_48, Bgives_55, Bgives_62, Bgives_64, Bgives_69, Bgives_74, Bgives_76, Bgives_81, Bgives_85, Bgives_86, Bgives_103, Bgives_110, Bgives_112, Bgives_122, Bgives_124, oi_0, oi_1, oi_17, oi_20, oi_45, oi_48, oi_49, oi_59, oi_m2, P_emit, P_expression, P_finished, P_isSign, P_isWord, P_take, P_want]; try dsimp only
            apply hB
            dsimp only [rgo, rfd, Bgives, Nat.beq, rwp, rst, lv_args, rlk, rs1, rs2, rdl, rky, rct, rcs, rcd, rno, rsw, Value.category, List.filter, List.take, List.drop, List.reverse, List.reverseAux, List.cons_append, List.nil_append, Option.toList, Int.toNat, Int.reduceToNat, if_pos, if_neg, reduceIte, ↓reduceIte, Nat.reduceAdd, Nat.reduceEqDiff, Nat.reduceBEq, beq_self_eq_true, Bool.not_true, Bool.not_false, Bool.and_true, Bool.and_false, Bool.true_and, Bool.false_and, gI_sI, gI_sL, gI_sA, gI_sM, gL_sI, gL_sL, gL_sA, gL_sM, aI_sI, aI_sL, aI_sA, aI_sM, aL_sI, aL_sL, aL_sA, aL_sM, gI_em, gI_emx, gI_pu, gI_wh, Bgives_0, Bgives_28, Bgives_30, Bgives_34, Bgives_43, Bgives_47, Bgives_48, Bgives_55, Bgives_62, Bgives_64, Bgives_69, Bgives_74, Bgives_76, Bgives_81, Bgives_85, Bgives_86, Bgives_103, Bgives_110, Bgives_112, Bgives_122, Bgives_124, oi_0, oi_1, oi_17, oi_20, oi_45, oi_48, oi_49, oi_59, oi_m2, P_emit, P_expression, P_finished, P_isSign, P_isWord, P_take, P_want]; try dsimp only
            refine ⟨rfl, (by decide), (⟨by lia, by lia⟩), fun w25 τ25 hq25 => ?_⟩
            obtain ⟨rfl, rfl⟩ := hq25
            dsimp only [Option.toList, List.cons_append, List.nil_append, Nat.beq, gI_sI, gI_sL, gI_sA, gI_sM, gL_sI, gL_sL, gL_sA, gL_sM, aI_sI, aI_sL, aI_sA, aI_sM, aL_sI, aL_sL, aL_sA, aL_sM, gI_em, gI_emx, gI_pu, gI_wh]
            refine ⟨rfl, fun h26 => ?_, fun h26 => absurd h26 (by decide)⟩
            clear h26
            apply hB
            dsimp only [rgo, rfd, Bgives, Nat.beq, rwp, rst, lv_args, rlk, rs1, rs2, rdl, rky, rct, rcs, rcd, rno, rsw, Value.category, List.filter, List.take, List.drop, List.reverse, List.reverseAux, List.cons_append, List.nil_append, Option.toList, Int.toNat, Int.reduceToNat, if_pos, if_neg, reduceIte, ↓reduceIte, Nat.reduceAdd, Nat.reduceEqDiff, Nat.reduceBEq, beq_self_eq_true, Bool.not_true, Bool.not_false, Bool.and_true, Bool.and_false, Bool.true_and, Bool.false_and, gI_sI, gI_sL, gI_sA, gI_sM, gL_sI, gL_sL, gL_sA, gL_sM, aI_sI, aI_sL, aI_sA, aI_sM, aL_sI, aL_sL, aL_sA, aL_sM, gI_em, gI_emx, gI_pu, gI_wh, Bgives_0, Bgives_28, Bgives_30, Bgives_34, Bgives_43, Bgives_47, Bgives_48, Bgives_55, Bgives_62, Bgives_64, Bgives_69, Bgives_74, Bgives_76, Bgives_81, Bgives_85, Bgives_86, Bgives_103, Bgives_110, Bgives_112, Bgives_122, Bgives_124, oi_0, oi_1, oi_17, oi_20, oi_45, oi_48, oi_49, oi_59, oi_m2, P_emit, P_expression, P_finished, P_isSign, P_isWord, P_take, P_want]; try dsimp only
            apply hB
            dsimp only [rgo, rfd, Bgives, Nat.beq, rwp, rst, lv_args, rlk, rs1, rs2, rdl, rky, rct, rcs, rcd, rno, rsw, Value.category, List.filter, List.take, List.drop, List.reverse, List.reverseAux, List.cons_append, List.nil_append, Option.toList, Int.toNat, Int.reduceToNat, if_pos, if_neg, reduceIte, ↓reduceIte, Nat.reduceAdd, Nat.reduceEqDiff, Nat.reduceBEq, beq_self_eq_true, Bool.not_true, Bool.not_false, Bool.and_true, Bool.and_false, Bool.true_and, Bool.false_and, gI_sI, gI_sL, gI_sA, gI_sM, gL_sI, gL_sL, gL_sA, gL_sM, aI_sI, aI_sL, aI_sA, aI_sM, aL_sI, aL_sL, aL_sA, aL_sM, gI_em, gI_emx, gI_pu, gI_wh, Bgives_0, Bgives_28, Bgives_30, Bgives_34, Bgives_43, Bgives_47, Bgives_48, Bgives_55, Bgives_62, Bgives_64, Bgives_69, Bgives_74, Bgives_76, Bgives_81, Bgives_85, Bgives_86, Bgives_103, Bgives_110, Bgives_112, Bgives_122, Bgives_124, oi_0, oi_1, oi_17, oi_20, oi_45, oi_48, oi_49, oi_59, oi_m2, P_emit, P_expression, P_finished, P_isSign, P_isWord, P_take, P_want]; try dsimp only
            refine ⟨rfl, (in_21 (by lia) (by lia)), rfl, (by decide), (⟨by lia, by lia⟩), fun w27 τ27 hq27 => ?_⟩
            obtain ⟨r27, rfl, hq27⟩ := hq27
            rcases hq27 with ⟨rfl, hp27, hw27, rfl⟩ | ⟨rfl, fa27, fb27, rfl⟩
            · dsimp only [Option.toList, List.cons_append, List.nil_append, Nat.beq, gI_sI, gI_sL, gI_sA, gI_sM, gL_sI, gL_sL, gL_sA, gL_sM, aI_sI, aI_sL, aI_sA, aI_sM, aL_sI, aL_sL, aL_sA, aL_sM, gI_em, gI_emx, gI_pu, gI_wh]
              try dsimp only [Option.toList, List.cons_append, List.nil_append, Nat.beq, gI_sI, gI_sL, gI_sA, gI_sM, gL_sI, gL_sL, gL_sA, gL_sM, aI_sI, aI_sL, aI_sA, aI_sM, aL_sI, aL_sL, aL_sA, aL_sM, gI_em, gI_emx, gI_pu, gI_wh] at hp27
              refine ⟨fun h28 => ?_, fun h28 => absurd h28 (by decide)⟩
              clear h28
              apply hB
              dsimp only [rgo, rfd, Bgives, Nat.beq, rwp, rst, lv_args, rlk, rs1, rs2, rdl, rky, rct, rcs, rcd, rno, rsw, Value.category, List.filter, List.take, List.drop, List.reverse, List.reverseAux, List.cons_append, List.nil_append, Option.toList, Int.toNat, Int.reduceToNat, if_pos, if_neg, reduceIte, ↓reduceIte, Nat.reduceAdd, Nat.reduceEqDiff, Nat.reduceBEq, beq_self_eq_true, Bool.not_true, Bool.not_false, Bool.and_true, Bool.and_false, Bool.true_and, Bool.false_and, gI_sI, gI_sL, gI_sA, gI_sM, gL_sI, gL_sL, gL_sA, gL_sM, aI_sI, aI_sL, aI_sA, aI_sM, aL_sI, aL_sL, aL_sA, aL_sM, gI_em, gI_emx, gI_pu, gI_wh, Bgives_0, Bgives_28, Bgives_30, Bgives_34, Bgives_43, Bgives_47, Bgives_48, Bgives_55, Bgives_62, Bgives_64, Bgives_69, Bgives_74, Bgives_76, Bgives_81, Bgives_85, Bgives_86, Bgives_103, Bgives_110, Bgives_112, Bgives_122, Bgives_124, oi_0, oi_1, oi_17, oi_20, oi_45, oi_48, oi_49, oi_59, oi_m2, P_emit, P_expression, P_finished, P_isSign, P_isWord, P_take, P_want]; try dsimp only
              refine ⟨rfl, (by decide), (⟨by lia, by lia⟩), fun w29 τ29 hq29 => ?_⟩
              obtain ⟨rfl, rfl⟩ := hq29
              dsimp only [Option.toList, List.cons_append, List.nil_append, Nat.beq, gI_sI, gI_sL, gI_sA, gI_sM, gL_sI, gL_sL, gL_sA, gL_sM, aI_sI, aI_sL, aI_sA, aI_sM, aL_sI, aL_sL, aL_sA, aL_sM, gI_em, gI_emx, gI_pu, gI_wh]
              refine ⟨rfl, (by decide), (by
                have b1 := hPJ.step (gI σ 14) nn.1 (by omega)
                have b2 := b1.take (by assumption) rfl (kk - 5) (jj + 1) ⟨by omega, by omega⟩ ⟨by omega, by omega⟩
                have b4 := b2.g0x (o := 48) (a := 0) (b := (-2)) (t := gI σ 14) (P := gI σ 18) (Or.inl rfl) rfl nn.1 (by assumption) (by omega)
                have eF : FF (g0 (sI (em σ 20 0 (gI σ 14)) 14 (gI σ 14 + 1)) 48 0 (-2) (gI σ 14) (gI σ 18)) = FF σ := by
                  rw [FF_g0, FF_sI (k := 14) (by omega), FF_em]
                rw [← eF] at b4
                exact ⟨mm, _, _, b4, by omega, MF.of hMF rfl rfl rfl⟩), fun w30 τ30 hq30 => ?_⟩
              obtain ⟨r30, rfl, hq30⟩ := hq30
              rcases hq30 with ⟨rfl, hf30⟩ | ⟨rfl, hf30, hx30, hm30, hle30⟩
              · dsimp only [Option.toList, List.cons_append, List.nil_append, Nat.beq, gI_sI, gI_sL, gI_sA, gI_sM, gL_sI, gL_sL, gL_sA, gL_sM, aI_sI, aI_sL, aI_sA, aI_sM, aL_sI, aL_sL, aL_sA, aL_sM, gI_em, gI_emx, gI_pu, gI_wh]
                refine ⟨Or.inl rfl, ?_⟩
                exact ⟨_, rfl, Or.inl ⟨rfl, Fp.tr (by repeat (first | exact Fp.rf | (with_reducible refine Fp.vr ?_ ?_) | refine Fp.a ?_ rfl | refine Fp.i ?_ rfl | refine Fp.y ?_ rfl ⟨by lia, by lia⟩ | exact ⟨by lia, by lia⟩)) hf30⟩⟩
              · dsimp only [Option.toList, List.cons_append, List.nil_append, Nat.beq, gI_sI, gI_sL, gI_sA, gI_sM, gL_sI, gL_sL, gL_sA, gL_sM, aI_sI, aI_sL, aI_sA, aI_sM, aL_sI, aL_sL, aL_sA, aL_sM, gI_em, gI_emx, gI_pu, gI_wh]
                refine ⟨Or.inr rfl, ?_⟩
                refine ⟨_, rfl, Or.inr ⟨rfl, Fp.tr (by repeat (first | exact Fp.rf | (with_reducible refine Fp.vr ?_ ?_) | refine Fp.a ?_ rfl | refine Fp.i ?_ rfl | refine Fp.y ?_ rfl ⟨by lia, by lia⟩ | exact ⟨by lia, by lia⟩)) hf30, fun mn k j h hk hj => ?_, hm30, ?_⟩⟩
                · have b1 := h.step (gI σ 14) nn.1 (by omega)
                  have b2 := b1.take (by assumption) rfl (k - 5) (j + 1) ⟨by omega, by omega⟩ ⟨by omega, by omega⟩
                  have b4 := b2.g0x (o := 48) (a := 0) (b := (-2)) (t := gI σ 14) (P := gI σ 18) (Or.inl rfl) rfl nn.1 (by assumption) (by omega)
                  have eF : FF (g0 (sI (em σ 20 0 (gI σ 14)) 14 (gI σ 14 + 1)) 48 0 (-2) (gI σ 14) (gI σ 18)) = FF σ := by
                    rw [FF_g0, FF_sI (k := 14) (by omega), FF_em]
                  rw [← eF] at b4
                  have b := hx30 mn _ _ b4 (by omega)
                  exact b.wk k j ⟨by omega, by omega⟩ ⟨by omega, by omega⟩
                · have hz : gI σ 14 + 1 + 1 ≤ gI τ30 14 := hle30
                  lia
            · dsimp only [Option.toList, List.cons_append, List.nil_append, Nat.beq, gI_sI, gI_sL, gI_sA, gI_sM, gL_sI, gL_sL, gL_sA, gL_sM, aI_sI, aI_sL, aI_sA, aI_sM, aL_sI, aL_sL, aL_sA, aL_sM, gI_em, gI_emx, gI_pu, gI_wh]
              refine ⟨fun h31 => absurd h31 (by decide), fun h31 => ?_⟩
              clear h31
              apply hB
              dsimp only [rgo, rfd, Bgives, Nat.beq, rwp, rst, lv_args, rlk, rs1, rs2, rdl, rky, rct, rcs, rcd, rno, rsw, Value.category, List.filter, List.take, List.drop, List.reverse, List.reverseAux, List.cons_append, List.nil_append, Option.toList, Int.toNat, Int.reduceToNat, if_pos, if_neg, reduceIte, ↓reduceIte, Nat.reduceAdd, Nat.reduceEqDiff, Nat.reduceBEq, beq_self_eq_true, Bool.not_true, Bool.not_false, Bool.and_true, Bool.and_false, Bool.true_and, Bool.false_and, gI_sI, gI_sL, gI_sA, gI_sM, gL_sI, gL_sL, gL_sA, gL_sM, aI_sI, aI_sL, aI_sA, aI_sM, aL_sI, aL_sL, aL_sA, aL_sM, gI_em, gI_emx, gI_pu, gI_wh, Bgives_0, Bgives_28, Bgives_30, Bgives_34, Bgives_43, Bgives_47, Bgives_48, Bgives_55, Bgives_62, Bgives_64, Bgives_69, Bgives_74, Bgives_76, Bgives_81, Bgives_85, Bgives_86, Bgives_103, Bgives_110, Bgives_112, Bgives_122, Bgives_124, oi_0, oi_1, oi_17, oi_20, oi_45, oi_48, oi_49, oi_59, oi_m2, P_emit, P_expression, P_finished, P_isSign, P_isWord, P_take, P_want]; try dsimp only
              refine ⟨Or.inl rfl, ?_⟩
              exact ⟨_, rfl, Or.inl ⟨rfl, by repeat (first | exact Fp.rf | (with_reducible refine Fp.vr ?_ ?_) | refine Fp.a ?_ rfl | refine Fp.i ?_ rfl | refine Fp.y ?_ rfl ⟨by lia, by lia⟩ | exact ⟨by lia, by lia⟩)⟩⟩
        · dsimp only [Option.toList, List.cons_append, List.nil_append, Nat.beq, gI_sI, gI_sL, gI_sA, gI_sM, gL_sI, gL_sL, gL_sA, gL_sM, aI_sI, aI_sL, aI_sA, aI_sM, aL_sI, aL_sL, aL_sA, aL_sM, gI_em, gI_emx, gI_pu, gI_wh]
          refine ⟨fun h32 => absurd h32 (by decide), fun h32 => ?_⟩
          clear h32
          apply hB
          dsimp only [rgo, rfd, Bgives, Nat.beq, rwp, rst, lv_args, rlk, rs1, rs2, rdl, rky, rct, rcs, rcd, rno, rsw, Value.category, List.filter, List.take, List.drop, List.reverse, List.reverseAux, List.cons_append, List.nil_append, Option.toList, Int.toNat, Int.reduceToNat, if_pos, if_neg, reduceIte, ↓reduceIte, Nat.reduceAdd, Nat.reduceEqDiff, Nat.reduceBEq, beq_self_eq_true, Bool.not_true, Bool.not_false, Bool.and_true, Bool.and_false, Bool.true_and, Bool.false_and, gI_sI, gI_sL, gI_sA, gI_sM, gL_sI, gL_sL, gL_sA, gL_sM, aI_sI, aI_sL, aI_sA, aI_sM, aL_sI, aL_sL, aL_sA, aL_sM, gI_em, gI_emx, gI_pu, gI_wh, Bgives_0, Bgives_28, Bgives_30, Bgives_34, Bgives_43, Bgives_47, Bgives_48, Bgives_55, Bgives_62, Bgives_64, Bgives_69, Bgives_74, Bgives_76, Bgives_81, Bgives_85, Bgives_86, Bgives_103, Bgives_110, Bgives_112, Bgives_122, Bgives_124, oi_0, oi_1, oi_17, oi_20, oi_45, oi_48, oi_49, oi_59, oi_m2, P_emit, P_expression, P_finished, P_isSign, P_isWord, P_take, P_want]; try dsimp only
          refine ⟨Or.inl rfl, ?_⟩
          exact ⟨_, rfl, Or.inl ⟨rfl, by repeat (first | exact Fp.rf | (with_reducible refine Fp.vr ?_ ?_) | refine Fp.a ?_ rfl | refine Fp.i ?_ rfl | refine Fp.y ?_ rfl ⟨by lia, by lia⟩ | exact ⟨by lia, by lia⟩)⟩⟩
      · dsimp only [Option.toList, List.cons_append, List.nil_append, Nat.beq, gI_sI, gI_sL, gI_sA, gI_sM, gL_sI, gL_sL, gL_sA, gL_sM, aI_sI, aI_sL, aI_sA, aI_sM, aL_sI, aL_sL, aL_sA, aL_sM, gI_em, gI_emx, gI_pu, gI_wh]
        refine ⟨rfl, (by decide), (⟨by lia, by lia⟩), fun w33 τ33 hq33 => ?_⟩
        obtain ⟨rfl, rfl⟩ := hq33
        dsimp only [Option.toList, List.cons_append, List.nil_append, Nat.beq, gI_sI, gI_sL, gI_sA, gI_sM, gL_sI, gL_sL, gL_sA, gL_sM, aI_sI, aI_sL, aI_sA, aI_sM, aL_sI, aL_sL, aL_sA, aL_sM, gI_em, gI_emx, gI_pu, gI_wh]
        refine ⟨rfl, (by decide), (⟨by lia, by lia⟩), fun w34 τ34 hq34 => ?_⟩
        obtain ⟨r34, rfl, hq34⟩ := hq34
        rcases hq34 with ⟨rfl, hp34, rfl⟩ | ⟨rfl, fa34, fb34, rfl⟩
        · dsimp only [Option.toList, List.cons_append, List.nil_append, Nat.beq, gI_sI, gI_sL, gI_sA, gI_sM, gL_sI, gL_sL, gL_sA, gL_sM, aI_sI, aI_sL, aI_sA, aI_sM, aL_sI, aL_sL, aL_sA, aL_sM, gI_em, gI_emx, gI_pu, gI_wh]
          try dsimp only [Option.toList, List.cons_append, List.nil_append, Nat.beq, gI_sI, gI_sL, gI_sA, gI_sM, gL_sI, gL_sL, gL_sA, gL_sM, aI_sI, aI_sL, aI_sA, aI_sM, aL_sI, aL_sL, aL_sA, aL_sM, gI_em, gI_emx, gI_pu, gI_wh] at hp34
          have g2 := h1.take (by assumption) rfl (kk - 5) (jj + 1) ⟨by omega, by omega⟩ ⟨by omega, by omega⟩
          refine ⟨fun h35 => ?_, fun h35 => absurd h35 (by decide)⟩
          clear h35
          apply hB
          dsimp only [rgo, rfd, Bgives, Nat.beq, rwp, rst, lv_args, rlk, rs1, rs2, rdl, rky, rct, rcs, rcd, rno, rsw, Value.category, List.filter, List.take, List.drop, List.reverse, List.reverseAux, List.cons_append, List.nil_append, Option.toList, Int.toNat, Int.reduceToNat, if_pos, if_neg, reduceIte, ↓reduceIte, Nat.reduceAdd, Nat.reduceEqDiff, Nat.reduceBEq, beq_self_eq_true, Bool.not_true, Bool.not_false, Bool.and_true, Bool.and_false, Bool.true_and, Bool.false_and, gI_sI, gI_sL, gI_sA, gI_sM, gL_sI, gL_sL, gL_sA, gL_sM, aI_sI, aI_sL, aI_sA, aI_sM, aL_sI, aL_sL, aL_sA, aL_sM, gI_em, gI_emx, gI_pu, gI_wh, Bgives_0, Bgives_28, Bgives_30, Bgives_34, Bgives_43, Bgives_47, Bgives_48, Bgives_55, Bgives_62, Bgives_64, Bgives_69, Bgives_74, Bgives_76, Bgives_81, Bgives_85, Bgives_86, Bgives_103, Bgives_110, Bgives_112, Bgives_122, Bgives_124, oi_0, oi_1, oi_17, oi_20, oi_45, oi_48, oi_49, oi_59, oi_m2, P_emit, P_expression, P_finished, P_isSign, P_isWord, P_take, P_want]; try dsimp only
          refine ⟨fun h36 => ?_, fun h36 => absurd h36 (by decide)⟩
          clear h36
          apply hB
          dsimp only [rgo, rfd, Bgives, Nat.beq, rwp, rst, lv_args, rlk, rs1, rs2, rdl, rky, rct, rcs, rcd, rno, rsw, Value.category, List.filter, List.take, List.drop, List.reverse, List.reverseAux, List.cons_append, List.nil_append, Option.toList, Int.toNat, Int.reduceToNat, if_pos, if_neg, reduceIte, ↓reduceIte, Nat.reduceAdd, Nat.reduceEqDiff, Nat.reduceBEq, beq_self_eq_true, Bool.not_true, Bool.not_false, Bool.and_true, Bool.and_false, Bool.true_and, Bool.false_and, gI_sI, gI_sL, gI_sA, gI_sM, gL_sI, gL_sL, gL_sA, gL_sM, aI_sI, aI_sL, aI_sA, aI_sM, aL_sI, aL_sL, aL_sA, aL_sM, gI_em, gI_emx, gI_pu, gI_wh, Bgives_0, Bgives_28, Bgives_30, Bgives_34, Bgives_43, Bgives_47, Bgives_48, Bgives_55, Bgives_62, Bgives_64, Bgives_69, Bgives_74, Bgives_76, Bgives_81, Bgives_85, Bgives_86, Bgives_103, Bgives_110, Bgives_112, Bgives_122, Bgives_124, oi_0, oi_1, oi_17, oi_20, oi_45, oi_48, oi_49, oi_59, oi_m2, P_emit, P_expression, P_finished, P_isSign, P_isWord, P_take, P_want]; try dsimp only
          apply hB
          dsimp only [rgo, rfd, Bgives, Nat.beq, rwp, rst, lv_args, rlk, rs1, rs2, rdl, rky, rct, rcs, rcd, rno, rsw, Value.category, List.filter, List.take, List.drop, List.reverse, List.reverseAux, List.cons_append, List.nil_append, Option.toList, Int.toNat, Int.reduceToNat, if_pos, if_neg, reduceIte, ↓reduceIte, Nat.reduceAdd, Nat.reduceEqDiff, Nat.reduceBEq, beq_self_eq_true, Bool.not_true, Bool.not_false, Bool.and_true, Bool.and_false, Bool.true_and, Bool.false_and, gI_sI, gI_sL, gI_sA, gI_sM, gL_sI, gL_sL, gL_sA, gL_sM, aI_sI, aI_sL, aI_sA, aI_sM, aL_sI, aL_sL, aL_sA, aL_sM, gI_em, gI_emx, gI_pu, gI_wh, Bgives_0, Bgives_28, Bgives_30, Bgives_34, Bgives_43, Bgives_47, Bgives_48, Bgives_55, Bgives_62, Bgives_64, Bgives_69, Bgives_74, Bgives_76, Bgives_81, Bgives_85, Bgives_86, Bgives_103, Bgives_110, Bgives_112, Bgives_122, Bgives_124, oi_0, oi_1, oi_17, oi_20, oi_45, oi_48, oi_49, oi_59, oi_m2, P_emit, P_expression, P_finished, P_isSign, P_isWord, P_take, P_want]; try dsimp only
          refine ⟨fun h37 => absurd h37 (by decide), fun h37 => ?_⟩
          clear h37
          apply hB
          dsimp only [rgo, rfd, Bgives, Nat.beq, rwp, rst, lv_args, rlk, rs1, rs2, rdl, rky, rct, rcs, rcd, rno, rsw, Value.category, List.filter, List.take, List.drop, List.reverse, List.reverseAux, List.cons_append, List.nil_append, Option.toList, Int.toNat, Int.reduceToNat, if_pos, if_neg, reduceIte, ↓reduceIte, Nat.reduceAdd, Nat.reduceEqDiff, Nat.reduceBEq, beq_self_eq_true, Bool.not_true, Bool.not_false, Bool.and_true, Bool.and_false, Bool.true_and, Bool.false_and, gI_sI, gI_sL, gI_sA, gI_sM, gL_sI, gL_sL, gL_sA, gL_sM, aI_sI, aI_sL, aI_sA, aI_sM, aL_sI, aL_sL, aL_sA, aL_sM, gI_em, gI_emx, gI_pu, gI_wh, Bgives_0, Bgives_28, Bgives_30, Bgives_34, Bgives_43, Bgives_47, Bgives_48, Bgives_55, Bgives_62, Bgives_64, Bgives_69, Bgives_74, Bgives_76, Bgives_81, Bgives_85, Bgives_86, Bgives_103, Bgives_110, Bgives_112, Bgives_122, Bgives_124, oi_0, oi_1, oi_17, oi_20, oi_45, oi_48, oi_49, oi_59, oi_m2, P_emit, P_expression, P_finished, P_isSign, P_isWord, P_take, P_want]; try dsimp only
          refine ⟨rfl, (by decide), (g2.xp), fun w38 τ38 hq38 => ?_⟩
          obtain ⟨r38, rfl, hq38⟩ := hq38
          rcases hq38 with ⟨rfl, hf38⟩ | ⟨rfl, hx38⟩
          · dsimp only [Option.toList, List.cons_append, List.nil_append, Nat.beq, gI_sI, gI_sL, gI_sA, gI_sM, gL_sI, gL_sL, gL_sA, gL_sM, aI_sI, aI_sL, aI_sA, aI_sM, aL_sI, aL_sL, aL_sA, aL_sM, gI_em, gI_emx, gI_pu, gI_wh]
            refine ⟨fun h39 => absurd h39 (by decide), fun h39 => ?_⟩
            clear h39
            apply hB
            dsimp only [rgo, rfd, Bgives, Nat.beq, rwp, rst, lv_args, rlk, rs1, rs2, rdl, rky, rct, rcs, rcd, rno, rsw, Value.category, List.filter, List.take, List.drop, List.reverse, List.reverseAux, List.cons_append, List.nil_append, Option.toList, Int.toNat, Int.reduceToNat, if_pos, if_neg, reduceIte, ↓reduceIte, Nat.reduceAdd, Nat.reduceEqDiff, Nat.reduceBEq, beq_self_eq_true, Bool.not_true, Bool.not_false, Bool.and_true, Bool.and_false, Bool.true_and, Bool.false_and, gI_sI, gI_sL, gI_sA, gI_sM, gL_sI, gL_sL, gL_sA, gL_sM, aI_sI, aI_sL, aI_sA, aI_sM, aL_sI, aL_sL, aL_sA, aL_sM, gI_em, gI_emx, gI_pu, gI_wh, Bgives_0, Bgives_28, Bgives_30, Bgives_34, Bgives_43, Bgives_47, Bgives_48, Bgives_55, Bgives_62, Bgives_64, Bgives_69, Bgives_74, Bgives_76, Bgives_81, Bgives_85, Bgives_86, Bgives_103, Bgives_110, Bgives_112, Bgives_122, Bgives_124, oi_0, oi_1, oi_17, oi_20, oi_45, oi_48, oi_49, oi_59, oi_m2, P_emit, P_expression, P_finished, P_isSign, P_isWord, P_take, P_want]; try dsimp only
            refine ⟨Or.inl rfl, ?_⟩
            exact ⟨_, rfl, Or.inl ⟨rfl, Fp.tr (by repeat (first | exact Fp.rf | (with_reducible refine Fp.vr ?_ ?_) | refine Fp.a ?_ rfl | refine Fp.i ?_ rfl | refine Fp.y ?_ rfl ⟨by lia, by lia⟩ | exact ⟨by lia, by lia⟩)) hf38.p⟩⟩
          · dsimp only [Option.toList, List.cons_append, List.nil_append, Nat.beq, gI_sI, gI_sL, gI_sA, gI_sM, gL_sI, gL_sL, gL_sA, gL_sM, aI_sI, aI_sL, aI_sA, aI_sM, aL_sI, aL_sL, aL_sA, aL_sM, gI_em, gI_emx, gI_pu, gI_wh]
            have hlt38 := t_lt hx38.2.2.1.1
            have hlz38 : gI σ 14 < gI τ38 14 := by have hlq : gI σ 14 + 1 < gI τ38 14 := hlt38; lia
            have hpe38 := g2.exp hx38 20 ⟨by omega, by omega⟩
            have nne38 := hpe38.nums
            have hro38 := t_le (x := 0) (Int.le_trans (t_0 hx38.2.1.1) hx38.2.2.2.2.2.2.1)
            have hrl38 := t_lt hx38.2.2.2.2.2.2.2
            have hcf38 := (hpe38.2.2.2.1 _ (nT_lt hro38 hrl38)).2.2.1
            have htk38 : gI σ 18 < gI τ38 18 := lt_nT (by lia) (by lia) (hpe38.tok (c := nT (gI σ 18)) (by simp)).1
            refine ⟨fun h40 => ?_, fun h40 => absurd h40 (by decide)⟩
            clear h40
            apply hB
            dsimp only [rgo, rfd, Bgives, Nat.beq, rwp, rst, lv_args, rlk, rs1, rs2, rdl, rky, rct, rcs, rcd, rno, rsw, Value.category, List.filter, List.take, List.drop, List.reverse, List.reverseAux, List.cons_append, List.nil_append, Option.toList, Int.toNat, Int.reduceToNat, if_pos, if_neg, reduceIte, ↓reduceIte, Nat.reduceAdd, Nat.reduceEqDiff, Nat.reduceBEq, beq_self_eq_true, Bool.not_true, Bool.not_false, Bool.and_true, Bool.and_false, Bool.true_and, Bool.false_and, gI_sI, gI_sL, gI_sA, gI_sM, gL_sI, gL_sL, gL_sA, gL_sM, aI_sI, aI_sL, aI_sA, aI_sM, aL_sI, aL_sL, aL_sA, aL_sM, gI_em, gI_emx, gI_pu, gI_wh, Bgives_0, Bgives_28, Bgives_30, Bgives_34, Bgives_43, Bgives_47, Bgives_48, Bgives_55, Bgives_62, Bgives_64, Bgives_69, Bgives_74, Bgives_76, Bgives_81, Bgives_85, Bgives_86, Bgives_103, Bgives_110, Bgives_112, Bgives_122, Bgives_124, oi_0, oi_1, oi_17, oi_20, oi_45, oi_48, oi_49, oi_59, oi_m2, P_emit, P_expression, P_finished, P_isSign, P_isWord, P_take, P_want]; try dsimp only
            refine ⟨fun h41 => absurd h41 (by decide), fun h41 => ?_⟩
            clear h41
            apply hB
            dsimp only [rgo, rfd, Bgives, Nat.beq, rwp, rst, lv_args, rlk, rs1, rs2, rdl, rky, rct, rcs, rcd, rno, rsw, Value.category, List.filter, List.take, List.drop, List.reverse, List.reverseAux, List.cons_append, List.nil_append, Option.toList, Int.toNat, Int.reduceToNat, if_pos, if_neg, reduceIte, ↓reduceIte, Nat.reduceAdd, Nat.reduceEqDiff, Nat.reduceBEq, beq_self_eq_true, Bool.not_true, Bool.not_false, Bool.and_true, Bool.and_false, Bool.true_and, Bool.false_and, gI_sI, gI_sL, gI_sA, gI_sM, gL_sI, gL_sL, gL_sA, gL_sM, aI_sI, aI_sL, aI_sA, aI_sM, aL_sI, aL_sL, aL_sA, aL_sM, gI_em, gI_emx, gI_pu, gI_wh, Bgives_0, Bgives_28, Bgives_30, Bgives_34, Bgives_43, Bgives_47, Bgives_48, Bgives_55, Bgives_62, Bgives_64, Bgives_69, Bgives_74, Bgives_76, Bgives_81, Bgives_85, Bgives_86, Bgives_103, Bgives_110, Bgives_112, Bgives_122, Bgives_124, oi_0, oi_1, oi_17, oi_20, oi_45, oi_48, oi_49, oi_59, oi_m2, P_emit, P_expression, P_finished, P_isSign, P_isWord, P_take, P_want]; try dsimp only
            apply hB
            dsimp only [rgo, rfd, Bgives, Nat.beq, rwp, rst, lv_args, rlk, rs1, rs2, rdl, rky, rct, rcs, rcd, rno, rsw, Value.category, List.filter, List.take, List.drop, List.reverse, List.reverseAux, List.cons_append, List.nil_append, Option.toList, Int.toNat, Int.reduceToNat, if_pos, if_neg, reduceIte, ↓reduceIte, Nat.reduceAdd, Nat.reduceEqDiff, Nat.reduceBEq, beq_self_eq_true, Bool.not_true, Bool.not_false, Bool.and_true, Bool.and_false, Bool.true_and, Bool.false_and, gI_sI, gI_sL, gI_sA, gI_sM, gL_sI, gL_sL, gL_sA, gL_sM, aI_sI, aI_sL, aI_sA, aI_sM, aL_sI, aL_sL, aL_sA, aL_sM, gI_em, gI_emx, gI_pu, gI_wh, Bgives_0, Bgives_28, Bgives_30, Bgives_34, Bgives_43, Bgives_47, Bgives_48, Bgives_55, Bgives_62, Bgives_64, Bgives_69, Bgives_74, Bgives_76, Bgives_81, Bgives_85, Bgives_86, Bgives_103, Bgives_110, Bgives_112, Bgives_122, Bgives_124, oi_0, oi_1, oi_17, oi_20, oi_45, oi_48, oi_49, oi_59, oi_m2, P_emit, P_expression, P_finished, P_isSign, P_isWord, P_take, P_want]; try dsimp only
            refine ⟨fun h42 => absurd h42 (by decide), fun h42 => ?_⟩
            clear h42
            apply hB
            dsimp only [rgo, rfd, Bgives, Nat.beq, rwp, rst, lv_args, rlk, rs1, rs2, rdl, rky, rct, rcs, rcd, rno, rsw, Value.category, List.filter, List.take, List.drop, List.reverse, List.reverseAux, List.cons_append, List.nil_append, Option.toList, Int.toNat, Int.reduceToNat, if_pos, if_neg, reduceIte, ↓reduceIte, Nat.reduceAdd, Nat.reduceEqDiff, Nat.reduceBEq, beq_self_eq_true, Bool.not_true, Bool.not_false, Bool.and_true, Bool.and_false, Bool.true_and, Bool.false_and, gI_sI, gI_sL, gI_sA, gI_sM, gL_sI, gL_sL, gL_sA, gL_sM, aI_sI, aI_sL, aI_sA, aI_sM, aL_sI, aL_sL, aL_sA, aL_sM, gI_em, gI_emx, gI_pu, gI_wh, Bgives_0, Bgives_28, Bgives_30, Bgives_34, Bgives_43, Bgives_47, Bgives_48, Bgives_55, Bgives_62, Bgives_64, Bgives_69, Bgives_74, Bgives_76, Bgives_81, Bgives_85, Bgives_86, Bgives_103, Bgives_110, Bgives_112, Bgives_122, Bgives_124, oi_0, oi_1, oi_17, oi_20, oi_45, oi_48, oi_49, oi_59, oi_m2, P_emit, P_expression, P_finished, P_isSign, P_isWord, P_take, P_want]; try dsimp only
            apply hB
            dsimp only [rgo, rfd, Bgives, Nat.beq, rwp, rst, lv_args, rlk, rs1, rs2, rdl, rky, rct, rcs, rcd, rno, rsw, Value.category, List.filter, List.take, List.drop, List.reverse, List.reverseAux, List.cons_append, List.nil_append, Option.toList, Int.toNat, Int.reduceToNat, if_pos, if_neg, reduceIte, ↓reduceIte, Nat.reduceAdd, Nat.reduceEqDiff, Nat.reduceBEq, beq_self_eq_true, Bool.not_true, Bool.not_false, Bool.and_true, Bool.and_false, Bool.true_and, Bool.false_and, gI_sI, gI_sL, gI_sA, gI_sM, gL_sI, gL_sL, gL_sA, gL_sM, aI_sI, aI_sL, aI_sA, aI_sM, aL_sI, aL_sL, aL_sA, aL_sM, gI_em, gI_emx, gI_pu, gI_wh, Bgives_0, Bgives_28, Bgives_30, Bgives_34, Bgives_43, Bgives_47, Bgives_48, Bgives_55, Bgives_62, Bgives_64, Bgives_69, Bgives_74, Bgives_76, Bgives_81, Bgives_85, Bgives_86, Bgives_103, Bgives_110, Bgives_112, Bgives_122, Bgives_124, oi_0, oi_1, oi_17, oi_20, oi_45, oi_48, oi_49, oi_59, oi_m2, P_emit, P_expression, P_finished, P_isSign, P_isWord, P_take, P_want]; try dsimp only
            refine ⟨rfl, (by decide), (⟨by lia, by lia⟩), fun w43 τ43 hq43 => ?_⟩
            obtain ⟨rfl, rfl⟩ := hq43
            dsimp only [Option.toList, List.cons_append, List.nil_append, Nat.beq, gI_sI, gI_sL, gI_sA, gI_sM, gL_sI, gL_sL, gL_sA, gL_sM, aI_sI, aI_sL, aI_sA, aI_sM, aL_sI, aL_sL, aL_sA, aL_sM, gI_em, gI_emx, gI_pu, gI_wh]
            refine ⟨rfl, fun h44 => absurd h44 (by decide), fun h44 => ?_⟩
            clear h44
            apply hB
            dsimp only [rgo, rfd, Bgives, Nat.beq, rwp, rst, lv_args, rlk, rs1, rs2, rdl, rky, rct, rcs, rcd, rno, rsw, Value.category, List.filter, List.take, List.drop, List.reverse, List.reverseAux, List.cons_append, List.nil_append, Option.toList, Int.toNat, Int.reduceToNat, if_pos, if_neg, reduceIte, ↓reduceIte, Nat.reduceAdd, Nat.reduceEqDiff, Nat.reduceBEq, beq_self_eq_true, Bool.not_true, Bool.not_false, Bool.and_true, Bool.and_false, Bool.true_and, Bool.false_and, gI_sI, gI_sL, gI_sA, gI_sM, gL_sI, gL_sL, gL_sA, gL_sM, aI_sI, aI_sL, aI_sA, aI_sM, aL_sI, aL_sL, aL_sA, aL_sM, gI_em, gI_emx, gI_pu, gI_wh, Bgives_0, Bgives_28, Bgives_30, Bgives_34, Bgives_43, Bgives_47, Bgives_48, Bgives_55, Bgives_62, Bgives_64, Bgives_69, Bgives_74, Bgives_76, Bgives_81, Bgives_85, Bgives_86, Bgives_103, Bgives_110, Bgives_112, Bgives_122, Bgives_124, oi_0, oi_1, oi_17, oi_20, oi_45, oi_48, oi_49, oi_59, oi_m2, P_emit, P_expression, P_finished, P_isSign, P_isWord, P_take, P_want]; try dsimp only
            refine ⟨rfl, ?_⟩
            apply hB
            dsimp only [rgo, rfd, Bgives, Nat.beq, rwp, rst, lv_args, rlk, rs1, rs2, rdl, rky, rct, rcs, rcd, rno, rsw, Value.category, List.filter, List.take, List.drop, List.reverse, List.reverseAux, List.cons_append, List.nil_append, Option.toList, Int.toNat, Int.reduceToNat, if_pos, if_neg, reduceIte, ↓reduceIte, Nat.reduceAdd, Nat.reduceEqDiff, Nat.reduceBEq, beq_self_eq_true, Bool.not_true, Bool.not_false, Bool.and_true, Bool.and_false, Bool.true_and, Bool.false_and, gI_sI, gI_sL, gI_sA, gI_sM, gL_sI, gL_sL, gL_sA, gL_sM, aI_sI, aI_sL, aI_sA, aI_sM, aL_sI, aL_sL, aL_sA, aL_sM, gI_em, gI_emx, gI_pu, gI_wh, Bgives_0, Bgives_28, Bgives_30, Bgives_34, Bgives_43, Bgives_47, Bgives_48, Bgives_55, Bgives_62, Bgives_64, Bgives_69, Bgives_74, Bgives_76, Bgives_81, Bgives_85, Bgives_86, Bgives_103, Bgives_110, Bgives_112, Bgives_122, Bgives_124, oi_0, oi_1, oi_17, oi_20, oi_45, oi_48, oi_49, oi_59, oi_m2, P_emit, P_expression, P_finished, P_isSign, P_isWord, P_take, P_want]; try dsimp only
            refine ⟨rfl, (in_21 (by lia) (by lia)), rfl, (by decide), (⟨by lia, by lia⟩), fun w45 τ45 hq45 => ?_⟩
            obtain ⟨r45, rfl, hq45⟩ := hq45
            rcases hq45 with ⟨rfl, hp45, hw45, rfl⟩ | ⟨rfl, fa45, fb45, rfl⟩
            · dsimp only [Option.toList, List.cons_append, List.nil_append, Nat.beq, gI_sI, gI_sL, gI_sA, gI_sM, gL_sI, gL_sL, gL_sA, gL_sM, aI_sI, aI_sL, aI_sA, aI_sM, aL_sI, aL_sL, aL_sA, aL_sM, gI_em, gI_emx, gI_pu, gI_wh]
              try dsimp only [Option.toList, List.cons_append, List.nil_append, Nat.beq, gI_sI, gI_sL, gI_sA, gI_sM, gL_sI, gL_sL, gL_sA, gL_sM, aI_sI, aI_sL, aI_sA, aI_sM, aL_sI, aL_sL, aL_sA, aL_sM, gI_em, gI_emx, gI_pu, gI_wh] at hp45
              refine ⟨fun h46 => ?_, fun h46 => absurd h46 (by decide)⟩
              clear h46
              apply hB
              dsimp only [rgo, rfd, Bgives, Nat.beq, rwp, rst, lv_args, rlk, rs1, rs2, rdl, rky, rct, rcs, rcd, rno, rsw, Value.category, List.filter, List.take, List.drop, List.reverse, List.reverseAux, List.cons_append, List.nil_append, Option.toList, Int.toNat, Int.reduceToNat, if_pos, if_neg, reduceIte, ↓reduceIte, Nat.reduceAdd, Nat.reduceEqDiff, Nat.reduceBEq, beq_self_eq_true, Bool.not_true, Bool.not_false, Bool.and_true, Bool.and_false, Bool.true_and, Bool.false_and, gI_sI, gI_sL, gI_sA, gI_sM, gL_sI, gL_sL, gL_sA, gL_sM, aI_sI, aI_sL, aI_sA, aI_sM, aL_sI, aL_sL, aL_sA, aL_sM, gI_em, gI_emx, gI_pu, gI_wh, Bgives_0, Bgives_28, Bgives_30, Bgives_34, Bgives_43, Bgives_47, Bgives_48, Bgives_55, Bgives_62, Bgives_64, Bgives_69, Bgives_74, Bgives_76, Bgives_81, Bgives_85, Bgives_86, Bgives_103, Bgives_110, Bgives_112, Bgives_122, Bgives_124, oi_0, oi_1, oi_17, oi_20, oi_45, oi_48, oi_49, oi_59, oi_m2, P_emit, P_expression, P_finished, P_isSign, P_isWord, P_take, P_want]; try dsimp only
              refine ⟨rfl, (by decide), (⟨by lia, by lia⟩), fun w47 τ47 hq47 => ?_⟩
              obtain ⟨rfl, rfl⟩ := hq47
              dsimp only [Option.toList, List.cons_append, List.nil_append, Nat.beq, gI_sI, gI_sL, gI_sA, gI_sM, gL_sI, gL_sL, gL_sA, gL_sM, aI_sI, aI_sL, aI_sA, aI_sM, aL_sI, aL_sL, aL_sA, aL_sM, gI_em, gI_emx, gI_pu, gI_wh]
              refine ⟨rfl, (by decide), (by
                have b1 := hPJ.step (gI σ 14) nn.1 (by omega)
                have b2 := b1.take (by assumption) rfl (kk - 5) (jj + 1) ⟨by omega, by omega⟩ ⟨by omega, by omega⟩
                have b3 := b2.exp hx38 (kk - 5) ⟨by omega, by omega⟩
                have b4 := b3.g0x (o := 49) (a := 1) (b := (gI τ38 33)) (t := gI σ 14) (P := gI σ 18) (Or.inr rfl) rfl nn.1 (by assumption) (by omega)
                have eF : FF (g0 τ38 49 1 (gI τ38 33) (gI σ 14) (gI σ 18)) = FF σ := by
                  rw [FF_g0, FF_ff hx38.1.f, FF_sI (k := 14) (by omega), FF_em]
                rw [← eF] at b4
                exact ⟨mm, _, _, b4, by omega, MF.of (MF.ff hx38.1.f (MF.of hMF rfl rfl rfl)) rfl rfl rfl⟩), fun w48 τ48 hq48 => ?_⟩
              obtain ⟨r48, rfl, hq48⟩ := hq48
              rcases hq48 with ⟨rfl, hf48⟩ | ⟨rfl, hf48, hx48, hm48, hle48⟩
              · dsimp only [Option.toList, List.cons_append, List.nil_append, Nat.beq, gI_sI, gI_sL, gI_sA, gI_sM, gL_sI, gL_sL, gL_sA, gL_sM, aI_sI, aI_sL, aI_sA, aI_sM, aL_sI, aL_sL, aL_sA, aL_sM, gI_em, gI_emx, gI_pu, gI_wh]
                refine ⟨Or.inl rfl, ?_⟩
                exact ⟨_, rfl, Or.inl ⟨rfl, Fp.tr ((Fp.tr (by repeat (first | exact Fp.rf | (with_reducible refine Fp.vr ?_ ?_) | refine Fp.a ?_ rfl | refine Fp.i ?_ rfl | refine Fp.y ?_ rfl ⟨by lia, by lia⟩ | exact ⟨by lia, by lia⟩)) hx38.1.p).tr (by repeat (first | exact Fp.rf | (with_reducible refine Fp.vr ?_ ?_) | refine Fp.a ?_ rfl | refine Fp.i ?_ rfl | refine Fp.y ?_ rfl ⟨by lia, by lia⟩ | exact ⟨by lia, by lia⟩))) hf48⟩⟩
              · dsimp only [Option.toList, List.cons_append, List.nil_append, Nat.beq, gI_sI, gI_sL, gI_sA, gI_sM, gL_sI, gL_sL, gL_sA, gL_sM, aI_sI, aI_sL, aI_sA, aI_sM, aL_sI, aL_sL, aL_sA, aL_sM, gI_em, gI_emx, gI_pu, gI_wh]
                refine ⟨Or.inr rfl, ?_⟩
                refine ⟨_, rfl, Or.inr ⟨rfl, Fp.tr ((Fp.tr (by repeat (first | exact Fp.rf | (with_reducible refine Fp.vr ?_ ?_) | refine Fp.a ?_ rfl | refine Fp.i ?_ rfl | refine Fp.y ?_ rfl ⟨by lia, by lia⟩ | exact ⟨by lia, by lia⟩)) hx38.1.p).tr (by repeat (first | exact Fp.rf | (with_reducible refine Fp.vr ?_ ?_) | refine Fp.a ?_ rfl | refine Fp.i ?_ rfl | refine Fp.y ?_ rfl ⟨by lia, by lia⟩ | exact ⟨by lia, by lia⟩))) hf48, fun mn k j h hk hj => ?_, hm48, ?_⟩⟩
                · have b1 := h.step (gI σ 14) nn.1 (by omega)
                  have b2 := b1.take (by assumption) rfl (k - 5) (j + 1) ⟨by omega, by omega⟩ ⟨by omega, by omega⟩
                  have b3 := b2.exp hx38 (k - 5) ⟨by omega, by omega⟩
                  have b4 := b3.g0x (o := 49) (a := 1) (b := (gI τ38 33)) (t := gI σ 14) (P := gI σ 18) (Or.inr rfl) rfl nn.1 (by assumption) (by omega)
                  have eF : FF (g0 τ38 49 1 (gI τ38 33) (gI σ 14) (gI σ 18)) = FF σ := by
                    rw [FF_g0, FF_ff hx38.1.f, FF_sI (k := 14) (by omega), FF_em]
                  rw [← eF] at b4
                  have b := hx48 mn _ _ b4 (by omega)
                  exact b.wk k j ⟨by omega, by omega⟩ ⟨by omega, by omega⟩
                · have hz : gI τ38 14 + 1 ≤ gI τ48 14 := hle48
                  lia
            · dsimp only [Option.toList, List.cons_append, List.nil_append, Nat.beq, gI_sI, gI_sL, gI_sA, gI_sM, gL_sI, gL_sL, gL_sA, gL_sM, aI_sI, aI_sL, aI_sA, aI_sM, aL_sI, aL_sL, aL_sA, aL_sM, gI_em, gI_emx, gI_pu, gI_wh]
              refine ⟨fun h49 => absurd h49 (by decide), fun h49 => ?_⟩
              clear h49
              apply hB
              dsimp only [rgo, rfd, Bgives, Nat.beq, rwp, rst, lv_args, rlk, rs1, rs2, rdl, rky, rct, rcs, rcd, rno, rsw, Value.category, List.filter, List.take, List.drop, List.reverse, List.reverseAux, List.cons_append, List.nil_append, Option.toList, Int.toNat, Int.reduceToNat, if_pos, if_neg, reduceIte, ↓reduceIte, Nat.reduceAdd, Nat.reduceEqDiff, Nat.reduceBEq, beq_self_eq_true, Bool.not_true, Bool.not_false, Bool.and_true, Bool.and_false, Bool.true_and, Bool.false_and, gI_sI, gI_sL, gI_sA, gI_sM, gL_sI, gL_sL, gL_sA, gL_sM, aI_sI, aI_sL, aI_sA, aI_sM, aL_sI, aL_sL, aL_sA, aL_sM, gI_em, gI_emx, gI_pu, gI_wh, Bgives_0, Bgives_28, Bgives_30, Bgives_34, Bgives_43, Bgives_47, Bgives_48, Bgives_55, Bgives_62, Bgives_64, Bgives_69, Bgives_74, Bgives_76, Bgives_81, Bgives_85, Bgives_86, Bgives_103, Bgives_110, Bgives_112, Bgives_122, Bgives_124, oi_0, oi_1, oi_17, oi_20, oi_45, oi_48, oi_49, oi_59, oi_m2, P_emit, P_expression, P_finished, P_isSign, P_isWord, P_take, P_want]; try dsimp only
              refine ⟨Or.inl rfl, ?_⟩
              exact ⟨_, rfl, Or.inl ⟨rfl, (Fp.tr (by repeat (first | exact Fp.rf | (with_reducible refine Fp.vr ?_ ?_) | refine Fp.a ?_ rfl | refine Fp.i ?_ rfl | refine Fp.y ?_ rfl ⟨by lia, by lia⟩ | exact ⟨by lia, by lia⟩)) hx38.1.p).tr (by repeat (first | exact Fp.rf | (with_reducible refine Fp.vr ?_ ?_) | refine Fp.a ?_ rfl | refine Fp.i ?_ rfl | refine Fp.y ?_ rfl ⟨by lia, by lia⟩ | exact ⟨by lia, by lia⟩))⟩⟩
        · dsimp only [Option.toList, List.cons_append, List.nil_append, Nat.beq, gI_sI, gI_sL, gI_sA, gI_sM, gL_sI, gL_sL, gL_sA, gL_sM, aI_sI, aI_sL, aI_sA, aI_sM, aL_sI, aL_sL, aL_sA, aL_sM, gI_em, gI_emx, gI_pu, gI_wh]
          refine ⟨fun h50 => absurd h50 (by decide), fun h50 => ?_⟩
          clear h50
          apply hB
          dsimp only [rgo, rfd, Bgives, Nat.beq, rwp, rst, lv_args, rlk, rs1, rs2, rdl, rky, rct, rcs, rcd, rno, rsw, Value.category, List.filter, List.take, List.drop, List.reverse, List.reverseAux, List.cons_append, List.nil_append, Option.toList, Int.toNat, Int.reduceToNat, if_pos, if_neg, reduceIte, ↓reduceIte, Nat.reduceAdd, Nat.reduceEqDiff, Nat.reduceBEq, beq_self_eq_true, Bool.not_true, Bool.not_false, Bool.and_true, Bool.and_false, Bool.true_and, Bool.false_and, gI_sI, gI_sL, gI_sA, gI_sM, gL_sI, gL_sL, gL_sA, gL_sM, aI_sI, aI_sL, aI_sA, aI_sM, aL_sI, aL_sL, aL_sA, aL_sM, gI_em, gI_emx, gI_pu, gI_wh, Bgives_0, Bgives_28, Bgives_30, Bgives_34, Bgives_43, Bgives_47, Bgives_48, Bgives_55, Bgives_62, Bgives_64, Bgives_69, Bgives_74, Bgives_76, Bgives_81, Bgives_85, Bgives_86, Bgives_103, Bgives_110, Bgives_112, Bgives_122, Bgives_124, oi_0, oi_1, oi_17, oi_20, oi_45, oi_48, oi_49, oi_59, oi_m2, P_emit, P_expression, P_finished, P_isSign, P_isWord, P_take, P_want]; try dsimp only
          refine ⟨Or.inl rfl, ?_⟩
          exact ⟨_, rfl, Or.inl ⟨rfl, by repeat (first | exact Fp.rf | (with_reducible refine Fp.vr ?_ ?_) | refine Fp.a ?_ rfl | refine Fp.i ?_ rfl | refine Fp.y ?_ rfl ⟨by lia, by lia⟩ | exact ⟨by lia, by lia⟩)⟩⟩
    next => exact hP.elim
theorem m_gives (l : Launch) : RMet l 9 65 P_gives Q_gives := by
  refine RMet.by Bgives [(20, P_emit, Q_emit), (27, P_expression, Q_expression), (69, P_finished, Q_finished), (14, P_isSign, Q_isSign), (15, P_isWord, Q_isWord), (17, P_take, Q_take), (18, P_want, Q_want)] rogives okBgives (ctc (m_emit l) (by decide) (ctc (m_expression l) (by decide) (ctc (m_finished l) (by decide) (ctc (m_isSign l) (by decide) (ctc (m_isWord l) (by decide) (ctc (m_take l) (by decide) (ctc (m_want l) (by decide) ct0))))))) ?_ b_gives
  · intro As σ hP
    unfold P_gives at hP
    split at hP
    next => exact Nat.le_of_ble_eq_true rfl
    next => exact hP.elim
set_option maxRecDepth 100000 in
theorem e_gives (l : Launch) : RMetE l 9 65 P_gives Q_gives := by
  refine RMetE.by Bgives [(20, P_emit, Q_emit), (27, P_expression, Q_expression), (69, P_finished, Q_finished), (14, P_isSign, Q_isSign), (15, P_isWord, Q_isWord), (17, P_take, Q_take), (18, P_want, Q_want)] rfl rfl rogives okBgives (ctEc (e_emit l) (by decide) (ctEc (e_expression l) (by decide) (ctEc (e_finished l) (by decide) (ctEc (e_isSign l) (by decide) (ctEc (e_isWord l) (by decide) (ctEc (e_take l) (by decide) (ctEc (e_want l) (by decide) ctE0))))))) ?_ b_gives
  · intro As σ hP
    unfold P_gives at hP
    split at hP
    next => exact Nat.le_of_ble_eq_true rfl
    next => exact hP.elim

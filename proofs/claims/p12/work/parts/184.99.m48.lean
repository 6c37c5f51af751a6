def iFu (k : Nat) : Bool := k == 66 || k == 67 || k == 92 || k == 100 || k == 103 || (112 ≤ k && k ≤ 117)
def gFu (k : Nat) : Bool := k == 93 || k == 94
def aFu (k : Nat) : Bool := k == 95 || k == 97 || (104 ≤ k && k ≤ 107) || k == 109 || k == 111
def lFu (k : Nat) : Bool := k == 96 || k == 98 || k == 99 || k == 101 || k == 102 || k == 108 || k == 110
def Fu (σ τ : RS) : Prop := (∀ k, iFu k = false → gI τ k = gI σ k) ∧ (∀ k, gFu k = false → gL τ k = gL σ k) ∧ (∀ k, aFu k = false → aI τ k = aI σ k) ∧ ∀ k, lFu k = false → aL τ k = aL σ k
theorem Fu.rf {σ : RS} : Fu σ σ := ⟨fun _ _ => rfl, fun _ _ => rfl, fun _ _ => rfl, fun _ _ => rfl⟩
theorem Fu.tr {σ τ υ : RS} (h1 : Fu σ τ) (h2 : Fu τ υ) : Fu σ υ := ⟨fun k hk => (h2.1 k hk).trans (h1.1 k hk), fun k hk => (h2.2.1 k hk).trans (h1.2.1 k hk), fun k hk => (h2.2.2.1 k hk).trans (h1.2.2.1 k hk), fun k hk => (h2.2.2.2 k hk).trans (h1.2.2.2 k hk)⟩
theorem Fu.i {σ τ : RS} (h : Fu σ τ) {k : Nat} {v : Int32} (hk : iFu k = true) : Fu σ (sI τ k v) := ⟨fun j hj => by
  rw [gI_sI, nb_ne (fun q => by subst q; rw [hk] at hj; cases hj)]
  exact h.1 j hj, h.2.1, h.2.2.1, h.2.2.2⟩
theorem Fu.g {σ τ : RS} (h : Fu σ τ) {k : Nat} {v : Int64} (hk : gFu k = true) : Fu σ (sL τ k v) := ⟨h.1, fun j hj => by
  rw [gL_sL, nb_ne (fun q => by subst q; rw [hk] at hj; cases hj)]
  exact h.2.1 j hj, h.2.2.1, h.2.2.2⟩
theorem Fu.a {σ τ : RS} (h : Fu σ τ) {k : Nat} {f : Nat → Int32} (hk : aFu k = true) : Fu σ (sA τ k f) := ⟨h.1, h.2.1, fun j hj => by
  rw [aI_sA, nb_ne (fun q => by subst q; rw [hk] at hj; cases hj)]
  exact h.2.2.1 j hj, h.2.2.2⟩
theorem Fu.m {σ τ : RS} (h : Fu σ τ) {k : Nat} {f : Nat → Int64} (hk : lFu k = true) : Fu σ (sM τ k f) := ⟨h.1, h.2.1, h.2.2.1, fun j hj => by
  rw [aL_sM, nb_ne (fun q => by subst q; rw [hk] at hj; cases hj)]
  exact h.2.2.2 j hj⟩
theorem Fw.v {σ τ : RS} (h : Fw σ τ) : Fu σ τ := by
  refine ⟨fun k hk => h.1 k ?_, h.2.1, h.2.2.1, h.2.2.2⟩
  unfold iFu at hk
  unfold iFw
  simp only [Bool.or_eq_false_iff, Bool.and_eq_false_imp, decide_eq_true_eq, decide_eq_false_iff_not, beq_eq_false_iff_ne] at hk ⊢
  omega
theorem PJ.fv {σ τ : RS} (h : PJ σ) (hf : Fu σ τ) : PJ τ := by
  obtain ⟨f, s, k, j, hp⟩ := h
  have h1 := hp.1.1
  have e14 : gI (sI (sA τ 59 f) 62 0) 14 = gI (sI (sA σ 59 f) 62 0) 14 := hf.1 14 rfl
  refine ⟨f, s, k, j, hp.mv (σ' := sI (sA τ 59 f) 62 0) k j ⟨by rw [e14]; exact Int.le_refl _, by rw [e14]; exact h1.2⟩ ⟨hp.1.2.1.2.2, by rw [e14]; omega⟩ ⟨hp.1.2.2.2.2.2.2, by rw [e14]; omega⟩ True.intro (hf.1 17 rfl) (hf.1 49 rfl) rfl (hf.1 42 rfl) (hf.1 36 rfl) (hf.2.2.1 63 rfl) (hf.2.2.1 64 rfl) (hf.2.2.1 65 rfl) (hf.2.2.1 43 rfl) (hf.2.2.1 37 rfl) (hf.2.2.1 39 rfl) (hf.2.2.1 40 rfl) (hf.2.2.1 41 rfl) (hf.1 18 rfl) (hf.2.2.1 19 rfl) (hf.2.2.1 20 rfl) (hf.2.2.1 21 rfl) (hf.2.2.1 22 rfl) (hf.2.2.1 23 rfl) (hf.2.2.1 24 rfl) (hf.2.2.1 50 rfl) (hf.2.2.1 51 rfl) (hf.2.2.1 52 rfl) (hf.2.2.1 53 rfl) (hf.2.2.1 54 rfl) (hf.2.2.1 55 rfl) (hf.2.2.1 56 rfl) (hf.2.2.1 57 rfl) (hf.2.2.1 58 rfl) rfl (hf.2.2.1 60 rfl) (hf.2.2.1 61 rfl) (hf.2.2.1 3 rfl) (hf.2.2.1 6 rfl) (hgz := fun z => z.same (hf.2.2.1 6 rfl) (hf.2.2.1 38 rfl) (hf.2.2.1 44 rfl))⟩
theorem nTq {x : Int32} (h0 : 0 ≤ x) (q : Int32) (hq : 0 ≤ q) {z : Nat} (hz : nT q = z) : x = q ↔ nT x = z := ⟨fun e => by rw [e, hz], fun e => nTi e q hz hq h0⟩
theorem FV.px {σ X : RS} {c : Int32} {μ : Nat} (h : PK σ) (hv : FV σ X (nT c) μ) (h0 : 0 ≤ c) (hc : nT c < nT (gI σ 18)) (ho : aI σ 19 (nT c) ≤ 18) (hec : EC σ (nT c)) : (0 ≤ c ∧ c < 4000) ∧ (0 ≤ aI X 22 c.toNatClampNeg ∧ aI X 22 c.toNatClampNeg ≤ 500) ∧ (1 ≤ (aI X 19 c.toNatClampNeg) ∧ (aI X 19 c.toNatClampNeg) ≤ 18) ∧ (((aI X 19 c.toNatClampNeg) = 2 ∨ (aI X 19 c.toNatClampNeg) = 3 ∨ (aI X 19 c.toNatClampNeg) = 4 ∨ (aI X 19 c.toNatClampNeg) = 17) → 0 ≤ (aI X 83 c.toNatClampNeg) ∧ (aI X 83 c.toNatClampNeg) < 60) ∧ (((aI X 19 c.toNatClampNeg) = 8 ∨ (aI X 19 c.toNatClampNeg) = 10 ∨ (aI X 19 c.toNatClampNeg) = 12) → 0 ≤ (gI X 100) ∧ (gI X 100) < 300) ∧ (((aI X 19 c.toNatClampNeg) = 9 ∨ (aI X 19 c.toNatClampNeg) = 11 ∨ (aI X 19 c.toNatClampNeg) = 14 ∨ (aI X 19 c.toNatClampNeg) = 13) → 1 ≤ (gI X 100) ∧ (gI X 100) ≤ 300) := by
  obtain ⟨v1, v2, ⟨v3, v4⟩, v5, E, s, e1, e2, e3, e4⟩ := hv
  obtain ⟨E0, E', s0, s', p⟩ := h.j.pc hc
  obtain rfl : E0 = E := Option.some.inj (p.he.symm.trans e1)
  have r19 := v1.2.2.1 19 rfl
  have r22 := v1.2.2.1 22 rfl
  have r83 := v1.2.2.1 83 rfl
  have v42 := h.j.v
  have h4 := p.c4
  have hle := no_le E0
  have hl := p.le
  have hx : gI X 100 ≤ 251 := i32 (n := 251) v4 (by omega) 251 (by decide) (by decide)
  rw [r19, r22, r83]
  have ho1 := p.hce.1.1
  have on : 1 ≤ nT (aI σ 19 (nT c)) ∧ nT (aI σ 19 (nT c)) ≤ 18 := ⟨nT_le (x := 1) (by decide) ho1, nT_le (y := 18) (by lia) ho⟩
  obtain ⟨n1, n2, n3, n4⟩ := eSt_no on p.es
  have w : ∀ {m : Int32} {n : Nat}, aI σ 19 (nT c) = m → nT m = n → nT (aI σ 19 (nT c)) = n := fun q1 q2 => by rw [q1, q2]
  refine ⟨⟨h0, t_lt (by have := t_nT h0; show _ < (4000 : Int); omega)⟩, p.hce.2.1, ⟨ho1, ho⟩, fun q => ?_, fun q => ⟨v4, by lia⟩, fun q => ⟨?_, by lia⟩⟩
  · have z := hec.1 q
    exact ⟨z.1, by have z2 : aI σ 83 (nT c) < gI σ 42 := z.2; have z3 : aI σ 83 (nT c) < 60 := by lia
                   exact z3⟩
  · have q : aI σ 19 (nT c) = 9 ∨ aI σ 19 (nT c) = 11 ∨ aI σ 19 (nT c) = 14 ∨ aI σ 19 (nT c) = 13 := q
    have h1 : 1 ≤ no E0 := by
      rcases q with q | q | q | q
      · have := n2 (Or.inl (w q (by decide))); omega
      · have := n2 (Or.inr (Or.inl (w q (by decide)))); omega
      · have := n2 (Or.inr (Or.inr (w q (by decide)))); omega
      · exact n4 (w q (by decide))
    apply t_le
    have := t_nT v4
    show (1 : Int) ≤ _
    omega
theorem FV.ps {σ X : RS} {c : Int32} {μ : Nat} (h : PK σ) (hv : FV σ X (nT c) μ) (h0 : 0 ≤ c) (hc : nT c < nT (gI σ 18)) (ho : 19 ≤ aI σ 19 (nT c)) : FSP X c := by
  obtain ⟨v1, v2, ⟨v3, v4⟩, v5, E, s, e1, e2, e3, e4⟩ := hv
  have hjl := FM.jl h v5 e4
  obtain ⟨E0, E', s0, s', p⟩ := h.j.pc hc
  have r19 := v1.2.2.1 19 rfl
  have r20 := v1.2.2.1 20 rfl
  have r22 := v1.2.2.1 22 rfl
  have hx : gI X 103 ≤ 501 := i32 (n := 501) v3 hjl 501 (by decide) (by decide)
  have h4 := p.c4
  obtain ⟨hth, -⟩ := h.j.th
  have hce := p.hce
  unfold FSP
  rw [r19, r20, r22]
  refine ⟨⟨h0, t_lt (by have := t_nT h0; show _ < (4000 : Int); omega)⟩, hce.2.1, ⟨ho, hce.1.2⟩, fun q => ?_, fun q => ?_, ⟨v3, by lia⟩, fun _ => by lia, v2⟩
  · have hk : kop (nT (aI σ 19 (nT c))) = true := by
      have q : (23 ≤ aI σ 19 (nT c) ∧ aI σ 19 (nT c) ≤ 42) ∨ (50 ≤ aI σ 19 (nT c) ∧ aI σ 19 (nT c) ≤ 53) := q
      unfold kop
      simp only [Bool.or_eq_true, Bool.and_eq_true, decide_eq_true_eq]
      rcases q with ⟨q1, q2⟩ | ⟨q1, q2⟩
      · exact Or.inl ⟨nT_le (x := 23) (by decide) q1, nT_le (y := 42) (by lia) q2⟩
      · exact Or.inr ⟨nT_le (x := 50) (by decide) q1, nT_le (y := 53) (by lia) q2⟩
    have z : 0 ≤ aI σ 20 (nT c) ∧ aI σ 20 (nT c) < gI σ 49 := hce.2.2.2.2.1 hk
    show 0 ≤ aI σ 20 (nT c) ∧ aI σ 20 (nT c) < 600
    exact ⟨z.1, by lia⟩
  · have z : 0 ≤ aI σ 20 (nT c) ∧ aI σ 20 (nT c) ≤ 9 := hce.2.2.2.2.2.2.1 q
    show 0 ≤ aI σ 20 (nT c) ∧ aI σ 20 (nT c) ≤ 11
    exact ⟨z.1, by lia⟩
theorem FV.fr {σ X Y : RS} {c μ : Nat} (hv : FV σ X c μ) (hf : Fw X Y) (h92 : gI Y 92 = 0 ∨ gI Y 92 = 1) (h100 : gI Y 100 = gI X 100) (h103 : gI Y 103 = gI X 103) (h95 : aI Y 95 = aI X 95) : FV σ Y c μ := by
  obtain ⟨v1, v2, ⟨v3, v4⟩, v5, E, s, e1, e2, e3, e4⟩ := hv
  refine ⟨v1.tr hf, h92, by rw [h100, h103]; exact ⟨v3, v4⟩, v5, E, s, e1, e2, by rw [h100]; exact e3, ?_⟩
  unfold FM
  rw [h103, h95]
  exact e4
theorem FV.zero {σ X : RS} (hf : Fw σ X) (h92 : gI X 92 = 0 ∨ gI X 92 = 1) (h100 : gI X 100 = 0) (h103 : gI X 103 = 0) : FV σ X 0 (nT (gI σ 18) * 5000) := by
  have n0 : nT (0 : Int32) = 0 := by decide
  refine ⟨hf, h92, by rw [h100, h103]; decide, Nat.zero_le _, [], ([], 0), rfl, rfl, by rw [h100, n0]; rfl, Or.inl ⟨fun q hq => (by cases hq), by rw [h103, n0]; exact Nat.zero_le _, by omega⟩⟩
def P_flow : RP := fun As σ => match As with
  | [] => PK σ ∧ (0 ≤ (gI σ 2) ∧ (gI σ 2) ≤ 2590) ∧ ∀ i, i < nT (gI σ 18) → EC σ i
  | _ => False
def Q_flow : RQ := fun As σ w τ => match As with
  | [] => w = none ∧ Fu σ τ
  | _ => False
set_option maxRecDepth 100000 in
set_option maxHeartbeats 4000000 in
theorem b_flow : Bod Bflow [(117, P_flowExp, Q_flowExp), (121, P_flowStep, Q_flowStep), (114, P_start, Q_start)] P_flow Q_flow := by
  · intro As σ hP G hB hW
    unfold P_flow at hP
    split at hP
    next => 
      unfold Q_flow at hB
      dsimp only at hB
      obtain ⟨hK, hcnt, hEC⟩ := hP
      have n3020 : nT (gI σ 18) ≤ 3020 := by
        obtain ⟨fk, kk, jk, hpk⟩ := hK
        have hz18 := hpk.numz.2.1
        have e18 : (gI σ 18).toInt ≤ 3020 := hz18.2
        have n18 := t_nT (x := gI σ 18) (t_le (by show (0 : Int) ≤ (gI σ 18).toInt; exact hz18.1))
        omega
      have t122 : ∀ X : RS, Fu σ X → G 122 [(0, .ref 1000)] [] X := by
        intro X hX
        apply hB
        dsimp only [rgo, rfd, Bflow, Nat.beq, rwp, rst, lv_args, rlk, rs1, rs2, rdl, rky, rct, rcs, rcd, rno, rsw, Value.category, List.filter, List.take, List.drop, List.reverse, List.reverseAux, List.cons_append, List.nil_append, Option.toList, Int.toNat, Int.reduceToNat, if_pos, if_neg, reduceIte, ↓reduceIte, Nat.reduceAdd, Nat.reduceEqDiff, Nat.reduceBEq, beq_self_eq_true, Bool.not_true, Bool.not_false, Bool.and_true, Bool.and_false, Bool.true_and, Bool.false_and, gI_sI, gI_sL, gI_sA, gI_sM, gL_sI, gL_sL, gL_sA, gL_sM, aI_sI, aI_sL, aI_sA, aI_sM, aL_sI, aL_sL, aL_sA, aL_sM, Bflow_0, Bflow_12, Bflow_20, Bflow_33, Bflow_58, Bflow_66, Bflow_77, Bflow_88, Bflow_98, Bflow_111, Bflow_122, Bflow_129, Bflow_148, Bflow_155, Bflow_169, oi_0, oi_1, oi_15, oi_18, oi_54, oi_m2, P_flowExp, P_flowStep, P_start]; try dsimp only
        refine ⟨rfl, fun h1 => ?_, fun h1 => ?_⟩
        · apply hB
          dsimp only [rgo, rfd, Bflow, Nat.beq, rwp, rst, lv_args, rlk, rs1, rs2, rdl, rky, rct, rcs, rcd, rno, rsw, Value.category, List.filter, List.take, List.drop, List.reverse, List.reverseAux, List.cons_append, List.nil_append, Option.toList, Int.toNat, Int.reduceToNat, if_pos, if_neg, reduceIte, ↓reduceIte, Nat.reduceAdd, Nat.reduceEqDiff, Nat.reduceBEq, beq_self_eq_true, Bool.not_true, Bool.not_false, Bool.and_true, Bool.and_false, Bool.true_and, Bool.false_and, gI_sI, gI_sL, gI_sA, gI_sM, gL_sI, gL_sL, gL_sA, gL_sM, aI_sI, aI_sL, aI_sA, aI_sM, aL_sI, aL_sL, aL_sA, aL_sM, Bflow_0, Bflow_12, Bflow_20, Bflow_33, Bflow_58, Bflow_66, Bflow_77, Bflow_88, Bflow_98, Bflow_111, Bflow_122, Bflow_129, Bflow_148, Bflow_155, Bflow_169, oi_0, oi_1, oi_15, oi_18, oi_54, oi_m2, P_flowExp, P_flowStep, P_start]; try dsimp only
          refine ⟨rfl, fun h2 => ?_, fun h2 => ?_⟩
          · apply hB
            dsimp only [rgo, rfd, Bflow, Nat.beq, rwp, rst, lv_args, rlk, rs1, rs2, rdl, rky, rct, rcs, rcd, rno, rsw, Value.category, List.filter, List.take, List.drop, List.reverse, List.reverseAux, List.cons_append, List.nil_append, Option.toList, Int.toNat, Int.reduceToNat, if_pos, if_neg, reduceIte, ↓reduceIte, Nat.reduceAdd, Nat.reduceEqDiff, Nat.reduceBEq, beq_self_eq_true, Bool.not_true, Bool.not_false, Bool.and_true, Bool.and_false, Bool.true_and, Bool.false_and, gI_sI, gI_sL, gI_sA, gI_sM, gL_sI, gL_sL, gL_sA, gL_sM, aI_sI, aI_sL, aI_sA, aI_sM, aL_sI, aL_sL, aL_sA, aL_sM, Bflow_0, Bflow_12, Bflow_20, Bflow_33, Bflow_58, Bflow_66, Bflow_77, Bflow_88, Bflow_98, Bflow_111, Bflow_122, Bflow_129, Bflow_148, Bflow_155, Bflow_169, oi_0, oi_1, oi_15, oi_18, oi_54, oi_m2, P_flowExp, P_flowStep, P_start]; try dsimp only
            exact ⟨rfl, Fu.tr hX (by (repeat (first | exact Fu.rf | refine Fu.a ?_ rfl | refine Fu.i ?_ rfl | refine Fu.g ?_ rfl | refine Fu.m ?_ rfl)))⟩
          · apply hB
            dsimp only [rgo, rfd, Bflow, Nat.beq, rwp, rst, lv_args, rlk, rs1, rs2, rdl, rky, rct, rcs, rcd, rno, rsw, Value.category, List.filter, List.take, List.drop, List.reverse, List.reverseAux, List.cons_append, List.nil_append, Option.toList, Int.toNat, Int.reduceToNat, if_pos, if_neg, reduceIte, ↓reduceIte, Nat.reduceAdd, Nat.reduceEqDiff, Nat.reduceBEq, beq_self_eq_true, Bool.not_true, Bool.not_false, Bool.and_true, Bool.and_false, Bool.true_and, Bool.false_and, gI_sI, gI_sL, gI_sA, gI_sM, gL_sI, gL_sL, gL_sA, gL_sM, aI_sI, aI_sL, aI_sA, aI_sM, aL_sI, aL_sL, aL_sA, aL_sM, Bflow_0, Bflow_12, Bflow_20, Bflow_33, Bflow_58, Bflow_66, Bflow_77, Bflow_88, Bflow_98, Bflow_111, Bflow_122, Bflow_129, Bflow_148, Bflow_155, Bflow_169, oi_0, oi_1, oi_15, oi_18, oi_54, oi_m2, P_flowExp, P_flowStep, P_start]; try dsimp only
            refine ⟨rfl, rfl, rfl, ?_⟩
            apply hB
            dsimp only [rgo, rfd, Bflow, Nat.beq, rwp, rst, lv_args, rlk, rs1, rs2, rdl, rky, rct, rcs, rcd, rno, rsw, Value.category, List.filter, List.take, List.drop, List.reverse, List.reverseAux, List.cons_append, List.nil_append, Option.toList, Int.toNat, Int.reduceToNat, if_pos, if_neg, reduceIte, ↓reduceIte, Nat.reduceAdd, Nat.reduceEqDiff, Nat.reduceBEq, beq_self_eq_true, Bool.not_true, Bool.not_false, Bool.and_true, Bool.and_false, Bool.true_and, Bool.false_and, gI_sI, gI_sL, gI_sA, gI_sM, gL_sI, gL_sL, gL_sA, gL_sM, aI_sI, aI_sL, aI_sA, aI_sM, aL_sI, aL_sL, aL_sA, aL_sM, Bflow_0, Bflow_12, Bflow_20, Bflow_33, Bflow_58, Bflow_66, Bflow_77, Bflow_88, Bflow_98, Bflow_111, Bflow_122, Bflow_129, Bflow_148, Bflow_155, Bflow_169, oi_0, oi_1, oi_15, oi_18, oi_54, oi_m2, P_flowExp, P_flowStep, P_start]; try dsimp only
            exact ⟨rfl, Fu.tr hX (by (repeat (first | exact Fu.rf | refine Fu.a ?_ rfl | refine Fu.i ?_ rfl | refine Fu.g ?_ rfl | refine Fu.m ?_ rfl)))⟩
        · apply hB
          dsimp only [rgo, rfd, Bflow, Nat.beq, rwp, rst, lv_args, rlk, rs1, rs2, rdl, rky, rct, rcs, rcd, rno, rsw, Value.category, List.filter, List.take, List.drop, List.reverse, List.reverseAux, List.cons_append, List.nil_append, Option.toList, Int.toNat, Int.reduceToNat, if_pos, if_neg, reduceIte, ↓reduceIte, Nat.reduceAdd, Nat.reduceEqDiff, Nat.reduceBEq, beq_self_eq_true, Bool.not_true, Bool.not_false, Bool.and_true, Bool.and_false, Bool.true_and, Bool.false_and, gI_sI, gI_sL, gI_sA, gI_sM, gL_sI, gL_sL, gL_sA, gL_sM, aI_sI, aI_sL, aI_sA, aI_sM, aL_sI, aL_sL, aL_sA, aL_sM, Bflow_0, Bflow_12, Bflow_20, Bflow_33, Bflow_58, Bflow_66, Bflow_77, Bflow_88, Bflow_98, Bflow_111, Bflow_122, Bflow_129, Bflow_148, Bflow_155, Bflow_169, oi_0, oi_1, oi_15, oi_18, oi_54, oi_m2, P_flowExp, P_flowStep, P_start]; try dsimp only
          refine ⟨rfl, rfl, rfl, rfl, ?_⟩
          apply hB
          dsimp only [rgo, rfd, Bflow, Nat.beq, rwp, rst, lv_args, rlk, rs1, rs2, rdl, rky, rct, rcs, rcd, rno, rsw, Value.category, List.filter, List.take, List.drop, List.reverse, List.reverseAux, List.cons_append, List.nil_append, Option.toList, Int.toNat, Int.reduceToNat, if_pos, if_neg, reduceIte, ↓reduceIte, Nat.reduceAdd, Nat.reduceEqDiff, Nat.reduceBEq, beq_self_eq_true, Bool.not_true, Bool.not_false, Bool.and_true, Bool.and_false, Bool.true_and, Bool.false_and, gI_sI, gI_sL, gI_sA, gI_sM, gL_sI, gL_sL, gL_sA, gL_sM, aI_sI, aI_sL, aI_sA, aI_sM, aL_sI, aL_sL, aL_sA, aL_sM, Bflow_0, Bflow_12, Bflow_20, Bflow_33, Bflow_58, Bflow_66, Bflow_77, Bflow_88, Bflow_98, Bflow_111, Bflow_122, Bflow_129, Bflow_148, Bflow_155, Bflow_169, oi_0, oi_1, oi_15, oi_18, oi_54, oi_m2, P_flowExp, P_flowStep, P_start]; try dsimp only
          exact ⟨rfl, Fu.tr hX (by (repeat (first | exact Fu.rf | refine Fu.a ?_ rfl | refine Fu.i ?_ rfl | refine Fu.g ?_ rfl | refine Fu.m ?_ rfl)))⟩
      have loop : ∀ (μ0 : Nat), μ0 ≤ nT (gI σ 18) * 5000 → ∀ (X : RS) (m c : Int32), 0 ≤ c → FV σ X (nT c) μ0 → nT m + μ0 ≤ 30000000 → 0 ≤ m → G 58 [(0, .ref 1000), (1, .int m), (2, .int c)] [] X := by
        intro μ0
        induction μ0 using Nat.strongRecOn with
        | ind μ0 loop0 =>
          intro hμ X m c h0 hv hmb hm0
          have loop : ∀ μ', μ' < μ0 → ∀ (X : RS) (m c : Int32), 0 ≤ c → FV σ X (nT c) μ' → nT m + μ' ≤ 30000000 → 0 ≤ m → G 58 [(0, .ref 1000), (1, .int m), (2, .int c)] [] X := fun μ' h1 => loop0 μ' h1 (by omega)
          apply hB
          dsimp only [rgo, rfd, Bflow, Nat.beq, rwp, rst, lv_args, rlk, rs1, rs2, rdl, rky, rct, rcs, rcd, rno, rsw, Value.category, List.filter, List.take, List.drop, List.reverse, List.reverseAux, List.cons_append, List.nil_append, Option.toList, Int.toNat, Int.reduceToNat, if_pos, if_neg, reduceIte, ↓reduceIte, Nat.reduceAdd, Nat.reduceEqDiff, Nat.reduceBEq, beq_self_eq_true, Bool.not_true, Bool.not_false, Bool.and_true, Bool.and_false, Bool.true_and, Bool.false_and, gI_sI, gI_sL, gI_sA, gI_sM, gL_sI, gL_sL, gL_sA, gL_sM, aI_sI, aI_sL, aI_sA, aI_sM, aL_sI, aL_sL, aL_sA, aL_sM, Bflow_0, Bflow_12, Bflow_20, Bflow_33, Bflow_58, Bflow_66, Bflow_77, Bflow_88, Bflow_98, Bflow_111, Bflow_122, Bflow_129, Bflow_148, Bflow_155, Bflow_169, oi_0, oi_1, oi_15, oi_18, oi_54, oi_m2, P_flowExp, P_flowStep, P_start]; try dsimp only
          refine ⟨rfl, fun h1 => ?_, fun h1 => ?_⟩
          · exact hW 122 [(0, .ref 1000)] _ _ _ (by simp [rdl, rky]) (t122 X hv.1.v)
          · have x18 : gI X 18 = gI σ 18 := hv.1.1 18 rfl
            have hcn : nT c < nT (gI σ 18) := by rw [← x18]; exact nT_lt h0 (by lia)
            obtain ⟨Ec, Ec', sc, sc', pc⟩ := hK.j.pc hcn
            have hO1 := pc.hce.1.1
            have h4 := pc.c4
            have nC : nT (c + 1) = nT c + 1 := nT_add h0 (t_lt (by have := t_nT h0; show _ < (2147483647 : Int); omega))
            have c1 : 0 ≤ c + 1 := t_le (by have a1 := t_nT h0; have a2 : (c + 1).toInt = c.toInt + 1 := t_add1 (by omega); show (0 : Int) ≤ _; omega)
            have hc40 : c < 4000 := t_lt (by have := t_nT h0; show _ < (4000 : Int); omega)
            apply hB
            dsimp only [rgo, rfd, Bflow, Nat.beq, rwp, rst, lv_args, rlk, rs1, rs2, rdl, rky, rct, rcs, rcd, rno, rsw, Value.category, List.filter, List.take, List.drop, List.reverse, List.reverseAux, List.cons_append, List.nil_append, Option.toList, Int.toNat, Int.reduceToNat, if_pos, if_neg, reduceIte, ↓reduceIte, Nat.reduceAdd, Nat.reduceEqDiff, Nat.reduceBEq, beq_self_eq_true, Bool.not_true, Bool.not_false, Bool.and_true, Bool.and_false, Bool.true_and, Bool.false_and, gI_sI, gI_sL, gI_sA, gI_sM, gL_sI, gL_sL, gL_sA, gL_sM, aI_sI, aI_sL, aI_sA, aI_sM, aL_sI, aL_sL, aL_sA, aL_sM, Bflow_0, Bflow_12, Bflow_20, Bflow_33, Bflow_58, Bflow_66, Bflow_77, Bflow_88, Bflow_98, Bflow_111, Bflow_122, Bflow_129, Bflow_148, Bflow_155, Bflow_169, oi_0, oi_1, oi_15, oi_18, oi_54, oi_m2, P_flowExp, P_flowStep, P_start]; try dsimp only
            refine ⟨rfl, rfl, (in_19 (by lia) (by lia)), fun h2 => ?_, fun h2 => ?_⟩
            · have ho19 : 19 ≤ aI σ 19 (nT c) := by
                have hg : 19 ≤ aI X 19 c.toNatClampNeg := by lia
                have x19 := hv.1.2.2.1 19 rfl
                rw [x19] at hg
                exact hg
              apply hB
              dsimp only [rgo, rfd, Bflow, Nat.beq, rwp, rst, lv_args, rlk, rs1, rs2, rdl, rky, rct, rcs, rcd, rno, rsw, Value.category, List.filter, List.take, List.drop, List.reverse, List.reverseAux, List.cons_append, List.nil_append, Option.toList, Int.toNat, Int.reduceToNat, if_pos, if_neg, reduceIte, ↓reduceIte, Nat.reduceAdd, Nat.reduceEqDiff, Nat.reduceBEq, beq_self_eq_true, Bool.not_true, Bool.not_false, Bool.and_true, Bool.and_false, Bool.true_and, Bool.false_and, gI_sI, gI_sL, gI_sA, gI_sM, gL_sI, gL_sL, gL_sA, gL_sM, aI_sI, aI_sL, aI_sA, aI_sM, aL_sI, aL_sL, aL_sA, aL_sM, Bflow_0, Bflow_12, Bflow_20, Bflow_33, Bflow_58, Bflow_66, Bflow_77, Bflow_88, Bflow_98, Bflow_111, Bflow_122, Bflow_129, Bflow_148, Bflow_155, Bflow_169, oi_0, oi_1, oi_15, oi_18, oi_54, oi_m2, P_flowExp, P_flowStep, P_start]; try dsimp only
              refine ⟨rfl, (by decide), (hv.ps hK h0 hcn ho19), fun w3 τ3 hq3 => ?_⟩
              obtain ⟨r3, rfl, hq3⟩ := hq3
              obtain ⟨y1, y2, μ', m1, m2⟩ := hv.stm hK h0 hcn (nT_le (x := 19) (by decide) ho19) hq3
              dsimp only [Option.toList, List.cons_append, List.nil_append, Nat.beq, gI_sI, gI_sL, gI_sA, gI_sM, gL_sI, gL_sL, gL_sA, gL_sM, aI_sI, aI_sL, aI_sA, aI_sM, aL_sI, aL_sL, aL_sA, aL_sM]
              refine ⟨fun h4 => ?_, fun h4 => ?_⟩
              · exact hW 58 [(0, .ref 1000), (1, .int m), (2, .int r3)] _ _ _ (by simp [rdl, rky]) (loop μ' (by omega) _ m r3 y1 m2 (by omega) hm0)
              · have hr40 : r3 < 4000 + 1 := t_lt (by have := t_nT y1; have hk18 := hK.j; show _ < (4001 : Int); obtain ⟨fk, sk, kk, jk, hpk⟩ := hk18; have hz18 := hpk.numz.2.1; have e18 : (gI σ 18).toInt ≤ 3020 := hz18.2; have n18 := t_nT (x := gI σ 18) (t_le (by show (0 : Int) ≤ (gI σ 18).toInt; exact hz18.1)); omega)
                apply hB
                dsimp only [rgo, rfd, Bflow, Nat.beq, rwp, rst, lv_args, rlk, rs1, rs2, rdl, rky, rct, rcs, rcd, rno, rsw, Value.category, List.filter, List.take, List.drop, List.reverse, List.reverseAux, List.cons_append, List.nil_append, Option.toList, Int.toNat, Int.reduceToNat, if_pos, if_neg, reduceIte, ↓reduceIte, Nat.reduceAdd, Nat.reduceEqDiff, Nat.reduceBEq, beq_self_eq_true, Bool.not_true, Bool.not_false, Bool.and_true, Bool.and_false, Bool.true_and, Bool.false_and, gI_sI, gI_sL, gI_sA, gI_sM, gL_sI, gL_sL, gL_sA, gL_sM, aI_sI, aI_sL, aI_sA, aI_sM, aL_sI, aL_sL, aL_sA, aL_sM, Bflow_0, Bflow_12, Bflow_20, Bflow_33, Bflow_58, Bflow_66, Bflow_77, Bflow_88, Bflow_98, Bflow_111, Bflow_122, Bflow_129, Bflow_148, Bflow_155, Bflow_169, oi_0, oi_1, oi_15, oi_18, oi_54, oi_m2, P_flowExp, P_flowStep, P_start]; try dsimp only
                refine ⟨rfl, rfl, (in_19 (by lia) (by lia)), fun h5 => ?_, fun h5 => ?_⟩
                · exact hW 58 [(0, .ref 1000), (1, .int m), (2, .int r3)] _ _ _ (by simp [rdl, rky]) (loop μ' (by omega) _ m r3 y1 m2 (by omega) hm0)
                · apply hB
                  dsimp only [rgo, rfd, Bflow, Nat.beq, rwp, rst, lv_args, rlk, rs1, rs2, rdl, rky, rct, rcs, rcd, rno, rsw, Value.category, List.filter, List.take, List.drop, List.reverse, List.reverseAux, List.cons_append, List.nil_append, Option.toList, Int.toNat, Int.reduceToNat, if_pos, if_neg, reduceIte, ↓reduceIte, Nat.reduceAdd, Nat.reduceEqDiff, Nat.reduceBEq, beq_self_eq_true, Bool.not_true, Bool.not_false, Bool.and_true, Bool.and_false, Bool.true_and, Bool.false_and, gI_sI, gI_sL, gI_sA, gI_sM, gL_sI, gL_sL, gL_sA, gL_sM, aI_sI, aI_sL, aI_sA, aI_sM, aL_sI, aL_sL, aL_sA, aL_sM, Bflow_0, Bflow_12, Bflow_20, Bflow_33, Bflow_58, Bflow_66, Bflow_77, Bflow_88, Bflow_98, Bflow_111, Bflow_122, Bflow_129, Bflow_148, Bflow_155, Bflow_169, oi_0, oi_1, oi_15, oi_18, oi_54, oi_m2, P_flowExp, P_flowStep, P_start]; try dsimp only
                  refine ⟨rfl, (by decide), (⟨hK.j.fv (m2.1.v), t_le (by have a1 := t_nT hm0; have a2 : (m + 1).toInt = m.toInt + 1 := t_add1 (by omega); show (0 : Int) ≤ _; omega)⟩), fun w6 τ6 hq6 => ?_⟩
                  obtain ⟨rfl, sv6, rfl⟩ := hq6
                  dsimp only [Option.toList, List.cons_append, List.nil_append, Nat.beq, gI_sI, gI_sL, gI_sA, gI_sM, gL_sI, gL_sL, gL_sA, gL_sM, aI_sI, aI_sL, aI_sA, aI_sM, aL_sI, aL_sL, aL_sA, aL_sM]
                  exact hW 58 [(0, .ref 1000), (1, .int (m + 1)), (2, .int r3)] _ _ _ (by simp [rdl, rky]) (loop μ' (by omega) _ (m + 1) r3 y1 (m2.fr (by (repeat (first | exact Fw.rf | refine Fw.a ?_ rfl | refine Fw.i ?_ rfl | refine Fw.g ?_ rfl | refine Fw.m ?_ rfl))) (Or.inr rfl) rfl rfl rfl) (by rw [nT_add hm0 (t_lt (by have := t_nT hm0; show _ < (2147483647 : Int); omega))]; omega) (t_le (by have a1 := t_nT hm0; have a2 : (m + 1).toInt = m.toInt + 1 := t_add1 (by omega); show (0 : Int) ≤ _; omega)))
            · have ho18 : aI σ 19 (nT c) ≤ 18 := by
                have x19 := hv.1.2.2.1 19 rfl
                have hg : aI X 19 c.toNatClampNeg ≤ 18 := by lia
                rw [x19] at hg
                exact hg
              apply hB
              dsimp only [rgo, rfd, Bflow, Nat.beq, rwp, rst, lv_args, rlk, rs1, rs2, rdl, rky, rct, rcs, rcd, rno, rsw, Value.category, List.filter, List.take, List.drop, List.reverse, List.reverseAux, List.cons_append, List.nil_append, Option.toList, Int.toNat, Int.reduceToNat, if_pos, if_neg, reduceIte, ↓reduceIte, Nat.reduceAdd, Nat.reduceEqDiff, Nat.reduceBEq, beq_self_eq_true, Bool.not_true, Bool.not_false, Bool.and_true, Bool.and_false, Bool.true_and, Bool.false_and, gI_sI, gI_sL, gI_sA, gI_sM, gL_sI, gL_sL, gL_sA, gL_sM, aI_sI, aI_sL, aI_sA, aI_sM, aL_sI, aL_sL, aL_sA, aL_sM, Bflow_0, Bflow_12, Bflow_20, Bflow_33, Bflow_58, Bflow_66, Bflow_77, Bflow_88, Bflow_98, Bflow_111, Bflow_122, Bflow_129, Bflow_148, Bflow_155, Bflow_169, oi_0, oi_1, oi_15, oi_18, oi_54, oi_m2, P_flowExp, P_flowStep, P_start]; try dsimp only
              refine ⟨rfl, (by decide), (hv.px hK h0 hcn ho18 (hEC _ hcn)), fun w7 τ7 hq7 => ?_⟩
              have hw7 := hq7.1
              subst hw7
              dsimp only [Option.toList, List.cons_append, List.nil_append, Nat.beq, gI_sI, gI_sL, gI_sA, gI_sM, gL_sI, gL_sL, gL_sA, gL_sM, aI_sI, aI_sL, aI_sA, aI_sM, aL_sI, aL_sL, aL_sA, aL_sM]
              obtain ⟨-, g1, ⟨g2, g3⟩, g4, g5⟩ := hq7
              have x19 := hv.1.2.2.1 19 rfl
              have g6 : aI X 19 c.toNatClampNeg ≤ 18 := by lia
              obtain ⟨μ', m1, m2⟩ := hv.exp hK hcn ⟨nT_le (x := 1) (by decide) hO1, nT_le (y := 18) (by lia) (by rw [← x19]; exact g6)⟩ g1 g2 g3 g4 (by
                rw [show aI X 19 c.toNatClampNeg = aI σ 19 (nT c) from by rw [x19]; rfl] at g5
                rw [nTq (by lia) 8 (by decide) (by decide : nT 8 = 8), nTq (by lia) 9 (by decide) (by decide : nT 9 = 9), nTq (by lia) 10 (by decide) (by decide : nT 10 = 10), nTq (by lia) 11 (by decide) (by decide : nT 11 = 11), nTq (by lia) 12 (by decide) (by decide : nT 12 = 12), nTq (by lia) 14 (by decide) (by decide : nT 14 = 14)] at g5
                exact g5)
              exact hW 58 [(0, .ref 1000), (1, .int m), (2, .int (c + 1))] _ _ _ (by simp [rdl, rky]) (loop μ' (by omega) _ m (c + 1) c1 (by rw [nC]; exact m2) (by omega) hm0)
      have t33 : ∀ X : RS, Fw σ X → G 33 [(0, .ref 1000)] [] X := by
        intro X hX
        apply hB
        dsimp only [rgo, rfd, Bflow, Nat.beq, rwp, rst, lv_args, rlk, rs1, rs2, rdl, rky, rct, rcs, rcd, rno, rsw, Value.category, List.filter, List.take, List.drop, List.reverse, List.reverseAux, List.cons_append, List.nil_append, Option.toList, Int.toNat, Int.reduceToNat, if_pos, if_neg, reduceIte, ↓reduceIte, Nat.reduceAdd, Nat.reduceEqDiff, Nat.reduceBEq, beq_self_eq_true, Bool.not_true, Bool.not_false, Bool.and_true, Bool.and_false, Bool.true_and, Bool.false_and, gI_sI, gI_sL, gI_sA, gI_sM, gL_sI, gL_sL, gL_sA, gL_sM, aI_sI, aI_sL, aI_sA, aI_sM, aL_sI, aL_sL, aL_sA, aL_sM, Bflow_0, Bflow_12, Bflow_20, Bflow_33, Bflow_58, Bflow_66, Bflow_77, Bflow_88, Bflow_98, Bflow_111, Bflow_122, Bflow_129, Bflow_148, Bflow_155, Bflow_169, oi_0, oi_1, oi_15, oi_18, oi_54, oi_m2, P_flowExp, P_flowStep, P_start]; try dsimp only
        refine ⟨rfl, rfl, rfl, rfl, (by decide), (⟨hK.j.fv (Fw.v (Fw.tr hX (by (repeat (first | exact Fw.rf | refine Fw.a ?_ rfl | refine Fw.i ?_ rfl | refine Fw.g ?_ rfl | refine Fw.m ?_ rfl))))), by decide⟩), fun w1 τ1 hq1 => ?_⟩
        obtain ⟨rfl, sv1, rfl⟩ := hq1
        dsimp only [Option.toList, List.cons_append, List.nil_append, Nat.beq, gI_sI, gI_sL, gI_sA, gI_sM, gL_sI, gL_sL, gL_sA, gL_sM, aI_sI, aI_sL, aI_sA, aI_sM, aL_sI, aL_sL, aL_sA, aL_sM]
        exact hW 58 [(0, .ref 1000), (1, .int 0), (2, .int 0)] _ _ _ (by simp [rdl, rky]) (loop _ (Nat.le_refl _) _ 0 0 (by decide) (FV.zero (Fw.tr hX (by (repeat (first | exact Fw.rf | refine Fw.a ?_ rfl | refine Fw.i ?_ rfl | refine Fw.g ?_ rfl | refine Fw.m ?_ rfl)))) (Or.inr rfl) rfl rfl) (by show 0 + _ ≤ _; omega) (by decide))
      have l12 : ∀ n : Nat, ∀ (X : RS) (t : Int32), (4000 - t.toInt).toNat = n → Fw σ X → (0 ≤ t ∧ t ≤ 2590) → G 12 [(0, .ref 1000), (1, .int t)] [] X := by
        intro n
        induction n using Nat.strongRecOn with
        | ind n l12 =>
          intro X t hk hX ht
          have x2 : gI X 2 = gI σ 2 := hX.1 2 rfl
          apply hB
          dsimp only [rgo, rfd, Bflow, Nat.beq, rwp, rst, lv_args, rlk, rs1, rs2, rdl, rky, rct, rcs, rcd, rno, rsw, Value.category, List.filter, List.take, List.drop, List.reverse, List.reverseAux, List.cons_append, List.nil_append, Option.toList, Int.toNat, Int.reduceToNat, if_pos, if_neg, reduceIte, ↓reduceIte, Nat.reduceAdd, Nat.reduceEqDiff, Nat.reduceBEq, beq_self_eq_true, Bool.not_true, Bool.not_false, Bool.and_true, Bool.and_false, Bool.true_and, Bool.false_and, gI_sI, gI_sL, gI_sA, gI_sM, gL_sI, gL_sL, gL_sA, gL_sM, aI_sI, aI_sL, aI_sA, aI_sM, aL_sI, aL_sL, aL_sA, aL_sM, Bflow_0, Bflow_12, Bflow_20, Bflow_33, Bflow_58, Bflow_66, Bflow_77, Bflow_88, Bflow_98, Bflow_111, Bflow_122, Bflow_129, Bflow_148, Bflow_155, Bflow_169, oi_0, oi_1, oi_15, oi_18, oi_54, oi_m2, P_flowExp, P_flowStep, P_start]; try dsimp only
          refine ⟨rfl, fun h1 => ?_, fun h1 => ?_⟩
          · exact hW 33 [(0, .ref 1000)] _ _ _ (by simp [rdl, rky]) (t33 X hX)
          · apply hB
            dsimp only [rgo, rfd, Bflow, Nat.beq, rwp, rst, lv_args, rlk, rs1, rs2, rdl, rky, rct, rcs, rcd, rno, rsw, Value.category, List.filter, List.take, List.drop, List.reverse, List.reverseAux, List.cons_append, List.nil_append, Option.toList, Int.toNat, Int.reduceToNat, if_pos, if_neg, reduceIte, ↓reduceIte, Nat.reduceAdd, Nat.reduceEqDiff, Nat.reduceBEq, beq_self_eq_true, Bool.not_true, Bool.not_false, Bool.and_true, Bool.and_false, Bool.true_and, Bool.false_and, gI_sI, gI_sL, gI_sA, gI_sM, gL_sI, gL_sL, gL_sA, gL_sM, aI_sI, aI_sL, aI_sA, aI_sM, aL_sI, aL_sL, aL_sA, aL_sM, Bflow_0, Bflow_12, Bflow_20, Bflow_33, Bflow_58, Bflow_66, Bflow_77, Bflow_88, Bflow_98, Bflow_111, Bflow_122, Bflow_129, Bflow_148, Bflow_155, Bflow_169, oi_0, oi_1, oi_15, oi_18, oi_54, oi_m2, P_flowExp, P_flowStep, P_start]; try dsimp only
            refine ⟨rfl, rfl, (in_109 (by lia) (by lia)), Or.inl rfl, ?_⟩
            refine hW 12 [(0, .ref 1000), (1, .int (t + 1))] _ _ _ (by simp [rdl, rky]) (l12 _ ?_ _ (t + 1) rfl (hX.a rfl) ⟨by lia, by lia⟩)
            exact mlt4 hk (by lia) (by lia)
      apply hB
      dsimp only [rgo, rfd, Bflow, Nat.beq, rwp, rst, lv_args, rlk, rs1, rs2, rdl, rky, rct, rcs, rcd, rno, rsw, Value.category, List.filter, List.take, List.drop, List.reverse, List.reverseAux, List.cons_append, List.nil_append, Option.toList, Int.toNat, Int.reduceToNat, if_pos, if_neg, reduceIte, ↓reduceIte, Nat.reduceAdd, Nat.reduceEqDiff, Nat.reduceBEq, beq_self_eq_true, Bool.not_true, Bool.not_false, Bool.and_true, Bool.and_false, Bool.true_and, Bool.false_and, gI_sI, gI_sL, gI_sA, gI_sM, gL_sI, gL_sL, gL_sA, gL_sM, aI_sI, aI_sL, aI_sA, aI_sM, aL_sI, aL_sL, aL_sA, aL_sM, Bflow_0, Bflow_12, Bflow_20, Bflow_33, Bflow_58, Bflow_66, Bflow_77, Bflow_88, Bflow_98, Bflow_111, Bflow_122, Bflow_129, Bflow_148, Bflow_155, Bflow_169, oi_0, oi_1, oi_15, oi_18, oi_54, oi_m2, P_flowExp, P_flowStep, P_start]; try dsimp only
      refine ⟨rfl, rfl, ?_⟩
      exact hW 12 [(0, .ref 1000), (1, .int 0)] _ _ _ (by simp [rdl, rky]) (l12 _ _ 0 rfl (by (repeat (first | exact Fw.rf | refine Fw.a ?_ rfl | refine Fw.i ?_ rfl | refine Fw.g ?_ rfl | refine Fw.m ?_ rfl))) ⟨by decide, by decide⟩)
    next => exact hP.elim
theorem m_flow (l : Launch) : RMet l 4 113 P_flow Q_flow := by
  refine RMet.by Bflow [(117, P_flowExp, Q_flowExp), (121, P_flowStep, Q_flowStep), (114, P_start, Q_start)] roflow okBflow (ctc (m_flowExp l) (by decide) (ctc (m_flowStep l) (by decide) (ctc (m_start l) (by decide) ct0))) ?_ b_flow
  · intro As σ hP
    unfold P_flow at hP
    split at hP
    next => exact Nat.le_of_ble_eq_true rfl
    next => exact hP.elim
set_option maxRecDepth 100000 in
theorem e_flow (l : Launch) : RMetE l 4 113 P_flow Q_flow := by
  refine RMetE.by Bflow [(117, P_flowExp, Q_flowExp), (121, P_flowStep, Q_flowStep), (114, P_start, Q_start)] rfl rfl roflow okBflow (ctEc (e_flowExp l) (by decide) (ctEc (e_flowStep l) (by decide) (ctEc (e_start l) (by decide) ctE0))) ?_ b_flow
  · intro As σ hP
    unfold P_flow at hP
    split at hP
    next => exact Nat.le_of_ble_eq_true rfl
    next => exact hP.elim

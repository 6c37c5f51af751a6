theorem PI.mm {σ σ' : RS} {E : List Nat} {s : SS} {k j : Int} (h : PI σ E s k j) (k' j' : Int) (hp : (gI σ 14).toInt ≤ (gI σ' 14).toInt ∧ (gI σ' 14).toInt ≤ 500) (hk : k' ≤ 20 ∧ k ≤ k' + 6 * ((gI σ' 14).toInt - (gI σ 14).toInt)) (hj : 0 ≤ j' ∧ j' ≤ j + ((gI σ' 14).toInt - (gI σ 14).toInt)) (hl : lk (gI σ' 32)) (f17 : gI σ' 17 = gI σ 17 := by rfl) (f49 : gI σ' 49 = gI σ 49 := by rfl) (f62 : gI σ' 62 = gI σ 62 := by rfl) (f42 : gI σ' 42 = gI σ 42 := by rfl) (f36 : gI σ' 36 = gI σ 36 := by rfl) (f63 : aI σ' 63 = aI σ 63 := by rfl) (f64 : aI σ' 64 = aI σ 64 := by rfl) (f65 : aI σ' 65 = aI σ 65 := by rfl) (f43 : aI σ' 43 = aI σ 43 := by rfl) (f37 : ∀ i, i < nT (gI σ 36) → aI σ' 37 i = aI σ 37 i := by exact fun _ _ => rfl) (f39 : ∀ i, i < nT (gI σ 36) → aI σ' 39 i = aI σ 39 i := by exact fun _ _ => rfl) (f40 : ∀ i, i < nT (gI σ 36) → aI σ' 40 i = aI σ 40 i := by exact fun _ _ => rfl) (f41 : ∀ i, i < nT (gI σ 36) → aI σ' 41 i = aI σ 41 i := by exact fun _ _ => rfl) (e18 : gI σ' 18 = gI σ 18 := by rfl) (e19 : aI σ' 19 = aI σ 19 := by rfl) (e20 : aI σ' 20 = aI σ 20 := by rfl) (e21 : aI σ' 21 = aI σ 21 := by rfl) (e22 : aI σ' 22 = aI σ 22 := by rfl) (e23 : aI σ' 23 = aI σ 23 := by rfl) (e24 : aI σ' 24 = aI σ 24 := by rfl) (f50 : aI σ' 50 = aI σ 50 := by rfl) (f51 : aI σ' 51 = aI σ 51 := by rfl) (f52 : aI σ' 52 = aI σ 52 := by rfl) (f53 : aI σ' 53 = aI σ 53 := by rfl) (f54 : aI σ' 54 = aI σ 54 := by rfl) (f55 : aI σ' 55 = aI σ 55 := by rfl) (f56 : aI σ' 56 = aI σ 56 := by rfl) (f57 : aI σ' 57 = aI σ 57 := by rfl) (f58 : aI σ' 58 = aI σ 58 := by rfl) (f59 : aI σ' 59 = aI σ 59 := by rfl) (f60 : aI σ' 60 = aI σ 60 := by rfl) (f61 : aI σ' 61 = aI σ 61 := by rfl) (f3 : aI σ' 3 = aI σ 3 := by rfl) (f6 : aI σ' 6 = aI σ 6 := by rfl) (hgz : GZ σ → GZ σ' := by exact fun h => h) : PI σ' E s k' j' := by
  obtain ⟨⟨h1, h2, h3, h4, h5⟩, hE, hS, hC, hT, hU, hF, hV, hM, hZ, hJ⟩ := h
  have hks : ∀ r, 50 ≤ r → r ≤ 61 → aI σ' r = aI σ r := by
    intro r a b
    have h9 : r = 50 ∨ r = 51 ∨ r = 52 ∨ r = 53 ∨ r = 54 ∨ r = 55 ∨ r = 56 ∨ r = 57 ∨ r = 58 ∨ r = 59 ∨ r = 60 ∨ r = 61 := by omega
    rcases h9 with rfl | rfl | rfl | rfl | rfl | rfl | rfl | rfl | rfl | rfl | rfl | rfl <;> assumption
  have hksl : ∀ n, ksl n = 0 ∨ (52 ≤ ksl n ∧ ksl n ≤ 58) := by
    intro n
    unfold ksl
    split <;> simp
  refine ⟨⟨⟨by omega, hp.2⟩, by rw [e18, f62]; omega, by rw [f17, f62]; exact h3, ⟨by unfold AG; rw [e18, e19, e22]; exact h4.1, hgz h4.2⟩, by rw [f49, e18, e19]; omega⟩, by rw [e18, e19, e20, e21]; exact hE, by rw [e18, e19, e20]; exact hS, ?_, ?_, ?_, ?_, ?_, ?_, ⟨by rw [e18, e19]; have := hZ.1; omega, by rw [e18, e19, e20, e21]; exact hZ.2⟩, by rw [e18, e19, e20]; exact hJ⟩
  · intro c hc
    rw [e18] at hc
    rw [e19, e20, e22, e23, e24, f49]
    obtain ⟨z1, z2, z3, z4, z5, z6, z7, z8, z9, za, zb, zc⟩ := hC c hc
    refine ⟨z1, z2, z3, z4, z5, z6, z7, z8, fun hk => ?_, by rw [f6]; exact za, by rw [f6, f3]; exact zb, by unfold tz; rw [hks 51 (by omega) (by omega), hks 50 (by omega) (by omega)]; exact zc⟩
    rcases hksl (nT (aI σ 19 c)) with z | z
    · exact absurd z hk
    · rw [hks _ (by omega) (by omega)]; exact z9 hk
  · unfold TI
    rw [f49, e18, e19, e20, e21, hks 51 (by omega) (by omega), hks 60 (by omega) (by omega), hks 61 (by omega) (by omega), hks 57 (by omega) (by omega), hks 50 (by omega) (by omega), hks 59 (by omega) (by omega)]
    exact ⟨fun r a b => by rw [hks r (by omega) (by omega)]; exact hT.1 r a b, hT.2⟩
  · unfold UP; rw [e18, e19, e20]; exact hU
  · unfold FI; rw [f62, f63, f64, f65, f49, e18]; exact hF
  · unfold VT; rw [f42, f43]; exact hV
  · refine ⟨by rw [f36]; exact hM.1, fun m hm => ?_⟩
    rw [f36] at hm
    rw [f37 m hm, f39 m hm, f40 m hm, f41 m hm, f42, e18, e19, e20, e21]
    exact hM.2 m hm
def qI (k : Nat) : Bool := pI k || k == 36
def Fq (σ τ : RS) : Prop := (∀ k, qI k = false → gI τ k = gI σ k) ∧ (∀ k, gL τ k = gL σ k) ∧ (∀ k, pA k = false → aI τ k = aI σ k) ∧ (∀ k, aL τ k = aL σ k) ∧ (GZ σ → GZ τ)
theorem Fq.rf {σ : RS} : Fq σ σ := ⟨fun _ _ => rfl, fun _ => rfl, fun _ _ => rfl, fun _ => rfl, fun g => g⟩
theorem Fq.tr {σ τ υ : RS} (h1 : Fq σ τ) (h2 : Fq τ υ) : Fq σ υ := ⟨fun k hk => (h2.1 k hk).trans (h1.1 k hk), fun k => (h2.2.1 k).trans (h1.2.1 k), fun k hk => (h2.2.2.1 k hk).trans (h1.2.2.1 k hk), fun k => (h2.2.2.2.1 k).trans (h1.2.2.2.1 k), fun g => h2.2.2.2.2 (h1.2.2.2.2 g)⟩
theorem Fp.q {σ τ : RS} (h : Fp σ τ) : Fq σ τ := ⟨fun k hk => h.1 k (by unfold qI at hk; simp only [Bool.or_eq_false_iff] at hk; exact hk.1), h.2.1, h.2.2.1, h.2.2.2⟩
theorem Fq.i {σ τ : RS} (h : Fq σ τ) {k : Nat} {v : Int32} (hk : qI k = true) : Fq σ (sI τ k v) := ⟨fun j hj => by
  rw [gI_sI, nb_ne (fun q => by subst q; rw [hk] at hj; cases hj)]
  exact h.1 j hj, h.2.1, h.2.2.1, h.2.2.2.1, fun g => (h.2.2.2.2 g).same rfl rfl rfl⟩
theorem Fq.a {σ τ : RS} (h : Fq σ τ) {k : Nat} {f : Nat → Int32} (hk : pB k = true) : Fq σ (sA τ k f) := ⟨h.1, h.2.1, fun j hj => by
  rw [aI_sA, nb_ne (fun q => by subst q; rw [(pBA hk).1] at hj; cases hj)]
  exact h.2.2.1 j hj, h.2.2.2.1, fun g => (h.2.2.2.2 g).same (by rw [aI_sA, nb_ne (fun q => (pBA hk).2.1 q.symm)]) (by rw [aI_sA, nb_ne (fun q => (pBA hk).2.2.1 q.symm)]) (by rw [aI_sA, nb_ne (fun q => (pBA hk).2.2.2 q.symm)])⟩
theorem Fq.y {σ τ : RS} (h : Fq σ τ) {f : Nat → Int32} {i : Nat} {v : Int32} (hf : f = upd (aI τ 38) i v) (hv : GZ σ → 0 ≤ v) : Fq σ (sA τ 38 f) := ⟨h.1, h.2.1, fun j hj => by
  rw [aI_sA, nb_ne (fun q => by subst q; cases hj)]
  exact h.2.2.1 j hj, h.2.2.2.1, fun g => by
  have g2 := h.2.2.2.2 g
  refine ⟨g2.1, g2.2.1, fun j => ?_⟩
  show 0 ≤ f j
  rw [hf]
  by_cases q : j = i
  · subst q; rw [upd_eq]; exact hv g
  · rw [upd_ne q]; exact g2.2.2 j⟩
/-- the method that is being told -/
def MM (σ : RS) : Prop := gI σ 36 < 10 ∧ (0 ≤ aI σ 37 (nT (gI σ 36)) ∧ aI σ 37 (nT (gI σ 36)) ≤ 500) ∧ (0 ≤ aI σ 39 (nT (gI σ 36)) ∧ aI σ 39 (nT (gI σ 36)) ≤ 6) ∧ 0 ≤ aI σ 40 (nT (gI σ 36)) ∧ aI σ 40 (nT (gI σ 36)) + aI σ 39 (nT (gI σ 36)) ≤ gI σ 42 ∧ aI σ 40 (nT (gI σ 36)) ≤ gI σ 42
theorem MM.of {σ τ : RS} (h : MM σ) (h36 : gI τ 36 = gI σ 36) (h37 : aI τ 37 = aI σ 37) (h39 : aI τ 39 = aI σ 39) (h40 : aI τ 40 = aI σ 40) (h42 : gI τ 42 = gI σ 42) : MM τ := by
  unfold MM
  rw [h36, h37, h39, h40, h42]
  exact h
def pq (X : RS) : RS := sA (sI X 14 (gI X 14 + 1)) 39 (upd (aI X 39) (nT (gI X 36)) (aI X 39 (nT (gI X 36)) + 1))
theorem PI.parq {X : RS} {s : SS} {k j : Int} (h : PI X [] s k j) (hp : gI X 14 < 500) : PI (pq X) [] s (k - 6) (j + 1) := by
  have hj0 := h.1.2.2.2.2.2.2
  have hk0 := h.1.2.1.2.2
  have b1 := h.take hp rfl (k - 6) (j + 1) ⟨by omega, by omega⟩ ⟨by omega, by omega⟩
  refine b1.mm (σ' := sA (sI X 14 (gI X 14 + 1)) 39 (upd (aI X 39) (nT (gI X 36)) (aI X 39 (nT (gI X 36)) + 1))) (k - 6) (j + 1) ⟨Int.le_refl _, b1.1.1.2⟩ ⟨by omega, ?_⟩ ⟨by omega, ?_⟩ True.intro (f39 := fun i hi => ?_)
  · show k - 6 ≤ k - 6 + 6 * ((gI X 14 + 1).toInt - (gI X 14 + 1).toInt)
    omega
  · show j + 1 ≤ j + 1 + ((gI X 14 + 1).toInt - (gI X 14 + 1).toInt)
    omega
  · have hi : i < nT (gI X 36) := hi
    show upd (aI X 39) (nT (gI X 36)) (aI X 39 (nT (gI X 36)) + 1) i = aI X 39 i
    exact upd_ne (by omega)
def pz (X : RS) (ty fx m q : Int32) : RS := va (pq X) ty fx m q
theorem PI.parm {X : RS} {s : SS} {k j : Int} (h : PI X [] s k j) (hp : gI X 14 < 500) (hp1 : gI X 14 + 1 < 500) (hv : gI X 42 < 60) (ty fx m q : Int32) (hty : 0 ≤ ty ∧ ty ≤ 4) : PI (pz X ty fx m q) [] s k j := by
  have hj0 := h.1.2.2.2.2.2.2
  have hk0 := h.1.2.1.2.2
  have b1 := (PI.parq h hp).vari ty fx m q hv hp1 hty (k - 6) ⟨by omega, by omega⟩
  exact b1.wk k j ⟨by omega, by omega⟩ ⟨by omega, by omega⟩
theorem MM.parm {X : RS} (h : MM X) (h6 : ¬ aI X 39 (nT (gI X 36)) = 6) (hv : gI X 42 < 60) (hv0 : 0 ≤ gI X 42) (ty fx m q : Int32) : MM (pz X ty fx m q) := by
  obtain ⟨h1, h2, h3, h4, h5⟩ := h
  have e36 : gI (pz X ty fx m q) 36 = gI X 36 := rfl
  have e42 : gI (pz X ty fx m q) 42 = gI X 42 + 1 := rfl
  have e37 : aI (pz X ty fx m q) 37 = aI X 37 := rfl
  have e39 : aI (pz X ty fx m q) 39 = upd (aI X 39) (nT (gI X 36)) (aI X 39 (nT (gI X 36)) + 1) := rfl
  have e40 : aI (pz X ty fx m q) 40 = aI X 40 := rfl
  unfold MM
  rw [e36, e42, e37, e39, e40, upd_eq]
  exact ⟨h1, h2, ⟨by lia, by lia⟩, h4, by lia, by lia⟩
def P_param : RP := fun As σ => match As with
  | [.int m, .int q] => (∃ s k j, PI σ [] s k j) ∧ m = (gI σ 36) ∧ MM σ
  | _ => False
def Q_param : RQ := fun As σ w τ => match As with
  | [.int m, .int q] => ∃ r : Int32, w = some (.int r) ∧ ((r = 0 ∧ Fp σ τ) ∨ (r = 1 ∧ Fp σ τ ∧ (∀ s k j, PI σ [] s k j → PI τ [] s k j) ∧ MM τ ∧ (gI τ 62) = (gI σ 62) ∧ (gI τ 49) = (gI σ 49) ∧ (gI σ 14) < (gI τ 14)))
  | _ => False
set_option maxRecDepth 100000 in
set_option maxHeartbeats 4000000 in
theorem b_param : Bod Bparam [(13, P_cant, Q_cant), (23, P_isType, Q_isType), (15, P_isWord, Q_isWord), (17, P_take, Q_take), (40, P_variable, Q_variable), (12, P_wrong, Q_wrong)] P_param Q_param := by
  · intro As σ hP G hB hW
    unfold P_param at hP
    split at hP
    next m q => 
      unfold Q_param at hB
      dsimp only at hB
      obtain ⟨⟨ss, kk, jj, hPI⟩, rfl, hMM⟩ := hP
      have nn := hPI.nums
      have hm1 := hMM.1
      apply hB
      dsimp only [rgo, rfd, Bparam, Nat.beq, rwp, rst, lv_args, rlk, rs1, rs2, rdl, rky, rct, rcs, rcd, rno, rsw, Value.category, List.filter, List.take, List.drop, List.reverse, List.reverseAux, List.cons_append, List.nil_append, Option.toList, Int.toNat, Int.reduceToNat, if_pos, if_neg, reduceIte, ↓reduceIte, Nat.reduceAdd, Nat.reduceEqDiff, Nat.reduceBEq, beq_self_eq_true, Bool.not_true, Bool.not_false, Bool.and_true, Bool.and_false, Bool.true_and, Bool.false_and, gI_sI, gI_sL, gI_sA, gI_sM, gL_sI, gL_sL, gL_sA, gL_sM, aI_sI, aI_sL, aI_sA, aI_sM, aL_sI, aL_sL, aL_sA, aL_sM, gI_em, gI_emx, gI_pu, gI_wh, Bparam_0, Bparam_11, Bparam_18, Bparam_20, Bparam_31, Bparam_36, Bparam_54, Bparam_56, Bparam_69, Bparam_74, Bparam_85, Bparam_95, oi_0, oi_1, oi_21, oi_3, oi_6, P_cant, P_isType, P_isWord, P_take, P_variable, P_wrong]; try dsimp only
      refine ⟨rfl, (by decide), (⟨by lia, by lia⟩), fun w1 τ1 hq1 => ?_⟩
      obtain ⟨r1, rfl, hr1, e1⟩ := hq1
      obtain rfl := e1.symm
      rcases hr1 with rfl | rfl
      · dsimp only [Option.toList, List.cons_append, List.nil_append, Nat.beq, gI_sI, gI_sL, gI_sA, gI_sM, gL_sI, gL_sL, gL_sA, gL_sM, aI_sI, aI_sL, aI_sA, aI_sM, aL_sI, aL_sL, aL_sA, aL_sM, gI_em, gI_emx, gI_pu, gI_wh]
        refine ⟨fun h2 => ?_, fun h2 => absurd h2 (by decide)⟩
        clear h2
        apply hB
        dsimp only [rgo, rfd, Bparam, Nat.beq, rwp, rst, lv_args, rlk, rs1, rs2, rdl, rky, rct, rcs, rcd, rno, rsw, Value.category, List.filter, List.take, List.drop, List.reverse, List.reverseAux, List.cons_append, List.nil_append, Option.toList, Int.toNat, Int.reduceToNat, if_pos, if_neg, reduceIte, ↓reduceIte, Nat.reduceAdd, Nat.reduceEqDiff, Nat.reduceBEq, beq_self_eq_true, Bool.not_true, Bool.not_false, Bool.and_true, Bool.and_false, Bool.true_and, Bool.false_and, gI_sI, gI_sL, gI_sA, gI_sM, gL_sI, gL_sL, gL_sA, gL_sM, aI_sI, aI_sL, aI_sA, aI_sM, aL_sI, aL_sL, aL_sA, aL_sM, gI_em, gI_emx, gI_pu, gI_wh, Bparam_0, Bparam_11, Bparam_18, Bparam_20, Bparam_31, Bparam_36, Bparam_54, Bparam_56, Bparam_69, Bparam_74, Bparam_85, Bparam_95, oi_0, oi_1, oi_21, oi_3, oi_6, P_cant, P_isType, P_isWord, P_take, P_variable, P_wrong]; try dsimp only
        refine ⟨rfl, rfl, (by decide), (⟨by lia, by lia⟩), fun w3 τ3 hq3 => ?_⟩
        obtain ⟨r3, rfl, hr3, e3⟩ := hq3
        obtain rfl := e3.symm
        rcases hr3 with rfl | ⟨rfl, hw3⟩
        · dsimp only [Option.toList, List.cons_append, List.nil_append, Nat.beq, gI_sI, gI_sL, gI_sA, gI_sM, gL_sI, gL_sL, gL_sA, gL_sM, aI_sI, aI_sL, aI_sA, aI_sM, aL_sI, aL_sL, aL_sA, aL_sM, gI_em, gI_emx, gI_pu, gI_wh]
          refine ⟨fun h4 => absurd h4 (by decide), fun h4 => ?_⟩
          clear h4
          apply hB
          dsimp only [rgo, rfd, Bparam, Nat.beq, rwp, rst, lv_args, rlk, rs1, rs2, rdl, rky, rct, rcs, rcd, rno, rsw, Value.category, List.filter, List.take, List.drop, List.reverse, List.reverseAux, List.cons_append, List.nil_append, Option.toList, Int.toNat, Int.reduceToNat, if_pos, if_neg, reduceIte, ↓reduceIte, Nat.reduceAdd, Nat.reduceEqDiff, Nat.reduceBEq, beq_self_eq_true, Bool.not_true, Bool.not_false, Bool.and_true, Bool.and_false, Bool.true_and, Bool.false_and, gI_sI, gI_sL, gI_sA, gI_sM, gL_sI, gL_sL, gL_sA, gL_sM, aI_sI, aI_sL, aI_sA, aI_sM, aL_sI, aL_sL, aL_sA, aL_sM, gI_em, gI_emx, gI_pu, gI_wh, Bparam_0, Bparam_11, Bparam_18, Bparam_20, Bparam_31, Bparam_36, Bparam_54, Bparam_56, Bparam_69, Bparam_74, Bparam_85, Bparam_95, oi_0, oi_1, oi_21, oi_3, oi_6, P_cant, P_isType, P_isWord, P_take, P_variable, P_wrong]; try dsimp only
          refine ⟨rfl, (by decide), (⟨by lia, by lia⟩), fun w5 τ5 hq5 => ?_⟩
          obtain ⟨r5, rfl, rfl, fa5, fb5, rfl⟩ := hq5
          dsimp only [Option.toList, List.cons_append, List.nil_append, Nat.beq, gI_sI, gI_sL, gI_sA, gI_sM, gL_sI, gL_sL, gL_sA, gL_sM, aI_sI, aI_sL, aI_sA, aI_sM, aL_sI, aL_sL, aL_sA, aL_sM, gI_em, gI_emx, gI_pu, gI_wh]
          refine ⟨Or.inl rfl, ?_⟩
          exact ⟨_, rfl, Or.inl ⟨rfl, by repeat (first | exact Fp.rf | (with_reducible refine Fp.vr ?_ ?_) | refine Fp.a ?_ rfl | refine Fp.i ?_ rfl | refine Fp.y ?_ rfl ⟨by lia, by lia⟩ | exact ⟨by lia, by lia⟩)⟩⟩
        · dsimp only [Option.toList, List.cons_append, List.nil_append, Nat.beq, gI_sI, gI_sL, gI_sA, gI_sM, gL_sI, gL_sL, gL_sA, gL_sM, aI_sI, aI_sL, aI_sA, aI_sM, aL_sI, aL_sL, aL_sA, aL_sM, gI_em, gI_emx, gI_pu, gI_wh]
          refine ⟨fun h6 => ?_, fun h6 => absurd h6 (by decide)⟩
          clear h6
          apply hB
          dsimp only [rgo, rfd, Bparam, Nat.beq, rwp, rst, lv_args, rlk, rs1, rs2, rdl, rky, rct, rcs, rcd, rno, rsw, Value.category, List.filter, List.take, List.drop, List.reverse, List.reverseAux, List.cons_append, List.nil_append, Option.toList, Int.toNat, Int.reduceToNat, if_pos, if_neg, reduceIte, ↓reduceIte, Nat.reduceAdd, Nat.reduceEqDiff, Nat.reduceBEq, beq_self_eq_true, Bool.not_true, Bool.not_false, Bool.and_true, Bool.and_false, Bool.true_and, Bool.false_and, gI_sI, gI_sL, gI_sA, gI_sM, gL_sI, gL_sL, gL_sA, gL_sM, aI_sI, aI_sL, aI_sA, aI_sM, aL_sI, aL_sL, aL_sA, aL_sM, gI_em, gI_emx, gI_pu, gI_wh, Bparam_0, Bparam_11, Bparam_18, Bparam_20, Bparam_31, Bparam_36, Bparam_54, Bparam_56, Bparam_69, Bparam_74, Bparam_85, Bparam_95, oi_0, oi_1, oi_21, oi_3, oi_6, P_cant, P_isType, P_isWord, P_take, P_variable, P_wrong]; try dsimp only
          refine ⟨rfl, rfl, rfl, (in_6 (by lia) (by lia)), rfl, (by decide), (⟨by lia, by lia⟩), fun w7 τ7 hq7 => ?_⟩
          obtain ⟨r7, rfl, hq7⟩ := hq7
          rcases hq7 with ⟨rfl, hp7, rfl⟩ | ⟨rfl, fa7, fb7, rfl⟩
          · dsimp only [Option.toList, List.cons_append, List.nil_append, Nat.beq, gI_sI, gI_sL, gI_sA, gI_sM, gL_sI, gL_sL, gL_sA, gL_sM, aI_sI, aI_sL, aI_sA, aI_sM, aL_sI, aL_sL, aL_sA, aL_sM, gI_em, gI_emx, gI_pu, gI_wh]
            try dsimp only [Option.toList, List.cons_append, List.nil_append, Nat.beq, gI_sI, gI_sL, gI_sA, gI_sM, gL_sI, gL_sL, gL_sA, gL_sM, aI_sI, aI_sL, aI_sA, aI_sM, aL_sI, aL_sL, aL_sA, aL_sM, gI_em, gI_emx, gI_pu, gI_wh] at hp7
            refine ⟨fun h8 => ?_, fun h8 => absurd h8 (by decide)⟩
            clear h8
            apply hB
            dsimp only [rgo, rfd, Bparam, Nat.beq, rwp, rst, lv_args, rlk, rs1, rs2, rdl, rky, rct, rcs, rcd, rno, rsw, Value.category, List.filter, List.take, List.drop, List.reverse, List.reverseAux, List.cons_append, List.nil_append, Option.toList, Int.toNat, Int.reduceToNat, if_pos, if_neg, reduceIte, ↓reduceIte, Nat.reduceAdd, Nat.reduceEqDiff, Nat.reduceBEq, beq_self_eq_true, Bool.not_true, Bool.not_false, Bool.and_true, Bool.and_false, Bool.true_and, Bool.false_and, gI_sI, gI_sL, gI_sA, gI_sM, gL_sI, gL_sL, gL_sA, gL_sM, aI_sI, aI_sL, aI_sA, aI_sM, aL_sI, aL_sL, aL_sA, aL_sM, gI_em, gI_emx, gI_pu, gI_wh, Bparam_0, Bparam_11, Bparam_18, Bparam_20, Bparam_31, Bparam_36, Bparam_54, Bparam_56, Bparam_69, Bparam_74, Bparam_85, Bparam_95, oi_0, oi_1, oi_21, oi_3, oi_6, P_cant, P_isType, P_isWord, P_take, P_variable, P_wrong]; try dsimp only
            refine ⟨rfl, rfl, rfl, (in_3 (by lia) (by lia)), fun h9 => ?_, fun h9 => ?_⟩
            · apply hB
              dsimp only [rgo, rfd, Bparam, Nat.beq, rwp, rst, lv_args, rlk, rs1, rs2, rdl, rky, rct, rcs, rcd, rno, rsw, Value.category, List.filter, List.take, List.drop, List.reverse, List.reverseAux, List.cons_append, List.nil_append, Option.toList, Int.toNat, Int.reduceToNat, if_pos, if_neg, reduceIte, ↓reduceIte, Nat.reduceAdd, Nat.reduceEqDiff, Nat.reduceBEq, beq_self_eq_true, Bool.not_true, Bool.not_false, Bool.and_true, Bool.and_false, Bool.true_and, Bool.false_and, gI_sI, gI_sL, gI_sA, gI_sM, gL_sI, gL_sL, gL_sA, gL_sM, aI_sI, aI_sL, aI_sA, aI_sM, aL_sI, aL_sL, aL_sA, aL_sM, gI_em, gI_emx, gI_pu, gI_wh, Bparam_0, Bparam_11, Bparam_18, Bparam_20, Bparam_31, Bparam_36, Bparam_54, Bparam_56, Bparam_69, Bparam_74, Bparam_85, Bparam_95, oi_0, oi_1, oi_21, oi_3, oi_6, P_cant, P_isType, P_isWord, P_take, P_variable, P_wrong]; try dsimp only
              refine ⟨rfl, rfl, (in_39 (by lia) (by lia)), fun h10 => ?_, fun h10 => ?_⟩
              · apply hB
                dsimp only [rgo, rfd, Bparam, Nat.beq, rwp, rst, lv_args, rlk, rs1, rs2, rdl, rky, rct, rcs, rcd, rno, rsw, Value.category, List.filter, List.take, List.drop, List.reverse, List.reverseAux, List.cons_append, List.nil_append, Option.toList, Int.toNat, Int.reduceToNat, if_pos, if_neg, reduceIte, ↓reduceIte, Nat.reduceAdd, Nat.reduceEqDiff, Nat.reduceBEq, beq_self_eq_true, Bool.not_true, Bool.not_false, Bool.and_true, Bool.and_false, Bool.true_and, Bool.false_and, gI_sI, gI_sL, gI_sA, gI_sM, gL_sI, gL_sL, gL_sA, gL_sM, aI_sI, aI_sL, aI_sA, aI_sM, aL_sI, aL_sL, aL_sA, aL_sM, gI_em, gI_emx, gI_pu, gI_wh, Bparam_0, Bparam_11, Bparam_18, Bparam_20, Bparam_31, Bparam_36, Bparam_54, Bparam_56, Bparam_69, Bparam_74, Bparam_85, Bparam_95, oi_0, oi_1, oi_21, oi_3, oi_6, P_cant, P_isType, P_isWord, P_take, P_variable, P_wrong]; try dsimp only
                refine ⟨rfl, rfl, (in_39 (by lia) (by lia)), rfl, (in_39 (by lia) (by lia)), rfl, (by decide), (⟨⟨by lia, by lia⟩, ⟨by lia, by lia⟩, by decide, hPI.1.2.2.2.1.2.1 _, hw3⟩), fun w11 τ11 hq11 => ?_⟩
                obtain ⟨r11, rfl, hq11⟩ := hq11
                rcases hq11 with ⟨rfl, hv11, hp11, m11, rfl⟩ | ⟨rfl, hf11⟩
                · dsimp only [Option.toList, List.cons_append, List.nil_append, Nat.beq, gI_sI, gI_sL, gI_sA, gI_sM, gL_sI, gL_sL, gL_sA, gL_sM, aI_sI, aI_sL, aI_sA, aI_sM, aL_sI, aL_sL, aL_sA, aL_sM, gI_em, gI_emx, gI_pu, gI_wh]
                  try dsimp only [Option.toList, List.cons_append, List.nil_append, Nat.beq, gI_sI, gI_sL, gI_sA, gI_sM, gL_sI, gL_sL, gL_sA, gL_sM, aI_sI, aI_sL, aI_sA, aI_sM, aL_sI, aL_sL, aL_sA, aL_sM, gI_em, gI_emx, gI_pu, gI_wh] at hv11 hp11
                  refine ⟨Or.inr rfl, ?_⟩
                  have hty : 0 ≤ aI σ 6 (gI σ 14).toNatClampNeg ∧ aI σ 6 (gI σ 14).toNatClampNeg ≤ 4 := ⟨hPI.1.2.2.2.1.2.1 _, hw3⟩
                  exact ⟨_, rfl, Or.inr ⟨rfl, by repeat (first | exact Fp.rf | (with_reducible refine Fp.vr ?_ ?_) | refine Fp.a ?_ rfl | refine Fp.i ?_ rfl | refine Fp.y ?_ rfl ⟨by lia, by lia⟩ | exact ⟨by lia, by lia⟩), fun s k j h => PI.parm (X := σ) h (by assumption) (by assumption) (by assumption) _ _ _ _ ⟨hPI.1.2.2.2.1.2.1 _, hw3⟩, MM.parm (X := σ) hMM (by assumption) (by assumption) (by show 0 ≤ gI σ 42; lia) _ _ _ _, rfl, rfl, by show gI σ 14 < gI σ 14 + 1 + 1; lia⟩⟩
                · dsimp only [Option.toList, List.cons_append, List.nil_append, Nat.beq, gI_sI, gI_sL, gI_sA, gI_sM, gL_sI, gL_sL, gL_sA, gL_sM, aI_sI, aI_sL, aI_sA, aI_sM, aL_sI, aL_sL, aL_sA, aL_sM, gI_em, gI_emx, gI_pu, gI_wh]
                  refine ⟨Or.inl rfl, ?_⟩
                  exact ⟨_, rfl, Or.inl ⟨rfl, Fp.tr (by repeat (first | exact Fp.rf | (with_reducible refine Fp.vr ?_ ?_) | refine Fp.a ?_ rfl | refine Fp.i ?_ rfl | refine Fp.y ?_ rfl ⟨by lia, by lia⟩ | exact ⟨by lia, by lia⟩)) hf11⟩⟩
              · apply hB
                dsimp only [rgo, rfd, Bparam, Nat.beq, rwp, rst, lv_args, rlk, rs1, rs2, rdl, rky, rct, rcs, rcd, rno, rsw, Value.category, List.filter, List.take, List.drop, List.reverse, List.reverseAux, List.cons_append, List.nil_append, Option.toList, Int.toNat, Int.reduceToNat, if_pos, if_neg, reduceIte, ↓reduceIte, Nat.reduceAdd, Nat.reduceEqDiff, Nat.reduceBEq, beq_self_eq_true, Bool.not_true, Bool.not_false, Bool.and_true, Bool.and_false, Bool.true_and, Bool.false_and, gI_sI, gI_sL, gI_sA, gI_sM, gL_sI, gL_sL, gL_sA, gL_sM, aI_sI, aI_sL, aI_sA, aI_sM, aL_sI, aL_sL, aL_sA, aL_sM, gI_em, gI_emx, gI_pu, gI_wh, Bparam_0, Bparam_11, Bparam_18, Bparam_20, Bparam_31, Bparam_36, Bparam_54, Bparam_56, Bparam_69, Bparam_74, Bparam_85, Bparam_95, oi_0, oi_1, oi_21, oi_3, oi_6, P_cant, P_isType, P_isWord, P_take, P_variable, P_wrong]; try dsimp only
                refine ⟨rfl, rfl, (by decide), (⟨by lia, by lia⟩), fun w12 τ12 hq12 => ?_⟩
                obtain ⟨r12, rfl, rfl, fa12, fb12, rfl⟩ := hq12
                dsimp only [Option.toList, List.cons_append, List.nil_append, Nat.beq, gI_sI, gI_sL, gI_sA, gI_sM, gL_sI, gL_sL, gL_sA, gL_sM, aI_sI, aI_sL, aI_sA, aI_sM, aL_sI, aL_sL, aL_sA, aL_sM, gI_em, gI_emx, gI_pu, gI_wh]
                refine ⟨Or.inl rfl, ?_⟩
                exact ⟨_, rfl, Or.inl ⟨rfl, by repeat (first | exact Fp.rf | (with_reducible refine Fp.vr ?_ ?_) | refine Fp.a ?_ rfl | refine Fp.i ?_ rfl | refine Fp.y ?_ rfl ⟨by lia, by lia⟩ | exact ⟨by lia, by lia⟩)⟩⟩
            · apply hB
              dsimp only [rgo, rfd, Bparam, Nat.beq, rwp, rst, lv_args, rlk, rs1, rs2, rdl, rky, rct, rcs, rcd, rno, rsw, Value.category, List.filter, List.take, List.drop, List.reverse, List.reverseAux, List.cons_append, List.nil_append, Option.toList, Int.toNat, Int.reduceToNat, if_pos, if_neg, reduceIte, ↓reduceIte, Nat.reduceAdd, Nat.reduceEqDiff, Nat.reduceBEq, beq_self_eq_true, Bool.not_true, Bool.not_false, Bool.and_true, Bool.and_false, Bool.true_and, Bool.false_and, gI_sI, gI_sL, gI_sA, gI_sM, gL_sI, gL_sL, gL_sA, gL_sM, aI_sI, aI_sL, aI_sA, aI_sM, aL_sI, aL_sL, aL_sA, aL_sM, gI_em, gI_emx, gI_pu, gI_wh, Bparam_0, Bparam_11, Bparam_18, Bparam_20, Bparam_31, Bparam_36, Bparam_54, Bparam_56, Bparam_69, Bparam_74, Bparam_85, Bparam_95, oi_0, oi_1, oi_21, oi_3, oi_6, P_cant, P_isType, P_isWord, P_take, P_variable, P_wrong]; try dsimp only
              refine ⟨rfl, (by decide), (⟨by lia, by lia⟩), fun w13 τ13 hq13 => ?_⟩
              obtain ⟨r13, rfl, rfl, fa13, fb13, rfl⟩ := hq13
              dsimp only [Option.toList, List.cons_append, List.nil_append, Nat.beq, gI_sI, gI_sL, gI_sA, gI_sM, gL_sI, gL_sL, gL_sA, gL_sM, aI_sI, aI_sL, aI_sA, aI_sM, aL_sI, aL_sL, aL_sA, aL_sM, gI_em, gI_emx, gI_pu, gI_wh]
              refine ⟨Or.inl rfl, ?_⟩
              exact ⟨_, rfl, Or.inl ⟨rfl, by repeat (first | exact Fp.rf | (with_reducible refine Fp.vr ?_ ?_) | refine Fp.a ?_ rfl | refine Fp.i ?_ rfl | refine Fp.y ?_ rfl ⟨by lia, by lia⟩ | exact ⟨by lia, by lia⟩)⟩⟩
          · dsimp only [Option.toList, List.cons_append, List.nil_append, Nat.beq, gI_sI, gI_sL, gI_sA, gI_sM, gL_sI, gL_sL, gL_sA, gL_sM, aI_sI, aI_sL, aI_sA, aI_sM, aL_sI, aL_sL, aL_sA, aL_sM, gI_em, gI_emx, gI_pu, gI_wh]
            refine ⟨fun h14 => absurd h14 (by decide), fun h14 => ?_⟩
            clear h14
            apply hB
            dsimp only [rgo, rfd, Bparam, Nat.beq, rwp, rst, lv_args, rlk, rs1, rs2, rdl, rky, rct, rcs, rcd, rno, rsw, Value.category, List.filter, List.take, List.drop, List.reverse, List.reverseAux, List.cons_append, List.nil_append, Option.toList, Int.toNat, Int.reduceToNat, if_pos, if_neg, reduceIte, ↓reduceIte, Nat.reduceAdd, Nat.reduceEqDiff, Nat.reduceBEq, beq_self_eq_true, Bool.not_true, Bool.not_false, Bool.and_true, Bool.and_false, Bool.true_and, Bool.false_and, gI_sI, gI_sL, gI_sA, gI_sM, gL_sI, gL_sL, gL_sA, gL_sM, aI_sI, aI_sL, aI_sA, aI_sM, aL_sI, aL_sL, aL_sA, aL_sM, gI_em, gI_emx, gI_pu, gI_wh, Bparam_0, Bparam_11, Bparam_18, Bparam_20, Bparam_31, Bparam_36, Bparam_54, Bparam_56, Bparam_69, Bparam_74, Bparam_85, Bparam_95, oi_0, oi_1, oi_21, oi_3, oi_6, P_cant, P_isType, P_isWord, P_take, P_variable, P_wrong]; try dsimp only
            refine ⟨Or.inl rfl, ?_⟩
            exact ⟨_, rfl, Or.inl ⟨rfl, by repeat (first | exact Fp.rf | (with_reducible refine Fp.vr ?_ ?_) | refine Fp.a ?_ rfl | refine Fp.i ?_ rfl | refine Fp.y ?_ rfl ⟨by lia, by lia⟩ | exact ⟨by lia, by lia⟩)⟩⟩
      · dsimp only [Option.toList, List.cons_append, List.nil_append, Nat.beq, gI_sI, gI_sL, gI_sA, gI_sM, gL_sI, gL_sL, gL_sA, gL_sM, aI_sI, aI_sL, aI_sA, aI_sM, aL_sI, aL_sL, aL_sA, aL_sM, gI_em, gI_emx, gI_pu, gI_wh]
        refine ⟨fun h15 => absurd h15 (by decide), fun h15 => ?_⟩
        clear h15
        apply hB
        dsimp only [rgo, rfd, Bparam, Nat.beq, rwp, rst, lv_args, rlk, rs1, rs2, rdl, rky, rct, rcs, rcd, rno, rsw, Value.category, List.filter, List.take, List.drop, List.reverse, List.reverseAux, List.cons_append, List.nil_append, Option.toList, Int.toNat, Int.reduceToNat, if_pos, if_neg, reduceIte, ↓reduceIte, Nat.reduceAdd, Nat.reduceEqDiff, Nat.reduceBEq, beq_self_eq_true, Bool.not_true, Bool.not_false, Bool.and_true, Bool.and_false, Bool.true_and, Bool.false_and, gI_sI, gI_sL, gI_sA, gI_sM, gL_sI, gL_sL, gL_sA, gL_sM, aI_sI, aI_sL, aI_sA, aI_sM, aL_sI, aL_sL, aL_sA, aL_sM, gI_em, gI_emx, gI_pu, gI_wh, Bparam_0, Bparam_11, Bparam_18, Bparam_20, Bparam_31, Bparam_36, Bparam_54, Bparam_56, Bparam_69, Bparam_74, Bparam_85, Bparam_95, oi_0, oi_1, oi_21, oi_3, oi_6, P_cant, P_isType, P_isWord, P_take, P_variable, P_wrong]; try dsimp only
        refine ⟨rfl, (by decide), (⟨by lia, by lia⟩), fun w16 τ16 hq16 => ?_⟩
        obtain ⟨r16, rfl, hq16⟩ := hq16
        rcases hq16 with ⟨rfl, hp16, rfl⟩ | ⟨rfl, fa16, fb16, rfl⟩
        · dsimp only [Option.toList, List.cons_append, List.nil_append, Nat.beq, gI_sI, gI_sL, gI_sA, gI_sM, gL_sI, gL_sL, gL_sA, gL_sM, aI_sI, aI_sL, aI_sA, aI_sM, aL_sI, aL_sL, aL_sA, aL_sM, gI_em, gI_emx, gI_pu, gI_wh]
          try dsimp only [Option.toList, List.cons_append, List.nil_append, Nat.beq, gI_sI, gI_sL, gI_sA, gI_sM, gL_sI, gL_sL, gL_sA, gL_sM, aI_sI, aI_sL, aI_sA, aI_sM, aL_sI, aL_sL, aL_sA, aL_sM, gI_em, gI_emx, gI_pu, gI_wh] at hp16
          refine ⟨fun h17 => ?_, fun h17 => absurd h17 (by decide)⟩
          clear h17
          apply hB
          dsimp only [rgo, rfd, Bparam, Nat.beq, rwp, rst, lv_args, rlk, rs1, rs2, rdl, rky, rct, rcs, rcd, rno, rsw, Value.category, List.filter, List.take, List.drop, List.reverse, List.reverseAux, List.cons_append, List.nil_append, Option.toList, Int.toNat, Int.reduceToNat, if_pos, if_neg, reduceIte, ↓reduceIte, Nat.reduceAdd, Nat.reduceEqDiff, Nat.reduceBEq, beq_self_eq_true, Bool.not_true, Bool.not_false, Bool.and_true, Bool.and_false, Bool.true_and, Bool.false_and, gI_sI, gI_sL, gI_sA, gI_sM, gL_sI, gL_sL, gL_sA, gL_sM, aI_sI, aI_sL, aI_sA, aI_sM, aL_sI, aL_sL, aL_sA, aL_sM, gI_em, gI_emx, gI_pu, gI_wh, Bparam_0, Bparam_11, Bparam_18, Bparam_20, Bparam_31, Bparam_36, Bparam_54, Bparam_56, Bparam_69, Bparam_74, Bparam_85, Bparam_95, oi_0, oi_1, oi_21, oi_3, oi_6, P_cant, P_isType, P_isWord, P_take, P_variable, P_wrong]; try dsimp only
          refine ⟨rfl, rfl, (by decide), (⟨by lia, by lia⟩), fun w18 τ18 hq18 => ?_⟩
          obtain ⟨r18, rfl, hr18, e18⟩ := hq18
          obtain rfl := e18.symm
          rcases hr18 with rfl | ⟨rfl, hw18⟩
          · dsimp only [Option.toList, List.cons_append, List.nil_append, Nat.beq, gI_sI, gI_sL, gI_sA, gI_sM, gL_sI, gL_sL, gL_sA, gL_sM, aI_sI, aI_sL, aI_sA, aI_sM, aL_sI, aL_sL, aL_sA, aL_sM, gI_em, gI_emx, gI_pu, gI_wh]
            refine ⟨fun h19 => absurd h19 (by decide), fun h19 => ?_⟩
            clear h19
            apply hB
            dsimp only [rgo, rfd, Bparam, Nat.beq, rwp, rst, lv_args, rlk, rs1, rs2, rdl, rky, rct, rcs, rcd, rno, rsw, Value.category, List.filter, List.take, List.drop, List.reverse, List.reverseAux, List.cons_append, List.nil_append, Option.toList, Int.toNat, Int.reduceToNat, if_pos, if_neg, reduceIte, ↓reduceIte, Nat.reduceAdd, Nat.reduceEqDiff, Nat.reduceBEq, beq_self_eq_true, Bool.not_true, Bool.not_false, Bool.and_true, Bool.and_false, Bool.true_and, Bool.false_and, gI_sI, gI_sL, gI_sA, gI_sM, gL_sI, gL_sL, gL_sA, gL_sM, aI_sI, aI_sL, aI_sA, aI_sM, aL_sI, aL_sL, aL_sA, aL_sM, gI_em, gI_emx, gI_pu, gI_wh, Bparam_0, Bparam_11, Bparam_18, Bparam_20, Bparam_31, Bparam_36, Bparam_54, Bparam_56, Bparam_69, Bparam_74, Bparam_85, Bparam_95, oi_0, oi_1, oi_21, oi_3, oi_6, P_cant, P_isType, P_isWord, P_take, P_variable, P_wrong]; try dsimp only
            refine ⟨rfl, (by decide), (⟨by lia, by lia⟩), fun w20 τ20 hq20 => ?_⟩
            obtain ⟨r20, rfl, rfl, fa20, fb20, rfl⟩ := hq20
            dsimp only [Option.toList, List.cons_append, List.nil_append, Nat.beq, gI_sI, gI_sL, gI_sA, gI_sM, gL_sI, gL_sL, gL_sA, gL_sM, aI_sI, aI_sL, aI_sA, aI_sM, aL_sI, aL_sL, aL_sA, aL_sM, gI_em, gI_emx, gI_pu, gI_wh]
            refine ⟨Or.inl rfl, ?_⟩
            exact ⟨_, rfl, Or.inl ⟨rfl, by repeat (first | exact Fp.rf | (with_reducible refine Fp.vr ?_ ?_) | refine Fp.a ?_ rfl | refine Fp.i ?_ rfl | refine Fp.y ?_ rfl ⟨by lia, by lia⟩ | exact ⟨by lia, by lia⟩)⟩⟩
          · dsimp only [Option.toList, List.cons_append, List.nil_append, Nat.beq, gI_sI, gI_sL, gI_sA, gI_sM, gL_sI, gL_sL, gL_sA, gL_sM, aI_sI, aI_sL, aI_sA, aI_sM, aL_sI, aL_sL, aL_sA, aL_sM, gI_em, gI_emx, gI_pu, gI_wh]
            refine ⟨fun h21 => ?_, fun h21 => absurd h21 (by decide)⟩
            clear h21
            apply hB
            dsimp only [rgo, rfd, Bparam, Nat.beq, rwp, rst, lv_args, rlk, rs1, rs2, rdl, rky, rct, rcs, rcd, rno, rsw, Value.category, List.filter, List.take, List.drop, List.reverse, List.reverseAux, List.cons_append, List.nil_append, Option.toList, Int.toNat, Int.reduceToNat, if_pos, if_neg, reduceIte, ↓reduceIte, Nat.reduceAdd, Nat.reduceEqDiff, Nat.reduceBEq, beq_self_eq_true, Bool.not_true, Bool.not_false, Bool.and_true, Bool.and_false, Bool.true_and, Bool.false_and, gI_sI, gI_sL, gI_sA, gI_sM, gL_sI, gL_sL, gL_sA, gL_sM, aI_sI, aI_sL, aI_sA, aI_sM, aL_sI, aL_sL, aL_sA, aL_sM, gI_em, gI_emx, gI_pu, gI_wh, Bparam_0, Bparam_11, Bparam_18, Bparam_20, Bparam_31, Bparam_36, Bparam_54, Bparam_56, Bparam_69, Bparam_74, Bparam_85, Bparam_95, oi_0, oi_1, oi_21, oi_3, oi_6, P_cant, P_isType, P_isWord, P_take, P_variable, P_wrong]; try dsimp only
            refine ⟨rfl, rfl, rfl, (in_6 (by lia) (by lia)), rfl, (by decide), (⟨by lia, by lia⟩), fun w22 τ22 hq22 => ?_⟩
            obtain ⟨r22, rfl, hq22⟩ := hq22
            rcases hq22 with ⟨rfl, hp22, rfl⟩ | ⟨rfl, fa22, fb22, rfl⟩
            · dsimp only [Option.toList, List.cons_append, List.nil_append, Nat.beq, gI_sI, gI_sL, gI_sA, gI_sM, gL_sI, gL_sL, gL_sA, gL_sM, aI_sI, aI_sL, aI_sA, aI_sM, aL_sI, aL_sL, aL_sA, aL_sM, gI_em, gI_emx, gI_pu, gI_wh]
              try dsimp only [Option.toList, List.cons_append, List.nil_append, Nat.beq, gI_sI, gI_sL, gI_sA, gI_sM, gL_sI, gL_sL, gL_sA, gL_sM, aI_sI, aI_sL, aI_sA, aI_sM, aL_sI, aL_sL, aL_sA, aL_sM, gI_em, gI_emx, gI_pu, gI_wh] at hp22
              refine ⟨fun h23 => ?_, fun h23 => absurd h23 (by decide)⟩
              clear h23
              apply hB
              dsimp only [rgo, rfd, Bparam, Nat.beq, rwp, rst, lv_args, rlk, rs1, rs2, rdl, rky, rct, rcs, rcd, rno, rsw, Value.category, List.filter, List.take, List.drop, List.reverse, List.reverseAux, List.cons_append, List.nil_append, Option.toList, Int.toNat, Int.reduceToNat, if_pos, if_neg, reduceIte, ↓reduceIte, Nat.reduceAdd, Nat.reduceEqDiff, Nat.reduceBEq, beq_self_eq_true, Bool.not_true, Bool.not_false, Bool.and_true, Bool.and_false, Bool.true_and, Bool.false_and, gI_sI, gI_sL, gI_sA, gI_sM, gL_sI, gL_sL, gL_sA, gL_sM, aI_sI, aI_sL, aI_sA, aI_sM, aL_sI, aL_sL, aL_sA, aL_sM, gI_em, gI_emx, gI_pu, gI_wh, Bparam_0, Bparam_11, Bparam_18, Bparam_20, Bparam_31, Bparam_36, Bparam_54, Bparam_56, Bparam_69, Bparam_74, Bparam_85, Bparam_95, oi_0, oi_1, oi_21, oi_3, oi_6, P_cant, P_isType, P_isWord, P_take, P_variable, P_wrong]; try dsimp only
              refine ⟨rfl, rfl, rfl, (in_3 (by lia) (by lia)), fun h24 => ?_, fun h24 => ?_⟩
              · apply hB
                dsimp only [rgo, rfd, Bparam, Nat.beq, rwp, rst, lv_args, rlk, rs1, rs2, rdl, rky, rct, rcs, rcd, rno, rsw, Value.category, List.filter, List.take, List.drop, List.reverse, List.reverseAux, List.cons_append, List.nil_append, Option.toList, Int.toNat, Int.reduceToNat, if_pos, if_neg, reduceIte, ↓reduceIte, Nat.reduceAdd, Nat.reduceEqDiff, Nat.reduceBEq, beq_self_eq_true, Bool.not_true, Bool.not_false, Bool.and_true, Bool.and_false, Bool.true_and, Bool.false_and, gI_sI, gI_sL, gI_sA, gI_sM, gL_sI, gL_sL, gL_sA, gL_sM, aI_sI, aI_sL, aI_sA, aI_sM, aL_sI, aL_sL, aL_sA, aL_sM, gI_em, gI_emx, gI_pu, gI_wh, Bparam_0, Bparam_11, Bparam_18, Bparam_20, Bparam_31, Bparam_36, Bparam_54, Bparam_56, Bparam_69, Bparam_74, Bparam_85, Bparam_95, oi_0, oi_1, oi_21, oi_3, oi_6, P_cant, P_isType, P_isWord, P_take, P_variable, P_wrong]; try dsimp only
                refine ⟨rfl, rfl, (in_39 (by lia) (by lia)), fun h25 => ?_, fun h25 => ?_⟩
                · apply hB
                  dsimp only [rgo, rfd, Bparam, Nat.beq, rwp, rst, lv_args, rlk, rs1, rs2, rdl, rky, rct, rcs, rcd, rno, rsw, Value.category, List.filter, List.take, List.drop, List.reverse, List.reverseAux, List.cons_append, List.nil_append, Option.toList, Int.toNat, Int.reduceToNat, if_pos, if_neg, reduceIte, ↓reduceIte, Nat.reduceAdd, Nat.reduceEqDiff, Nat.reduceBEq, beq_self_eq_true, Bool.not_true, Bool.not_false, Bool.and_true, Bool.and_false, Bool.true_and, Bool.false_and, gI_sI, gI_sL, gI_sA, gI_sM, gL_sI, gL_sL, gL_sA, gL_sM, aI_sI, aI_sL, aI_sA, aI_sM, aL_sI, aL_sL, aL_sA, aL_sM, gI_em, gI_emx, gI_pu, gI_wh, Bparam_0, Bparam_11, Bparam_18, Bparam_20, Bparam_31, Bparam_36, Bparam_54, Bparam_56, Bparam_69, Bparam_74, Bparam_85, Bparam_95, oi_0, oi_1, oi_21, oi_3, oi_6, P_cant, P_isType, P_isWord, P_take, P_variable, P_wrong]; try dsimp only
                  refine ⟨rfl, rfl, (in_39 (by lia) (by lia)), rfl, (in_39 (by lia) (by lia)), rfl, (by decide), (⟨⟨by lia, by lia⟩, ⟨by lia, by lia⟩, by decide, hPI.1.2.2.2.1.2.1 _, hw18⟩), fun w26 τ26 hq26 => ?_⟩
                  obtain ⟨r26, rfl, hq26⟩ := hq26
                  rcases hq26 with ⟨rfl, hv26, hp26, m26, rfl⟩ | ⟨rfl, hf26⟩
                  · dsimp only [Option.toList, List.cons_append, List.nil_append, Nat.beq, gI_sI, gI_sL, gI_sA, gI_sM, gL_sI, gL_sL, gL_sA, gL_sM, aI_sI, aI_sL, aI_sA, aI_sM, aL_sI, aL_sL, aL_sA, aL_sM, gI_em, gI_emx, gI_pu, gI_wh]
                    try dsimp only [Option.toList, List.cons_append, List.nil_append, Nat.beq, gI_sI, gI_sL, gI_sA, gI_sM, gL_sI, gL_sL, gL_sA, gL_sM, aI_sI, aI_sL, aI_sA, aI_sM, aL_sI, aL_sL, aL_sA, aL_sM, gI_em, gI_emx, gI_pu, gI_wh] at hv26 hp26
                    refine ⟨Or.inr rfl, ?_⟩
                    have hty : 0 ≤ aI σ 6 (gI σ 14 + 1).toNatClampNeg ∧ aI σ 6 (gI σ 14 + 1).toNatClampNeg ≤ 4 := ⟨hPI.1.2.2.2.1.2.1 _, hw18⟩
                    exact ⟨_, rfl, Or.inr ⟨rfl, by repeat (first | exact Fp.rf | (with_reducible refine Fp.vr ?_ ?_) | refine Fp.a ?_ rfl | refine Fp.i ?_ rfl | refine Fp.y ?_ rfl ⟨by lia, by lia⟩ | exact ⟨by lia, by lia⟩), fun s k j h => PI.parm (X := (sI σ 14 (gI σ 14 + 1))) (h.take (by assumption) rfl k j ⟨h.1.2.1.2.2, by omega⟩ ⟨h.1.2.2.2.2.2.2, by omega⟩) (by assumption) (by assumption) (by assumption) _ _ _ _ ⟨hPI.1.2.2.2.1.2.1 _, hw18⟩, MM.parm (X := (sI σ 14 (gI σ 14 + 1))) (MM.of hMM rfl rfl rfl rfl rfl) (by assumption) (by assumption) (by show 0 ≤ gI σ 42; lia) _ _ _ _, rfl, rfl, by show gI σ 14 < gI σ 14 + 1 + 1 + 1; lia⟩⟩
                  · dsimp only [Option.toList, List.cons_append, List.nil_append, Nat.beq, gI_sI, gI_sL, gI_sA, gI_sM, gL_sI, gL_sL, gL_sA, gL_sM, aI_sI, aI_sL, aI_sA, aI_sM, aL_sI, aL_sL, aL_sA, aL_sM, gI_em, gI_emx, gI_pu, gI_wh]
                    refine ⟨Or.inl rfl, ?_⟩
                    exact ⟨_, rfl, Or.inl ⟨rfl, Fp.tr (by repeat (first | exact Fp.rf | (with_reducible refine Fp.vr ?_ ?_) | refine Fp.a ?_ rfl | refine Fp.i ?_ rfl | refine Fp.y ?_ rfl ⟨by lia, by lia⟩ | exact ⟨by lia, by lia⟩)) hf26⟩⟩
                · apply hB
                  dsimp only [rgo, rfd, Bparam, Nat.beq, rwp, rst, lv_args, rlk, rs1, rs2, rdl, rky, rct, rcs, rcd, rno, rsw, Value.category, List.filter, List.take, List.drop, List.reverse, List.reverseAux, List.cons_append, List.nil_append, Option.toList, Int.toNat, Int.reduceToNat, if_pos, if_neg, reduceIte, ↓reduceIte, Nat.reduceAdd, Nat.reduceEqDiff, Nat.reduceBEq, beq_self_eq_true, Bool.not_true, Bool.not_false, Bool.and_true, Bool.and_false, Bool.true_and, Bool.false_and, gI_sI, gI_sL, gI_sA, gI_sM, gL_sI, gL_sL, gL_sA, gL_sM, aI_sI, aI_sL, aI_sA, aI_sM, aL_sI, aL_sL, aL_sA, aL_sM, gI_em, gI_emx, gI_pu, gI_wh, Bparam_0, Bparam_11, Bparam_18, Bparam_20, Bparam_31, Bparam_36, Bparam_54, Bparam_56, Bparam_69, Bparam_74, Bparam_85, Bparam_95, oi_0, oi_1, oi_21, oi_3, oi_6, P_cant, P_isType, P_isWord, P_take, P_variable, P_wrong]; try dsimp only
                  refine ⟨rfl, rfl, (by decide), (⟨by lia, by lia⟩), fun w27 τ27 hq27 => ?_⟩
                  obtain ⟨r27, rfl, rfl, fa27, fb27, rfl⟩ := hq27
                  dsimp only [Option.toList, List.cons_append, List.nil_append, Nat.beq, gI_sI, gI_sL, gI_sA, gI_sM, gL_sI, gL_sL, gL_sA, gL_sM, aI_sI, aI_sL, aI_sA, aI_sM, aL_sI, aL_sL, aL_sA, aL_sM, gI_em, gI_emx, gI_pu, gI_wh]
                  refine ⟨Or.inl rfl, ?_⟩
                  exact ⟨_, rfl, Or.inl ⟨rfl, by repeat (first | exact Fp.rf | (with_reducible refine Fp.vr ?_ ?_) | refine Fp.a ?_ rfl | refine Fp.i ?_ rfl | refine Fp.y ?_ rfl ⟨by lia, by lia⟩ | exact ⟨by lia, by lia⟩)⟩⟩
              · apply hB
                dsimp only [rgo, rfd, Bparam, Nat.beq, rwp, rst, lv_args, rlk, rs1, rs2, rdl, rky, rct, rcs, rcd, rno, rsw, Value.category, List.filter, List.take, List.drop, List.reverse, List.reverseAux, List.cons_append, List.nil_append, Option.toList, Int.toNat, Int.reduceToNat, if_pos, if_neg, reduceIte, ↓reduceIte, Nat.reduceAdd, Nat.reduceEqDiff, Nat.reduceBEq, beq_self_eq_true, Bool.not_true, Bool.not_false, Bool.and_true, Bool.and_false, Bool.true_and, Bool.false_and, gI_sI, gI_sL, gI_sA, gI_sM, gL_sI, gL_sL, gL_sA, gL_sM, aI_sI, aI_sL, aI_sA, aI_sM, aL_sI, aL_sL, aL_sA, aL_sM, gI_em, gI_emx, gI_pu, gI_wh, Bparam_0, Bparam_11, Bparam_18, Bparam_20, Bparam_31, Bparam_36, Bparam_54, Bparam_56, Bparam_69, Bparam_74, Bparam_85, Bparam_95, oi_0, oi_1, oi_21, oi_3, oi_6, P_cant, P_isType, P_isWord, P_take, P_variable, P_wrong]; try dsimp only
                refine ⟨rfl, (by decide), (⟨by lia, by lia⟩), fun w28 τ28 hq28 => ?_⟩
                obtain ⟨r28, rfl, rfl, fa28, fb28, rfl⟩ := hq28
                dsimp only [Option.toList, List.cons_append, List.nil_append, Nat.beq, gI_sI, gI_sL, gI_sA, gI_sM, gL_sI, gL_sL, gL_sA, gL_sM, aI_sI, aI_sL, aI_sA, aI_sM, aL_sI, aL_sL, aL_sA, aL_sM, gI_em, gI_emx, gI_pu, gI_wh]
                refine ⟨Or.inl rfl, ?_⟩
                exact ⟨_, rfl, Or.inl ⟨rfl, by repeat (first | exact Fp.rf | (with_reducible refine Fp.vr ?_ ?_) | refine Fp.a ?_ rfl | refine Fp.i ?_ rfl | refine Fp.y ?_ rfl ⟨by lia, by lia⟩ | exact ⟨by lia, by lia⟩)⟩⟩
            · dsimp only [Option.toList, List.cons_append, List.nil_append, Nat.beq, gI_sI, gI_sL, gI_sA, gI_sM, gL_sI, gL_sL, gL_sA, gL_sM, aI_sI, aI_sL, aI_sA, aI_sM, aL_sI, aL_sL, aL_sA, aL_sM, gI_em, gI_emx, gI_pu, gI_wh]
              refine ⟨fun h29 => absurd h29 (by decide), fun h29 => ?_⟩
              clear h29
              apply hB
              dsimp only [rgo, rfd, Bparam, Nat.beq, rwp, rst, lv_args, rlk, rs1, rs2, rdl, rky, rct, rcs, rcd, rno, rsw, Value.category, List.filter, List.take, List.drop, List.reverse, List.reverseAux, List.cons_append, List.nil_append, Option.toList, Int.toNat, Int.reduceToNat, if_pos, if_neg, reduceIte, ↓reduceIte, Nat.reduceAdd, Nat.reduceEqDiff, Nat.reduceBEq, beq_self_eq_true, Bool.not_true, Bool.not_false, Bool.and_true, Bool.and_false, Bool.true_and, Bool.false_and, gI_sI, gI_sL, gI_sA, gI_sM, gL_sI, gL_sL, gL_sA, gL_sM, aI_sI, aI_sL, aI_sA, aI_sM, aL_sI, aL_sL, aL_sA, aL_sM, gI_em, gI_emx, gI_pu, gI_wh, Bparam_0, Bparam_11, Bparam_18, Bparam_20, Bparam_31, Bparam_36, Bparam_54, Bparam_56, Bparam_69, Bparam_74, Bparam_85, Bparam_95, oi_0, oi_1, oi_21, oi_3, oi_6, P_cant, P_isType, P_isWord, P_take, P_variable, P_wrong]; try dsimp only
              refine ⟨Or.inl rfl, ?_⟩
              exact ⟨_, rfl, Or.inl ⟨rfl, by repeat (first | exact Fp.rf | (with_reducible refine Fp.vr ?_ ?_) | refine Fp.a ?_ rfl | refine Fp.i ?_ rfl | refine Fp.y ?_ rfl ⟨by lia, by lia⟩ | exact ⟨by lia, by lia⟩)⟩⟩
        · dsimp only [Option.toList, List.cons_append, List.nil_append, Nat.beq, gI_sI, gI_sL, gI_sA, gI_sM, gL_sI, gL_sL, gL_sA, gL_sM, aI_sI, aI_sL, aI_sA, aI_sM, aL_sI, aL_sL, aL_sA, aL_sM, gI_em, gI_emx, gI_pu, gI_wh]
          refine ⟨fun h30 => absurd h30 (by decide), fun h30 => ?_⟩
          clear h30
          apply hB
          dsimp only [rgo, rfd, Bparam, Nat.beq, rwp, rst, lv_args, rlk, rs1, rs2, rdl, rky, rct, rcs, rcd, rno, rsw, Value.category, List.filter, List.take, List.drop, List.reverse, List.reverseAux, List.cons_append, List.nil_append, Option.toList, Int.toNat, Int.reduceToNat, if_pos, if_neg, reduceIte, ↓reduceIte, Nat.reduceAdd, Nat.reduceEqDiff, Nat.reduceBEq, beq_self_eq_true, Bool.not_true, Bool.not_false, Bool.and_true, Bool.and_false, Bool.true_and, Bool.false_and, gI_sI, gI_sL, gI_sA, gI_sM, gL_sI, gL_sL, gL_sA, gL_sM, aI_sI, aI_sL, aI_sA, aI_sM, aL_sI, aL_sL, aL_sA, aL_sM, gI_em, gI_emx, gI_pu, gI_wh, Bparam_0, Bparam_11, Bparam_18, Bparam_20, Bparam_31, Bparam_36, Bparam_54, Bparam_56, Bparam_69, Bparam_74, Bparam_85, Bparam_95, oi_0, oi_1, oi_21, oi_3, oi_6, P_cant, P_isType, P_isWord, P_take, P_variable, P_wrong]; try dsimp only
          refine ⟨Or.inl rfl, ?_⟩
          exact ⟨_, rfl, Or.inl ⟨rfl, by repeat (first | exact Fp.rf | (with_reducible refine Fp.vr ?_ ?_) | refine Fp.a ?_ rfl | refine Fp.i ?_ rfl | refine Fp.y ?_ rfl ⟨by lia, by lia⟩ | exact ⟨by lia, by lia⟩)⟩⟩
    next => exact hP.elim
theorem m_param (l : Launch) : RMet l 4 39 P_param Q_param := by
  refine RMet.by Bparam [(13, P_cant, Q_cant), (23, P_isType, Q_isType), (15, P_isWord, Q_isWord), (17, P_take, Q_take), (40, P_variable, Q_variable), (12, P_wrong, Q_wrong)] roparam okBparam (ctc (m_cant l) (by decide) (ctc (m_isType l) (by decide) (ctc (m_isWord l) (by decide) (ctc (m_take l) (by decide) (ctc (m_variable l) (by decide) (ctc (m_wrong l) (by decide) ct0)))))) ?_ b_param
  · intro As σ hP
    unfold P_param at hP
    split at hP
    next => exact Nat.le_of_ble_eq_true rfl
    next => exact hP.elim
set_option maxRecDepth 100000 in
theorem e_param (l : Launch) : RMetE l 4 39 P_param Q_param := by
  refine RMetE.by Bparam [(13, P_cant, Q_cant), (23, P_isType, Q_isType), (15, P_isWord, Q_isWord), (17, P_take, Q_take), (40, P_variable, Q_variable), (12, P_wrong, Q_wrong)] rfl rfl roparam okBparam (ctEc (e_cant l) (by decide) (ctEc (e_isType l) (by decide) (ctEc (e_isWord l) (by decide) (ctEc (e_take l) (by decide) (ctEc (e_variable l) (by decide) (ctEc (e_wrong l) (by decide) ctE0)))))) ?_ b_param
  · intro As σ hP
    unfold P_param at hP
    split at hP
    next => exact Nat.le_of_ble_eq_true rfl
    next => exact hP.elim

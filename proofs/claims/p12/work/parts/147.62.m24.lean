theorem PI.mthx {σ σ' : RS} {mn : Nat} {k j : Int} (h : PI σ [] ([], mn) k j) (hM0 : MM σ) (hmn : mn = nT (gI σ 36)) (f14 : gI σ' 14 = gI σ 14 := by rfl) (f17 : gI σ' 17 = gI σ 17 := by rfl) (f32 : gI σ' 32 = gI σ 32 := by rfl) (f49 : gI σ' 49 = gI σ 49 := by rfl) (f62 : gI σ' 62 = gI σ 62 := by rfl) (f42 : gI σ' 42 = gI σ 42 := by rfl) (e36 : gI σ' 36 = gI σ 36 + 1 := by rfl) (e41 : aI σ' 41 = upd (aI σ 41) (nT (gI σ 36)) (gI σ 18) := by rfl) (f63 : aI σ' 63 = aI σ 63 := by rfl) (f64 : aI σ' 64 = aI σ 64 := by rfl) (f65 : aI σ' 65 = aI σ 65 := by rfl) (f43 : aI σ' 43 = aI σ 43 := by rfl) (f37 : aI σ' 37 = aI σ 37 := by rfl) (f39 : aI σ' 39 = aI σ 39 := by rfl) (f40 : aI σ' 40 = aI σ 40 := by rfl) (e18 : gI σ' 18 = gI σ 18 := by rfl) (e19 : aI σ' 19 = aI σ 19 := by rfl) (e20 : aI σ' 20 = aI σ 20 := by rfl) (e21 : aI σ' 21 = aI σ 21 := by rfl) (e22 : aI σ' 22 = aI σ 22 := by rfl) (e23 : aI σ' 23 = aI σ 23 := by rfl) (e24 : aI σ' 24 = aI σ 24 := by rfl) (f50 : aI σ' 50 = aI σ 50 := by rfl) (f51 : aI σ' 51 = aI σ 51 := by rfl) (f52 : aI σ' 52 = aI σ 52 := by rfl) (f53 : aI σ' 53 = aI σ 53 := by rfl) (f54 : aI σ' 54 = aI σ 54 := by rfl) (f55 : aI σ' 55 = aI σ 55 := by rfl) (f56 : aI σ' 56 = aI σ 56 := by rfl) (f57 : aI σ' 57 = aI σ 57 := by rfl) (f58 : aI σ' 58 = aI σ 58 := by rfl) (f59 : aI σ' 59 = aI σ 59 := by rfl) (f60 : aI σ' 60 = aI σ 60 := by rfl) (f61 : aI σ' 61 = aI σ 61 := by rfl) (f3 : aI σ' 3 = aI σ 3 := by rfl) (f6 : aI σ' 6 = aI σ 6 := by rfl) (hgz : GZ σ → GZ σ' := by exact fun h => h) : PI σ' [] ([], mn) k j := by
  have hz := h.numz
  have hn := h.nums
  obtain ⟨⟨h1, h2, h3, h4, h5⟩, hE, hS, hC, hT, hU, hF, hV, hM, hZ, hJ⟩ := h
  have hks : ∀ r, 50 ≤ r → r ≤ 61 → aI σ' r = aI σ r := by
    intro r a b
    have h9 : r = 50 ∨ r = 51 ∨ r = 52 ∨ r = 53 ∨ r = 54 ∨ r = 55 ∨ r = 56 ∨ r = 57 ∨ r = 58 ∨ r = 59 ∨ r = 60 ∨ r = 61 := by omega
    rcases h9 with rfl | rfl | rfl | rfl | rfl | rfl | rfl | rfl | rfl | rfl | rfl | rfl <;> assumption
  have hksl : ∀ n, ksl n = 0 ∨ (52 ≤ ksl n ∧ ksl n ≤ 58) := by
    intro n
    unfold ksl
    split <;> simp
  have hN : nT (gI σ 36 + 1) = nT (gI σ 36) + 1 := nT_add hn.2.2.2.2.2.2.2.1 (by lia)
  obtain ⟨m1, m2, m3, m4, m5⟩ := hM0
  refine ⟨⟨by rw [f14]; exact h1, by rw [e18, f62, f14]; exact h2, by rw [f17, f62]; exact h3, ⟨by unfold AG; rw [e18, e19, e22]; exact h4.1, hgz h4.2⟩, by rw [f49, f14, e18, e19]; exact h5⟩, by rw [e18, e19, e20, e21]; exact hE, by rw [e18, e19, e20]; exact hS, ?_, ?_, ?_, ?_, ?_, ?_, ?_⟩
  · intro c hc
    rw [e18] at hc
    rw [e19, e20, e22, e23, e24, f49]
    obtain ⟨z1, z2, z3, z4, z5, z6, z7, z8, z9, za, zb, zc⟩ := hC c hc
    refine ⟨z1, z2, z3, z4, z5, z6, z7, z8, fun hk => ?_, by rw [f6]; exact za, by rw [f6, f3]; exact zb, by unfold tz; rw [hks 51 (by omega) (by omega), hks 50 (by omega) (by omega)]; exact zc⟩
    rcases hksl (nT (aI σ 19 c)) with z | z
    · exact absurd z hk
    · rw [hks _ (by omega) (by omega)]; exact z9 hk
  · unfold TI
    rw [f49, e18, e19, e20, e21, hks 51 (by omega) (by omega), hks 60 (by omega) (by omega), hks 61 (by omega) (by omega), hks 57 (by omega) (by omega), hks 50 (by omega) (by omega), hks 59 (by omega) (by omega)]
    exact ⟨fun r a b => by rw [hks r (by omega) (by omega)]; exact hT.1 r a b, hT.2⟩
  · unfold UP; rw [e18, e19, e20]; exact hU
  · unfold FI; rw [f62, f63, f64, f65, f49, e18]; exact hF
  · unfold VT; rw [f42, f43]; exact hV
  · refine ⟨by rw [e36]; exact ⟨by lia, by lia⟩, fun m hm => ?_⟩
    rw [e36, hN] at hm
    rw [f37, f39, f40, e41, f42, e18, e19, e20, e21]
    by_cases z : m = nT (gI σ 36)
    · subst z
      rw [upd_eq]
      exact ⟨m2, m3, ⟨m4, m5⟩, ⟨hn.2.1.1, Int32.le_refl _⟩, hE, by rw [← hmn]; exact hS⟩
    · rw [upd_ne z]
      exact hM.2 m (by omega)
  · unfold ZB; rw [e18, e19, e20, e21, f14]; exact ⟨hZ, hJ⟩
def mS (X : RS) : RS := sI (sA X 41 (upd (aI X 41) (nT (gI X 36)) (gI X 18))) 36 (gI X 36 + 1)
theorem PI.mth {X : RS} {mn : Nat} {k j : Int} (h : PI X [] ([], mn) k j) (hM0 : MM X) (hmn : mn = nT (gI X 36)) : PI (mS X) [] ([], mn) k j := h.mthx (σ' := sI (sA X 41 (upd (aI X 41) (nT (gI X 36)) (gI X 18))) 36 (gI X 36 + 1)) hM0 hmn
theorem FF_0 {X : RS} (h : gI X 62 = 0) : FF X = [] := by
  unfold FF
  rw [h]
  rfl
def mH (σ : RS) (ty : Int32) : RS := sI (sA (sA (sA (sA (sI σ 14 (gI σ 14 + 1)) 37 (upd (aI σ 37) (nT (gI σ 36)) (gI σ 14 + 1))) 38 (upd (aI σ 38) (nT (gI σ 36)) ty)) 39 (upd (aI σ 39) (nT (gI σ 36)) 0)) 40 (upd (aI σ 40) (nT (gI σ 36)) (gI σ 42))) 62 0
theorem PI.mh {σ : RS} {ty : Int32} {s : SS} {k j : Int} (h : PI (sI σ 62 0) [] s k j) (hp : gI σ 14 < 500) (hty : 0 ≤ ty) : PI (mH σ ty) [] s (k - 6) (j + 1) := by
  have hj0 := h.1.2.2.2.2.2.2
  have hk0 := h.1.2.1.2.2
  have hz := h.numz
  have hp6 : (gI σ 14).toInt < 500 := Int32.lt_iff_toInt_lt.mp hp
  have hz1 : 0 ≤ (gI σ 14).toInt := hz.1.1
  have u14 : (gI σ 14 + 1).toInt = (gI σ 14).toInt + 1 := t_add1 (by omega)
  refine h.mm (σ' := mH σ ty) (k - 6) (j + 1) ⟨?_, ?_⟩ ⟨by omega, ?_⟩ ⟨by omega, ?_⟩ True.intro (f37 := fun i hi => ?_) (f39 := fun i hi => ?_) (f40 := fun i hi => ?_) (hgz := fun z => ⟨z.1, z.2.1, fun m => ?_⟩)
  · show (gI σ 14).toInt ≤ (gI σ 14 + 1).toInt
    omega
  · show (gI σ 14 + 1).toInt ≤ 500
    omega
  · show k ≤ k - 6 + 6 * ((gI σ 14 + 1).toInt - (gI σ 14).toInt)
    omega
  · show j + 1 ≤ j + ((gI σ 14 + 1).toInt - (gI σ 14).toInt)
    omega
  · have hi : i < nT (gI σ 36) := hi
    show upd (aI σ 37) (nT (gI σ 36)) (gI σ 14 + 1) i = aI σ 37 i
    exact upd_ne (by omega)
  · have hi : i < nT (gI σ 36) := hi
    show upd (aI σ 39) (nT (gI σ 36)) 0 i = aI σ 39 i
    exact upd_ne (by omega)
  · have hi : i < nT (gI σ 36) := hi
    show upd (aI σ 40) (nT (gI σ 36)) (gI σ 42) i = aI σ 40 i
    exact upd_ne (by omega)
  · show 0 ≤ upd (aI σ 38) (nT (gI σ 36)) ty m
    by_cases q : m = nT (gI σ 36)
    · subst q; rw [upd_eq]; exact hty
    · rw [upd_ne q]; exact z.2.2 m
theorem MM.mh {σ : RS} {ty : Int32} (h36 : gI σ 36 < 10) (hp : 0 ≤ gI σ 14 ∧ gI σ 14 < 500) (hv : 0 ≤ gI σ 42 ∧ gI σ 42 ≤ 60) : MM (mH σ ty) := by
  have e37 : aI (mH σ ty) 37 = upd (aI σ 37) (nT (gI σ 36)) (gI σ 14 + 1) := rfl
  have e39 : aI (mH σ ty) 39 = upd (aI σ 39) (nT (gI σ 36)) 0 := rfl
  have e40 : aI (mH σ ty) 40 = upd (aI σ 40) (nT (gI σ 36)) (gI σ 42) := rfl
  have e36 : gI (mH σ ty) 36 = gI σ 36 := rfl
  have e42 : gI (mH σ ty) 42 = gI σ 42 := rfl
  unfold MM
  rw [e36, e37, e39, e40, e42, upd_eq, upd_eq, upd_eq]
  exact ⟨h36, ⟨by lia, by lia⟩, by decide, hv.1, by lia, by lia⟩
theorem MM.ti {σ : RS} {s t : Int32} (h : MM σ) : MM (th σ s t) := MM.of h rfl rfl rfl rfl rfl
theorem MM.s1 {σ : RS} {v : Int32} (h : MM σ) : MM (sI σ 14 v) := MM.of h rfl rfl rfl rfl rfl
def mI (σ : RS) (ty : Int32) : RS := sI (sI (th (mH σ ty) 0 (gI σ 14 + 1)) 14 (gI σ 14 + 1 + 1)) 14 (gI σ 14 + 1 + 1 + 1)
theorem PI.mi {σ : RS} {ty : Int32} {s : SS} {k j : Int} (h : PI (sI σ 62 0) [] s k j) (hk : k ≤ 12) (hj : 1 ≤ j) (hp : gI σ 14 < 500) (hp1 : gI σ 14 + 1 < 500) (hp2 : gI σ 14 + 1 + 1 < 500) (hty : 0 ≤ ty) : PI (mI σ ty) [] s k j := by
  have n14 : 0 ≤ gI σ 14 ∧ gI σ 14 ≤ 500 := h.nums.1
  have b1 := PI.mh (ty := ty) h hp hty
  have b2 := (b1.thg 0 (gI σ 14 + 1) (by omega) (by decide) ⟨by lia, by lia⟩).1
  have b3 := b2.take (by exact hp1) rfl (k - 6) (j + 1) ⟨by omega, by omega⟩ ⟨by omega, by omega⟩
  have b4 := b3.take (by exact hp2) rfl k j ⟨by omega, by omega⟩ ⟨by omega, by omega⟩
  exact b4
theorem MM.mi {σ : RS} {ty : Int32} (h36 : gI σ 36 < 10) (hp : 0 ≤ gI σ 14 ∧ gI σ 14 < 500) (hv : 0 ≤ gI σ 42 ∧ gI σ 42 ≤ 60) : MM (mI σ ty) := MM.s1 (MM.s1 (MM.ti (MM.mh h36 hp hv)))
def mO (X : RS) (K : Int32) : RS := fo (sI (mS (sI X 14 (gI X 14 + 1))) 14 (gI X 14 + 1 + 1)) 0 K (-2)
theorem FF_mO {X : RS} {K : Int32} (h62 : gI X 62 = 0) : FF (mO X K) = [] := by
  have hz : FF (sI (mS (sI X 14 (gI X 14 + 1))) 14 (gI X 14 + 1 + 1)) = [] := FF_0 h62
  unfold mO
  rw [FF_fo, hz, fit0]
  · rfl
  · have e : gI (sI (mS (sI X 14 (gI X 14 + 1))) 14 (gI X 14 + 1 + 1)) 62 = 0 := h62
    rw [e]
    decide
theorem PI.mo {X : RS} {K : Int32} {mn : Nat} {k j : Int} (h : PI X [] ([], mn) k j) (hk : k ≤ 12) (hj : 1 ≤ j) (hM0 : MM X) (hmn : mn = nT (gI X 36)) (h62 : gI X 62 = 0) (hK : 0 ≤ K ∧ K < gI X 49) (hp : gI X 14 < 500) (hp1 : gI X 14 + 1 < 500) (hd : gI X 17 < 20) : PI (mO X K) [] (FF (mO X K), mn) k j := by
  have b1 := h.take hp rfl (k - 6) (j + 1) ⟨by omega, by omega⟩ ⟨by omega, by omega⟩
  have b2 := b1.mth (MM.s1 hM0) hmn
  have b3 := b2.take (by exact hp1) rfl (k - 6) (j + 1) ⟨by omega, by omega⟩ ⟨by omega, by omega⟩
  have b4 := b3.fop 0 K (-2) (by omega) (by exact hd) (by decide) (by exact hK) (fun q => absurd rfl q)
  rw [FF_mO h62]
  exact b4.wk k j ⟨by omega, by omega⟩ ⟨by omega, by omega⟩
theorem MF.mo {X : RS} {K : Int32} (h62 : gI X 62 = 0) (h36 : 0 ≤ gI X 36 ∧ gI X 36 < 10) : MF (mO X K) := by
  have e36 : gI (mO X K) 36 = gI X 36 + 1 := rfl
  have e62 : gI (mO X K) 62 = gI X 62 + 1 := rfl
  refine ⟨by rw [e36]; lia, fun i hi _ => ?_, by rw [e62, h62]; decide, ?_⟩
  rotate_left
  · have e63 : aI (mO X K) 63 = upd (aI X 63) (nT (gI X 62)) 0 := rfl
    have n0 : nT (0 : Int32) = 0 := by decide
    rw [e63, h62, n0, upd_eq]
  rw [e62, h62] at hi
  have : nT (0 + 1 : Int32) = 1 := by decide
  omega
def P_method : RP := fun As σ => match As with
  | [] => ∃ mn k j, PI (sI σ 62 0) [] ([], mn) k j ∧ k ≤ 12 ∧ 1 ≤ j ∧ mn = nT (gI σ 36)
  | _ => False
def Q_method : RQ := fun As σ w τ => match As with
  | [] => ∃ r : Int32, w = some (.int r) ∧ ((r = 0 ∧ Fq σ τ) ∨ (r = 1 ∧ Fq σ τ ∧ (∀ mn k j, PI (sI σ 62 0) [] ([], mn) k j → k ≤ 12 → 1 ≤ j → mn = nT (gI σ 36) → ∃ mn', mn' = nT (gI τ 36) ∧ PI (sI τ 62 0) [] ([], mn') k j) ∧ (gI σ 14) < (gI τ 14)))
  | _ => False
set_option maxRecDepth 100000 in
set_option maxHeartbeats 4000000 in
theorem b_method : Bod Bmethod [(13, P_cant, Q_cant), (14, P_isSign, Q_isSign), (23, P_isType, Q_isType), (15, P_isWord, Q_isWord), (36, P_open, Q_open), (39, P_param, Q_param), (44, P_piece, Q_piece), (17, P_take, Q_take), (35, P_thing, Q_thing), (18, P_want, Q_want), (12, P_wrong, Q_wrong)] P_method Q_method := by
  · intro As σ hP G hB hW
    unfold P_method at hP
    split at hP
    next => 
      unfold Q_method at hB
      dsimp only at hB
      obtain ⟨mm, kk, jj, hP0, hkk, hjj, hmm⟩ := hP
      have nq := hP0.nums
      have n14 : 0 ≤ gI σ 14 ∧ gI σ 14 ≤ 500 := nq.1
      have n18 : 0 ≤ gI σ 18 ∧ gI σ 18 ≤ 3020 := nq.2.1
      have n17 : 0 ≤ gI σ 17 ∧ gI σ 17 ≤ 20 := nq.2.2.1
      have n49 : 0 ≤ gI σ 49 ∧ gI σ 49 ≤ 501 := nq.2.2.2.2.1
      have n42 : 0 ≤ gI σ 42 ∧ gI σ 42 ≤ 60 := nq.2.2.2.2.2.2.1
      have n36 : 0 ≤ gI σ 36 ∧ gI σ 36 ≤ 10 := nq.2.2.2.2.2.2.2
      have t259 : gI σ 36 < 10 → ∀ n : Nat, ∀ Y : RS, (500 - (gI Y 14).toInt).toNat = n → (∀ mn k j, PI (sI σ 62 0) [] ([], mn) k j → k ≤ 12 → 1 ≤ j → mn = nT (gI σ 36) → ∃ mn', ((mn' = mn ∧ 0 < gI Y 62) ∨ (mn' = mn + 1 ∧ gI Y 62 = 0)) ∧ PI Y [] (FF Y, mn') k j) → (0 < gI Y 62 → MF Y) → gI Y 36 = gI σ 36 + 1 → Fq σ Y → gI σ 14 < gI Y 14 → G 259 [(0, .ref 1000)] [] Y := by
        intro h36l n
        have h10 : nT (gI σ 36) < 10 := by
          have h1 := nT_lt n36.1 h36l
          have h2 : nT (10 : Int32) = 10 := by decide
          omega
        have hmm9 : mm < 10 := by omega
        induction n using Nat.strongRecOn with
        | ind n loop =>
          intro Y hn hY hMFY h36 hFq hps
          have nn := (hY mm kk jj hP0 hkk hjj hmm).choose_spec.2.nums
          apply hB
          dsimp only [rgo, rfd, Bmethod, Nat.beq, rwp, rst, lv_args, rlk, rs1, rs2, rdl, rky, rct, rcs, rcd, rno, rsw, Value.category, List.filter, List.take, List.drop, List.reverse, List.reverseAux, List.cons_append, List.nil_append, Option.toList, Int.toNat, Int.reduceToNat, if_pos, if_neg, reduceIte, ↓reduceIte, Nat.reduceAdd, Nat.reduceEqDiff, Nat.reduceBEq, beq_self_eq_true, Bool.not_true, Bool.not_false, Bool.and_true, Bool.and_false, Bool.true_and, Bool.false_and, gI_sI, gI_sL, gI_sA, gI_sM, gL_sI, gL_sL, gL_sA, gL_sM, aI_sI, aI_sL, aI_sA, aI_sM, aL_sI, aL_sL, aL_sA, aL_sM, gI_em, gI_emx, gI_pu, gI_wh, gI_th, Bmethod_0, Bmethod_8, Bmethod_19, Bmethod_24, Bmethod_41, Bmethod_43, Bmethod_56, Bmethod_61, Bmethod_70, Bmethod_80, Bmethod_141, Bmethod_150, Bmethod_152, Bmethod_161, Bmethod_165, Bmethod_166, Bmethod_168, Bmethod_173, Bmethod_182, Bmethod_184, Bmethod_197, Bmethod_204, Bmethod_206, Bmethod_215, Bmethod_217, Bmethod_246, Bmethod_257, Bmethod_259, Bmethod_266, Bmethod_273, Bmethod_275, oi_0, oi_1, oi_10, oi_123, oi_3, oi_40, oi_41, oi_44, oi_5, oi_m2, P_cant, P_isSign, P_isType, P_isWord, P_open, P_param, P_piece, P_take, P_thing, P_want, P_wrong]; try dsimp only
          refine ⟨rfl, fun h1 => ?_, fun h1 => ?_⟩
          · apply hB
            dsimp only [rgo, rfd, Bmethod, Nat.beq, rwp, rst, lv_args, rlk, rs1, rs2, rdl, rky, rct, rcs, rcd, rno, rsw, Value.category, List.filter, List.take, List.drop, List.reverse, List.reverseAux, List.cons_append, List.nil_append, Option.toList, Int.toNat, Int.reduceToNat, if_pos, if_neg, reduceIte, ↓reduceIte, Nat.reduceAdd, Nat.reduceEqDiff, Nat.reduceBEq, beq_self_eq_true, Bool.not_true, Bool.not_false, Bool.and_true, Bool.and_false, Bool.true_and, Bool.false_and, gI_sI, gI_sL, gI_sA, gI_sM, gL_sI, gL_sL, gL_sA, gL_sM, aI_sI, aI_sL, aI_sA, aI_sM, aL_sI, aL_sL, aL_sA, aL_sM, gI_em, gI_emx, gI_pu, gI_wh, gI_th, Bmethod_0, Bmethod_8, Bmethod_19, Bmethod_24, Bmethod_41, Bmethod_43, Bmethod_56, Bmethod_61, Bmethod_70, Bmethod_80, Bmethod_141, Bmethod_150, Bmethod_152, Bmethod_161, Bmethod_165, Bmethod_166, Bmethod_168, Bmethod_173, Bmethod_182, Bmethod_184, Bmethod_197, Bmethod_204, Bmethod_206, Bmethod_215, Bmethod_217, Bmethod_246, Bmethod_257, Bmethod_259, Bmethod_266, Bmethod_273, Bmethod_275, oi_0, oi_1, oi_10, oi_123, oi_3, oi_40, oi_41, oi_44, oi_5, oi_m2, P_cant, P_isSign, P_isType, P_isWord, P_open, P_param, P_piece, P_take, P_thing, P_want, P_wrong]; try dsimp only
            refine ⟨Or.inr rfl, ?_⟩
            refine ⟨_, rfl, Or.inr ⟨rfl, hFq, fun mn k j h1 h2 h3 h4 => ?_, hps⟩⟩
            obtain ⟨mn', hq, hpi⟩ := hY mn k j h1 h2 h3 h4
            have h62 : gI Y 62 = 0 := by lia
            have hN : nT (gI σ 36 + 1) = nT (gI σ 36) + 1 := nT_add (by lia) (by lia)
            have hmq : mn' = mn + 1 := hq.elim (fun z => absurd z.2 (by rw [h62]; decide)) (fun z => z.1)
            refine ⟨mn', ?_, ?_⟩
            · rw [h36, hN]
              omega
            · have e : sI Y 62 0 = Y := by rw [← h62]; exact sI_id
              rw [e]
              rw [FF_0 h62] at hpi
              exact hpi
          · have hg : PI Y [] (FF Y, mm) kk jj := by
              obtain ⟨mn', hq, hpi⟩ := hY mm kk jj hP0 hkk hjj hmm
              have hmn : mn' = mm := hq.elim (fun z => z.1) (fun z => absurd z.2 (by lia))
              subst hmn
              exact hpi
            apply hB
            dsimp only [rgo, rfd, Bmethod, Nat.beq, rwp, rst, lv_args, rlk, rs1, rs2, rdl, rky, rct, rcs, rcd, rno, rsw, Value.category, List.filter, List.take, List.drop, List.reverse, List.reverseAux, List.cons_append, List.nil_append, Option.toList, Int.toNat, Int.reduceToNat, if_pos, if_neg, reduceIte, ↓reduceIte, Nat.reduceAdd, Nat.reduceEqDiff, Nat.reduceBEq, beq_self_eq_true, Bool.not_true, Bool.not_false, Bool.and_true, Bool.and_false, Bool.true_and, Bool.false_and, gI_sI, gI_sL, gI_sA, gI_sM, gL_sI, gL_sL, gL_sA, gL_sM, aI_sI, aI_sL, aI_sA, aI_sM, aL_sI, aL_sL, aL_sA, aL_sM, gI_em, gI_emx, gI_pu, gI_wh, gI_th, Bmethod_0, Bmethod_8, Bmethod_19, Bmethod_24, Bmethod_41, Bmethod_43, Bmethod_56, Bmethod_61, Bmethod_70, Bmethod_80, Bmethod_141, Bmethod_150, Bmethod_152, Bmethod_161, Bmethod_165, Bmethod_166, Bmethod_168, Bmethod_173, Bmethod_182, Bmethod_184, Bmethod_197, Bmethod_204, Bmethod_206, Bmethod_215, Bmethod_217, Bmethod_246, Bmethod_257, Bmethod_259, Bmethod_266, Bmethod_273, Bmethod_275, oi_0, oi_1, oi_10, oi_123, oi_3, oi_40, oi_41, oi_44, oi_5, oi_m2, P_cant, P_isSign, P_isType, P_isWord, P_open, P_param, P_piece, P_take, P_thing, P_want, P_wrong]; try dsimp only
            refine ⟨rfl, (by decide), (⟨mm, kk, jj, hg, hkk, hjj, hMFY (by lia), by omega, by lia⟩), fun w2 τ2 hq2 => ?_⟩
            obtain ⟨r2, rfl, hq2⟩ := hq2
            rcases hq2 with ⟨rfl, hf2⟩ | ⟨rfl, hf2, hx2, hm2, hlt2⟩
            · dsimp only [Option.toList, List.cons_append, List.nil_append, Nat.beq, gI_sI, gI_sL, gI_sA, gI_sM, gL_sI, gL_sL, gL_sA, gL_sM, aI_sI, aI_sL, aI_sA, aI_sM, aL_sI, aL_sL, aL_sA, aL_sM, gI_em, gI_emx, gI_pu, gI_wh, gI_th]
              refine ⟨fun h3 => absurd h3 (by decide), fun h3 => ?_⟩
              clear h3
              apply hB
              dsimp only [rgo, rfd, Bmethod, Nat.beq, rwp, rst, lv_args, rlk, rs1, rs2, rdl, rky, rct, rcs, rcd, rno, rsw, Value.category, List.filter, List.take, List.drop, List.reverse, List.reverseAux, List.cons_append, List.nil_append, Option.toList, Int.toNat, Int.reduceToNat, if_pos, if_neg, reduceIte, ↓reduceIte, Nat.reduceAdd, Nat.reduceEqDiff, Nat.reduceBEq, beq_self_eq_true, Bool.not_true, Bool.not_false, Bool.and_true, Bool.and_false, Bool.true_and, Bool.false_and, gI_sI, gI_sL, gI_sA, gI_sM, gL_sI, gL_sL, gL_sA, gL_sM, aI_sI, aI_sL, aI_sA, aI_sM, aL_sI, aL_sL, aL_sA, aL_sM, gI_em, gI_emx, gI_pu, gI_wh, gI_th, Bmethod_0, Bmethod_8, Bmethod_19, Bmethod_24, Bmethod_41, Bmethod_43, Bmethod_56, Bmethod_61, Bmethod_70, Bmethod_80, Bmethod_141, Bmethod_150, Bmethod_152, Bmethod_161, Bmethod_165, Bmethod_166, Bmethod_168, Bmethod_173, Bmethod_182, Bmethod_184, Bmethod_197, Bmethod_204, Bmethod_206, Bmethod_215, Bmethod_217, Bmethod_246, Bmethod_257, Bmethod_259, Bmethod_266, Bmethod_273, Bmethod_275, oi_0, oi_1, oi_10, oi_123, oi_3, oi_40, oi_41, oi_44, oi_5, oi_m2, P_cant, P_isSign, P_isType, P_isWord, P_open, P_param, P_piece, P_take, P_thing, P_want, P_wrong]; try dsimp only
              refine ⟨Or.inl rfl, ?_⟩
              exact ⟨_, rfl, Or.inl ⟨rfl, hFq.tr hf2.q⟩⟩
            · dsimp only [Option.toList, List.cons_append, List.nil_append, Nat.beq, gI_sI, gI_sL, gI_sA, gI_sM, gL_sI, gL_sL, gL_sA, gL_sM, aI_sI, aI_sL, aI_sA, aI_sM, aL_sI, aL_sL, aL_sA, aL_sM, gI_em, gI_emx, gI_pu, gI_wh, gI_th]
              refine ⟨fun h4 => ?_, fun h4 => absurd h4 (by decide)⟩
              clear h4
              refine hW 259 [(0, .ref 1000)] _ _ _ (by simp) (loop _ ?_ τ2 rfl ?_ hm2 ?_ ?_ ?_)
              · exact mlt hn hlt2 (hx2 mm kk jj hg hkk hjj (by omega)).choose_spec.2.nums.1.2
              · intro mn k j h1 h2 h3 h4
                obtain ⟨mn', hq, hpi⟩ := hY mn k j h1 h2 h3 h4
                have hmn : mn' = mn := hq.elim (fun z => z.1) (fun z => absurd z.2 (by lia))
                subst hmn
                exact hx2 mn' k j hpi h2 h3 (by omega)
              · rw [hf2.1 36 rfl]; exact h36
              · exact hFq.tr hf2.q
              · have hz := hlt2
                lia
      have t206 : gI σ 36 < 10 → ∀ (X : RS) (m : Int32), m = gI X 36 → (∀ mn k j, PI (sI σ 62 0) [] ([], mn) k j → k ≤ 12 → 1 ≤ j → mn = nT (gI σ 36) → PI X [] ([], mn) k j) → MM X → gI X 36 = gI σ 36 → gI X 62 = 0 → gI X 49 = gI σ 49 + 1 → Fq σ X → gI σ 14 < gI X 14 → G 206 [(0, .ref 1000), (2, .int m), (3, .int (gI σ 49))] [] X := by
        intro h36l X m hm hX hMM h36 h62 h49 hFq hps
        subst hm
        have g0 := hX mm kk jj hP0 hkk hjj hmm
        have nn := g0.nums
        have hdp : gI X 62 = gI X 17 := Int32.toInt_inj.mp g0.1.2.2.1.1
        have t259 := t259 h36l
        apply hB
        dsimp only [rgo, rfd, Bmethod, Nat.beq, rwp, rst, lv_args, rlk, rs1, rs2, rdl, rky, rct, rcs, rcd, rno, rsw, Value.category, List.filter, List.take, List.drop, List.reverse, List.reverseAux, List.cons_append, List.nil_append, Option.toList, Int.toNat, Int.reduceToNat, if_pos, if_neg, reduceIte, ↓reduceIte, Nat.reduceAdd, Nat.reduceEqDiff, Nat.reduceBEq, beq_self_eq_true, Bool.not_true, Bool.not_false, Bool.and_true, Bool.and_false, Bool.true_and, Bool.false_and, gI_sI, gI_sL, gI_sA, gI_sM, gL_sI, gL_sL, gL_sA, gL_sM, aI_sI, aI_sL, aI_sA, aI_sM, aL_sI, aL_sL, aL_sA, aL_sM, gI_em, gI_emx, gI_pu, gI_wh, gI_th, Bmethod_0, Bmethod_8, Bmethod_19, Bmethod_24, Bmethod_41, Bmethod_43, Bmethod_56, Bmethod_61, Bmethod_70, Bmethod_80, Bmethod_141, Bmethod_150, Bmethod_152, Bmethod_161, Bmethod_165, Bmethod_166, Bmethod_168, Bmethod_173, Bmethod_182, Bmethod_184, Bmethod_197, Bmethod_204, Bmethod_206, Bmethod_215, Bmethod_217, Bmethod_246, Bmethod_257, Bmethod_259, Bmethod_266, Bmethod_273, Bmethod_275, oi_0, oi_1, oi_10, oi_123, oi_3, oi_40, oi_41, oi_44, oi_5, oi_m2, P_cant, P_isSign, P_isType, P_isWord, P_open, P_param, P_piece, P_take, P_thing, P_want, P_wrong]; try dsimp only
        refine ⟨rfl, (by decide), (⟨by lia, by lia⟩), fun w1 τ1 hq1 => ?_⟩
        obtain ⟨r1, rfl, hq1⟩ := hq1
        rcases hq1 with ⟨rfl, hp1, hw1, rfl⟩ | ⟨rfl, fa1, fb1, rfl⟩
        · dsimp only [Option.toList, List.cons_append, List.nil_append, Nat.beq, gI_sI, gI_sL, gI_sA, gI_sM, gL_sI, gL_sL, gL_sA, gL_sM, aI_sI, aI_sL, aI_sA, aI_sM, aL_sI, aL_sL, aL_sA, aL_sM, gI_em, gI_emx, gI_pu, gI_wh, gI_th]
          try dsimp only [Option.toList, List.cons_append, List.nil_append, Nat.beq, gI_sI, gI_sL, gI_sA, gI_sM, gL_sI, gL_sL, gL_sA, gL_sM, aI_sI, aI_sL, aI_sA, aI_sM, aL_sI, aL_sL, aL_sA, aL_sM, gI_em, gI_emx, gI_pu, gI_wh, gI_th] at hp1
          refine ⟨fun h2 => ?_, fun h2 => absurd h2 (by decide)⟩
          clear h2
          apply hB
          dsimp only [rgo, rfd, Bmethod, Nat.beq, rwp, rst, lv_args, rlk, rs1, rs2, rdl, rky, rct, rcs, rcd, rno, rsw, Value.category, List.filter, List.take, List.drop, List.reverse, List.reverseAux, List.cons_append, List.nil_append, Option.toList, Int.toNat, Int.reduceToNat, if_pos, if_neg, reduceIte, ↓reduceIte, Nat.reduceAdd, Nat.reduceEqDiff, Nat.reduceBEq, beq_self_eq_true, Bool.not_true, Bool.not_false, Bool.and_true, Bool.and_false, Bool.true_and, Bool.false_and, gI_sI, gI_sL, gI_sA, gI_sM, gL_sI, gL_sL, gL_sA, gL_sM, aI_sI, aI_sL, aI_sA, aI_sM, aL_sI, aL_sL, aL_sA, aL_sM, gI_em, gI_emx, gI_pu, gI_wh, gI_th, Bmethod_0, Bmethod_8, Bmethod_19, Bmethod_24, Bmethod_41, Bmethod_43, Bmethod_56, Bmethod_61, Bmethod_70, Bmethod_80, Bmethod_141, Bmethod_150, Bmethod_152, Bmethod_161, Bmethod_165, Bmethod_166, Bmethod_168, Bmethod_173, Bmethod_182, Bmethod_184, Bmethod_197, Bmethod_204, Bmethod_206, Bmethod_215, Bmethod_217, Bmethod_246, Bmethod_257, Bmethod_259, Bmethod_266, Bmethod_273, Bmethod_275, oi_0, oi_1, oi_10, oi_123, oi_3, oi_40, oi_41, oi_44, oi_5, oi_m2, P_cant, P_isSign, P_isType, P_isWord, P_open, P_param, P_piece, P_take, P_thing, P_want, P_wrong]; try dsimp only
          refine ⟨rfl, rfl, rfl, (in_41 (by lia) (by lia)), rfl, rfl, rfl, (by decide), (⟨by lia, by lia⟩), fun w3 τ3 hq3 => ?_⟩
          obtain ⟨r3, rfl, hq3⟩ := hq3
          rcases hq3 with ⟨rfl, hp3, hw3, rfl⟩ | ⟨rfl, fa3, fb3, rfl⟩
          · dsimp only [Option.toList, List.cons_append, List.nil_append, Nat.beq, gI_sI, gI_sL, gI_sA, gI_sM, gL_sI, gL_sL, gL_sA, gL_sM, aI_sI, aI_sL, aI_sA, aI_sM, aL_sI, aL_sL, aL_sA, aL_sM, gI_em, gI_emx, gI_pu, gI_wh, gI_th]
            try dsimp only [Option.toList, List.cons_append, List.nil_append, Nat.beq, gI_sI, gI_sL, gI_sA, gI_sM, gL_sI, gL_sL, gL_sA, gL_sM, aI_sI, aI_sL, aI_sA, aI_sM, aL_sI, aL_sL, aL_sA, aL_sM, gI_em, gI_emx, gI_pu, gI_wh, gI_th] at hp3
            refine ⟨fun h4 => absurd h4 (by decide), fun h4 => ?_⟩
            clear h4
            apply hB
            dsimp only [rgo, rfd, Bmethod, Nat.beq, rwp, rst, lv_args, rlk, rs1, rs2, rdl, rky, rct, rcs, rcd, rno, rsw, Value.category, List.filter, List.take, List.drop, List.reverse, List.reverseAux, List.cons_append, List.nil_append, Option.toList, Int.toNat, Int.reduceToNat, if_pos, if_neg, reduceIte, ↓reduceIte, Nat.reduceAdd, Nat.reduceEqDiff, Nat.reduceBEq, beq_self_eq_true, Bool.not_true, Bool.not_false, Bool.and_true, Bool.and_false, Bool.true_and, Bool.false_and, gI_sI, gI_sL, gI_sA, gI_sM, gL_sI, gL_sL, gL_sA, gL_sM, aI_sI, aI_sL, aI_sA, aI_sM, aL_sI, aL_sL, aL_sA, aL_sM, gI_em, gI_emx, gI_pu, gI_wh, gI_th, Bmethod_0, Bmethod_8, Bmethod_19, Bmethod_24, Bmethod_41, Bmethod_43, Bmethod_56, Bmethod_61, Bmethod_70, Bmethod_80, Bmethod_141, Bmethod_150, Bmethod_152, Bmethod_161, Bmethod_165, Bmethod_166, Bmethod_168, Bmethod_173, Bmethod_182, Bmethod_184, Bmethod_197, Bmethod_204, Bmethod_206, Bmethod_215, Bmethod_217, Bmethod_246, Bmethod_257, Bmethod_259, Bmethod_266, Bmethod_273, Bmethod_275, oi_0, oi_1, oi_10, oi_123, oi_3, oi_40, oi_41, oi_44, oi_5, oi_m2, P_cant, P_isSign, P_isType, P_isWord, P_open, P_param, P_piece, P_take, P_thing, P_want, P_wrong]; try dsimp only
            refine ⟨rfl, (by decide), (⟨⟨by lia, by lia⟩, ⟨by lia, by lia⟩, ⟨by lia, by lia⟩⟩), fun w5 τ5 hq5 => ?_⟩
            obtain ⟨r5, rfl, hq5⟩ := hq5
            rcases hq5 with ⟨rfl, hd5, rfl⟩ | ⟨rfl, hf5⟩
            · dsimp only [Option.toList, List.cons_append, List.nil_append, Nat.beq, gI_sI, gI_sL, gI_sA, gI_sM, gL_sI, gL_sL, gL_sA, gL_sM, aI_sI, aI_sL, aI_sA, aI_sM, aL_sI, aL_sL, aL_sA, aL_sM, gI_em, gI_emx, gI_pu, gI_wh, gI_th]
              refine ⟨fun h6 => ?_, fun h6 => absurd h6 (by decide)⟩
              clear h6
              exact hW 259 [(0, .ref 1000)] _ _ _ (by simp) (t259 _ (mO X (gI σ 49)) rfl (fun mn k j h1 h2 h3 h4 => ⟨mn, Or.inl ⟨rfl, by show 0 < gI X 62 + 1; rw [h62]; decide⟩, PI.mo (hX mn k j h1 h2 h3 h4) (by omega) (by omega) hMM (by rw [h36]; exact h4) h62 ⟨n49.1, by show gI σ 49 < gI X 49; lia⟩ (by assumption) (by assumption) (by lia)⟩) (fun _ => MF.mo h62 ⟨by lia, by lia⟩) (by show gI X 36 + 1 = gI σ 36 + 1; lia) (hFq.tr (by repeat (first | exact Fq.rf | exact Fp.q (by assumption) | refine Fq.a ?_ rfl | refine Fq.i ?_ rfl | refine Fq.y ?_ rfl (fun g => g.1 _)))) (by show gI σ 14 < gI X 14 + 1 + 1; lia))
            · dsimp only [Option.toList, List.cons_append, List.nil_append, Nat.beq, gI_sI, gI_sL, gI_sA, gI_sM, gL_sI, gL_sL, gL_sA, gL_sM, aI_sI, aI_sL, aI_sA, aI_sM, aL_sI, aL_sL, aL_sA, aL_sM, gI_em, gI_emx, gI_pu, gI_wh, gI_th]
              refine ⟨fun h7 => absurd h7 (by decide), fun h7 => ?_⟩
              clear h7
              apply hB
              dsimp only [rgo, rfd, Bmethod, Nat.beq, rwp, rst, lv_args, rlk, rs1, rs2, rdl, rky, rct, rcs, rcd, rno, rsw, Value.category, List.filter, List.take, List.drop, List.reverse, List.reverseAux, List.cons_append, List.nil_append, Option.toList, Int.toNat, Int.reduceToNat, if_pos, if_neg, reduceIte, ↓reduceIte, Nat.reduceAdd, Nat.reduceEqDiff, Nat.reduceBEq, beq_self_eq_true, Bool.not_true, Bool.not_false, Bool.and_true, Bool.and_false, Bool.true_and, Bool.false_and, gI_sI, gI_sL, gI_sA, gI_sM, gL_sI, gL_sL, gL_sA, gL_sM, aI_sI, aI_sL, aI_sA, aI_sM, aL_sI, aL_sL, aL_sA, aL_sM, gI_em, gI_emx, gI_pu, gI_wh, gI_th, Bmethod_0, Bmethod_8, Bmethod_19, Bmethod_24, Bmethod_41, Bmethod_43, Bmethod_56, Bmethod_61, Bmethod_70, Bmethod_80, Bmethod_141, Bmethod_150, Bmethod_152, Bmethod_161, Bmethod_165, Bmethod_166, Bmethod_168, Bmethod_173, Bmethod_182, Bmethod_184, Bmethod_197, Bmethod_204, Bmethod_206, Bmethod_215, Bmethod_217, Bmethod_246, Bmethod_257, Bmethod_259, Bmethod_266, Bmethod_273, Bmethod_275, oi_0, oi_1, oi_10, oi_123, oi_3, oi_40, oi_41, oi_44, oi_5, oi_m2, P_cant, P_isSign, P_isType, P_isWord, P_open, P_param, P_piece, P_take, P_thing, P_want, P_wrong]; try dsimp only
              refine ⟨Or.inl rfl, ?_⟩
              exact ⟨_, rfl, Or.inl ⟨rfl, (hFq.tr (by repeat (first | exact Fq.rf | exact Fp.q (by assumption) | refine Fq.a ?_ rfl | refine Fq.i ?_ rfl | refine Fq.y ?_ rfl (fun g => g.1 _)))).tr hf5.q⟩⟩
          · dsimp only [Option.toList, List.cons_append, List.nil_append, Nat.beq, gI_sI, gI_sL, gI_sA, gI_sM, gL_sI, gL_sL, gL_sA, gL_sM, aI_sI, aI_sL, aI_sA, aI_sM, aL_sI, aL_sL, aL_sA, aL_sM, gI_em, gI_emx, gI_pu, gI_wh, gI_th]
            refine ⟨fun h8 => ?_, fun h8 => absurd h8 (by decide)⟩
            clear h8
            apply hB
            dsimp only [rgo, rfd, Bmethod, Nat.beq, rwp, rst, lv_args, rlk, rs1, rs2, rdl, rky, rct, rcs, rcd, rno, rsw, Value.category, List.filter, List.take, List.drop, List.reverse, List.reverseAux, List.cons_append, List.nil_append, Option.toList, Int.toNat, Int.reduceToNat, if_pos, if_neg, reduceIte, ↓reduceIte, Nat.reduceAdd, Nat.reduceEqDiff, Nat.reduceBEq, beq_self_eq_true, Bool.not_true, Bool.not_false, Bool.and_true, Bool.and_false, Bool.true_and, Bool.false_and, gI_sI, gI_sL, gI_sA, gI_sM, gL_sI, gL_sL, gL_sA, gL_sM, aI_sI, aI_sL, aI_sA, aI_sM, aL_sI, aL_sL, aL_sA, aL_sM, gI_em, gI_emx, gI_pu, gI_wh, gI_th, Bmethod_0, Bmethod_8, Bmethod_19, Bmethod_24, Bmethod_41, Bmethod_43, Bmethod_56, Bmethod_61, Bmethod_70, Bmethod_80, Bmethod_141, Bmethod_150, Bmethod_152, Bmethod_161, Bmethod_165, Bmethod_166, Bmethod_168, Bmethod_173, Bmethod_182, Bmethod_184, Bmethod_197, Bmethod_204, Bmethod_206, Bmethod_215, Bmethod_217, Bmethod_246, Bmethod_257, Bmethod_259, Bmethod_266, Bmethod_273, Bmethod_275, oi_0, oi_1, oi_10, oi_123, oi_3, oi_40, oi_41, oi_44, oi_5, oi_m2, P_cant, P_isSign, P_isType, P_isWord, P_open, P_param, P_piece, P_take, P_thing, P_want, P_wrong]; try dsimp only
            refine ⟨Or.inl rfl, ?_⟩
            exact ⟨_, rfl, Or.inl ⟨rfl, hFq.tr (by repeat (first | exact Fq.rf | exact Fp.q (by assumption) | refine Fq.a ?_ rfl | refine Fq.i ?_ rfl | refine Fq.y ?_ rfl (fun g => g.1 _)))⟩⟩
        · dsimp only [Option.toList, List.cons_append, List.nil_append, Nat.beq, gI_sI, gI_sL, gI_sA, gI_sM, gL_sI, gL_sL, gL_sA, gL_sM, aI_sI, aI_sL, aI_sA, aI_sM, aL_sI, aL_sL, aL_sA, aL_sM, gI_em, gI_emx, gI_pu, gI_wh, gI_th]
          refine ⟨fun h9 => absurd h9 (by decide), fun h9 => ?_⟩
          clear h9
          apply hB
          dsimp only [rgo, rfd, Bmethod, Nat.beq, rwp, rst, lv_args, rlk, rs1, rs2, rdl, rky, rct, rcs, rcd, rno, rsw, Value.category, List.filter, List.take, List.drop, List.reverse, List.reverseAux, List.cons_append, List.nil_append, Option.toList, Int.toNat, Int.reduceToNat, if_pos, if_neg, reduceIte, ↓reduceIte, Nat.reduceAdd, Nat.reduceEqDiff, Nat.reduceBEq, beq_self_eq_true, Bool.not_true, Bool.not_false, Bool.and_true, Bool.and_false, Bool.true_and, Bool.false_and, gI_sI, gI_sL, gI_sA, gI_sM, gL_sI, gL_sL, gL_sA, gL_sM, aI_sI, aI_sL, aI_sA, aI_sM, aL_sI, aL_sL, aL_sA, aL_sM, gI_em, gI_emx, gI_pu, gI_wh, gI_th, Bmethod_0, Bmethod_8, Bmethod_19, Bmethod_24, Bmethod_41, Bmethod_43, Bmethod_56, Bmethod_61, Bmethod_70, Bmethod_80, Bmethod_141, Bmethod_150, Bmethod_152, Bmethod_161, Bmethod_165, Bmethod_166, Bmethod_168, Bmethod_173, Bmethod_182, Bmethod_184, Bmethod_197, Bmethod_204, Bmethod_206, Bmethod_215, Bmethod_217, Bmethod_246, Bmethod_257, Bmethod_259, Bmethod_266, Bmethod_273, Bmethod_275, oi_0, oi_1, oi_10, oi_123, oi_3, oi_40, oi_41, oi_44, oi_5, oi_m2, P_cant, P_isSign, P_isType, P_isWord, P_open, P_param, P_piece, P_take, P_thing, P_want, P_wrong]; try dsimp only
          refine ⟨Or.inl rfl, ?_⟩
          exact ⟨_, rfl, Or.inl ⟨rfl, hFq.tr (by repeat (first | exact Fq.rf | exact Fp.q (by assumption) | refine Fq.a ?_ rfl | refine Fq.i ?_ rfl | refine Fq.y ?_ rfl (fun g => g.1 _)))⟩⟩
      have t168 : gI σ 36 < 10 → ∀ n : Nat, ∀ (X : RS) (m more : Int32), (500 - (gI X 14).toInt).toNat = n → (more = 0 ∨ more = 1) → m = gI X 36 → (∀ mn k j, PI (sI σ 62 0) [] ([], mn) k j → k ≤ 12 → 1 ≤ j → mn = nT (gI σ 36) → PI X [] ([], mn) k j) → MM X → gI X 36 = gI σ 36 → gI X 62 = 0 → gI X 49 = gI σ 49 + 1 → Fq σ X → gI σ 14 < gI X 14 → G 168 [(0, .ref 1000), (2, .int m), (3, .int (gI σ 49)), (4, .int more)] [] X := by
        intro h36l n
        have t206 := t206 h36l
        induction n using Nat.strongRecOn with
        | ind n loop =>
          intro X m more hn hmo hm hX hMM h36 h62 h49 hFq hps
          subst hm
          have g0 := hX mm kk jj hP0 hkk hjj hmm
          have nn := g0.nums
          apply hB
          dsimp only [rgo, rfd, Bmethod, Nat.beq, rwp, rst, lv_args, rlk, rs1, rs2, rdl, rky, rct, rcs, rcd, rno, rsw, Value.category, List.filter, List.take, List.drop, List.reverse, List.reverseAux, List.cons_append, List.nil_append, Option.toList, Int.toNat, Int.reduceToNat, if_pos, if_neg, reduceIte, ↓reduceIte, Nat.reduceAdd, Nat.reduceEqDiff, Nat.reduceBEq, beq_self_eq_true, Bool.not_true, Bool.not_false, Bool.and_true, Bool.and_false, Bool.true_and, Bool.false_and, gI_sI, gI_sL, gI_sA, gI_sM, gL_sI, gL_sL, gL_sA, gL_sM, aI_sI, aI_sL, aI_sA, aI_sM, aL_sI, aL_sL, aL_sA, aL_sM, gI_em, gI_emx, gI_pu, gI_wh, gI_th, Bmethod_0, Bmethod_8, Bmethod_19, Bmethod_24, Bmethod_41, Bmethod_43, Bmethod_56, Bmethod_61, Bmethod_70, Bmethod_80, Bmethod_141, Bmethod_150, Bmethod_152, Bmethod_161, Bmethod_165, Bmethod_166, Bmethod_168, Bmethod_173, Bmethod_182, Bmethod_184, Bmethod_197, Bmethod_204, Bmethod_206, Bmethod_215, Bmethod_217, Bmethod_246, Bmethod_257, Bmethod_259, Bmethod_266, Bmethod_273, Bmethod_275, oi_0, oi_1, oi_10, oi_123, oi_3, oi_40, oi_41, oi_44, oi_5, oi_m2, P_cant, P_isSign, P_isType, P_isWord, P_open, P_param, P_piece, P_take, P_thing, P_want, P_wrong]; try dsimp only
          refine ⟨fun h1 => ?_, fun h1 => ?_⟩
          · exact hW 206 [(0, .ref 1000), (2, .int (gI X 36)), (3, .int (gI σ 49))] _ _ _ (by simp) (t206 X (gI X 36) rfl hX hMM h36 h62 h49 hFq hps)
          · apply hB
            dsimp only [rgo, rfd, Bmethod, Nat.beq, rwp, rst, lv_args, rlk, rs1, rs2, rdl, rky, rct, rcs, rcd, rno, rsw, Value.category, List.filter, List.take, List.drop, List.reverse, List.reverseAux, List.cons_append, List.nil_append, Option.toList, Int.toNat, Int.reduceToNat, if_pos, if_neg, reduceIte, ↓reduceIte, Nat.reduceAdd, Nat.reduceEqDiff, Nat.reduceBEq, beq_self_eq_true, Bool.not_true, Bool.not_false, Bool.and_true, Bool.and_false, Bool.true_and, Bool.false_and, gI_sI, gI_sL, gI_sA, gI_sM, gL_sI, gL_sL, gL_sA, gL_sM, aI_sI, aI_sL, aI_sA, aI_sM, aL_sI, aL_sL, aL_sA, aL_sM, gI_em, gI_emx, gI_pu, gI_wh, gI_th, Bmethod_0, Bmethod_8, Bmethod_19, Bmethod_24, Bmethod_41, Bmethod_43, Bmethod_56, Bmethod_61, Bmethod_70, Bmethod_80, Bmethod_141, Bmethod_150, Bmethod_152, Bmethod_161, Bmethod_165, Bmethod_166, Bmethod_168, Bmethod_173, Bmethod_182, Bmethod_184, Bmethod_197, Bmethod_204, Bmethod_206, Bmethod_215, Bmethod_217, Bmethod_246, Bmethod_257, Bmethod_259, Bmethod_266, Bmethod_273, Bmethod_275, oi_0, oi_1, oi_10, oi_123, oi_3, oi_40, oi_41, oi_44, oi_5, oi_m2, P_cant, P_isSign, P_isType, P_isWord, P_open, P_param, P_piece, P_take, P_thing, P_want, P_wrong]; try dsimp only
            refine ⟨rfl, (by decide), (⟨⟨_, _, _, g0⟩, rfl, hMM⟩), fun w2 τ2 hq2 => ?_⟩
            obtain ⟨r2, rfl, hq2⟩ := hq2
            rcases hq2 with ⟨rfl, hf2⟩ | ⟨rfl, hf2, hx2, hMM2, he2, ht2, hlt2⟩
            · dsimp only [Option.toList, List.cons_append, List.nil_append, Nat.beq, gI_sI, gI_sL, gI_sA, gI_sM, gL_sI, gL_sL, gL_sA, gL_sM, aI_sI, aI_sL, aI_sA, aI_sM, aL_sI, aL_sL, aL_sA, aL_sM, gI_em, gI_emx, gI_pu, gI_wh, gI_th]
              refine ⟨fun h3 => absurd h3 (by decide), fun h3 => ?_⟩
              clear h3
              apply hB
              dsimp only [rgo, rfd, Bmethod, Nat.beq, rwp, rst, lv_args, rlk, rs1, rs2, rdl, rky, rct, rcs, rcd, rno, rsw, Value.category, List.filter, List.take, List.drop, List.reverse, List.reverseAux, List.cons_append, List.nil_append, Option.toList, Int.toNat, Int.reduceToNat, if_pos, if_neg, reduceIte, ↓reduceIte, Nat.reduceAdd, Nat.reduceEqDiff, Nat.reduceBEq, beq_self_eq_true, Bool.not_true, Bool.not_false, Bool.and_true, Bool.and_false, Bool.true_and, Bool.false_and, gI_sI, gI_sL, gI_sA, gI_sM, gL_sI, gL_sL, gL_sA, gL_sM, aI_sI, aI_sL, aI_sA, aI_sM, aL_sI, aL_sL, aL_sA, aL_sM, gI_em, gI_emx, gI_pu, gI_wh, gI_th, Bmethod_0, Bmethod_8, Bmethod_19, Bmethod_24, Bmethod_41, Bmethod_43, Bmethod_56, Bmethod_61, Bmethod_70, Bmethod_80, Bmethod_141, Bmethod_150, Bmethod_152, Bmethod_161, Bmethod_165, Bmethod_166, Bmethod_168, Bmethod_173, Bmethod_182, Bmethod_184, Bmethod_197, Bmethod_204, Bmethod_206, Bmethod_215, Bmethod_217, Bmethod_246, Bmethod_257, Bmethod_259, Bmethod_266, Bmethod_273, Bmethod_275, oi_0, oi_1, oi_10, oi_123, oi_3, oi_40, oi_41, oi_44, oi_5, oi_m2, P_cant, P_isSign, P_isType, P_isWord, P_open, P_param, P_piece, P_take, P_thing, P_want, P_wrong]; try dsimp only
              refine ⟨Or.inl rfl, ?_⟩
              exact ⟨_, rfl, Or.inl ⟨rfl, hFq.tr hf2.q⟩⟩
            · dsimp only [Option.toList, List.cons_append, List.nil_append, Nat.beq, gI_sI, gI_sL, gI_sA, gI_sM, gL_sI, gL_sL, gL_sA, gL_sM, aI_sI, aI_sL, aI_sA, aI_sM, aL_sI, aL_sL, aL_sA, aL_sM, gI_em, gI_emx, gI_pu, gI_wh, gI_th]
              have hn362 : gI τ2 36 = gI X 36 := hf2.1 36 rfl
              have nnp2 := (hx2 _ _ _ g0).nums
              refine ⟨fun h4 => ?_, fun h4 => absurd h4 (by decide)⟩
              clear h4
              apply hB
              dsimp only [rgo, rfd, Bmethod, Nat.beq, rwp, rst, lv_args, rlk, rs1, rs2, rdl, rky, rct, rcs, rcd, rno, rsw, Value.category, List.filter, List.take, List.drop, List.reverse, List.reverseAux, List.cons_append, List.nil_append, Option.toList, Int.toNat, Int.reduceToNat, if_pos, if_neg, reduceIte, ↓reduceIte, Nat.reduceAdd, Nat.reduceEqDiff, Nat.reduceBEq, beq_self_eq_true, Bool.not_true, Bool.not_false, Bool.and_true, Bool.and_false, Bool.true_and, Bool.false_and, gI_sI, gI_sL, gI_sA, gI_sM, gL_sI, gL_sL, gL_sA, gL_sM, aI_sI, aI_sL, aI_sA, aI_sM, aL_sI, aL_sL, aL_sA, aL_sM, gI_em, gI_emx, gI_pu, gI_wh, gI_th, Bmethod_0, Bmethod_8, Bmethod_19, Bmethod_24, Bmethod_41, Bmethod_43, Bmethod_56, Bmethod_61, Bmethod_70, Bmethod_80, Bmethod_141, Bmethod_150, Bmethod_152, Bmethod_161, Bmethod_165, Bmethod_166, Bmethod_168, Bmethod_173, Bmethod_182, Bmethod_184, Bmethod_197, Bmethod_204, Bmethod_206, Bmethod_215, Bmethod_217, Bmethod_246, Bmethod_257, Bmethod_259, Bmethod_266, Bmethod_273, Bmethod_275, oi_0, oi_1, oi_10, oi_123, oi_3, oi_40, oi_41, oi_44, oi_5, oi_m2, P_cant, P_isSign, P_isType, P_isWord, P_open, P_param, P_piece, P_take, P_thing, P_want, P_wrong]; try dsimp only
              refine ⟨rfl, (by decide), (⟨by lia, by lia⟩), fun w5 τ5 hq5 => ?_⟩
              obtain ⟨r5, rfl, hr5, e5⟩ := hq5
              obtain rfl := e5.symm
              rcases hr5 with rfl | ⟨rfl, hw5⟩
              · dsimp only [Option.toList, List.cons_append, List.nil_append, Nat.beq, gI_sI, gI_sL, gI_sA, gI_sM, gL_sI, gL_sL, gL_sA, gL_sM, aI_sI, aI_sL, aI_sA, aI_sM, aL_sI, aL_sL, aL_sA, aL_sM, gI_em, gI_emx, gI_pu, gI_wh, gI_th]
                refine ⟨fun h6 => ?_, fun h6 => absurd h6 (by decide)⟩
                clear h6
                refine hW 168 [(0, .ref 1000), (2, .int (gI X 36)), (3, .int (gI σ 49)), (4, .int 0)] _ _ _ (by simp) (loop _ ?_ τ2 (gI X 36) 0 rfl (Or.inl rfl) ?_ (fun mn k j h1 h2 h3 h4 => hx2 _ _ _ (hX mn k j h1 h2 h3 h4)) hMM2 ?_ ?_ ?_ ?_ ?_)
                · exact mlt hn (show gI X 14 < gI τ2 14 by lia) (show gI τ2 14 ≤ 500 by lia)
                · exact hn362.symm
                · show gI τ2 36 = gI σ 36
                  lia
                · show gI τ2 62 = 0
                  lia
                · show gI τ2 49 = gI σ 49 + 1
                  lia
                · exact (hFq.tr hf2.q)
                · show gI σ 14 < gI τ2 14
                  lia
              · dsimp only [Option.toList, List.cons_append, List.nil_append, Nat.beq, gI_sI, gI_sL, gI_sA, gI_sM, gL_sI, gL_sL, gL_sA, gL_sM, aI_sI, aI_sL, aI_sA, aI_sM, aL_sI, aL_sL, aL_sA, aL_sM, gI_em, gI_emx, gI_pu, gI_wh, gI_th]
                refine ⟨fun h7 => absurd h7 (by decide), fun h7 => ?_⟩
                clear h7
                apply hB
                dsimp only [rgo, rfd, Bmethod, Nat.beq, rwp, rst, lv_args, rlk, rs1, rs2, rdl, rky, rct, rcs, rcd, rno, rsw, Value.category, List.filter, List.take, List.drop, List.reverse, List.reverseAux, List.cons_append, List.nil_append, Option.toList, Int.toNat, Int.reduceToNat, if_pos, if_neg, reduceIte, ↓reduceIte, Nat.reduceAdd, Nat.reduceEqDiff, Nat.reduceBEq, beq_self_eq_true, Bool.not_true, Bool.not_false, Bool.and_true, Bool.and_false, Bool.true_and, Bool.false_and, gI_sI, gI_sL, gI_sA, gI_sM, gL_sI, gL_sL, gL_sA, gL_sM, aI_sI, aI_sL, aI_sA, aI_sM, aL_sI, aL_sL, aL_sA, aL_sM, gI_em, gI_emx, gI_pu, gI_wh, gI_th, Bmethod_0, Bmethod_8, Bmethod_19, Bmethod_24, Bmethod_41, Bmethod_43, Bmethod_56, Bmethod_61, Bmethod_70, Bmethod_80, Bmethod_141, Bmethod_150, Bmethod_152, Bmethod_161, Bmethod_165, Bmethod_166, Bmethod_168, Bmethod_173, Bmethod_182, Bmethod_184, Bmethod_197, Bmethod_204, Bmethod_206, Bmethod_215, Bmethod_217, Bmethod_246, Bmethod_257, Bmethod_259, Bmethod_266, Bmethod_273, Bmethod_275, oi_0, oi_1, oi_10, oi_123, oi_3, oi_40, oi_41, oi_44, oi_5, oi_m2, P_cant, P_isSign, P_isType, P_isWord, P_open, P_param, P_piece, P_take, P_thing, P_want, P_wrong]; try dsimp only
                refine ⟨rfl, (by decide), (⟨by lia, by lia⟩), fun w8 τ8 hq8 => ?_⟩
                obtain ⟨r8, rfl, hq8⟩ := hq8
                rcases hq8 with ⟨rfl, hp8, rfl⟩ | ⟨rfl, fa8, fb8, rfl⟩
                · dsimp only [Option.toList, List.cons_append, List.nil_append, Nat.beq, gI_sI, gI_sL, gI_sA, gI_sM, gL_sI, gL_sL, gL_sA, gL_sM, aI_sI, aI_sL, aI_sA, aI_sM, aL_sI, aL_sL, aL_sA, aL_sM, gI_em, gI_emx, gI_pu, gI_wh, gI_th]
                  try dsimp only [Option.toList, List.cons_append, List.nil_append, Nat.beq, gI_sI, gI_sL, gI_sA, gI_sM, gL_sI, gL_sL, gL_sA, gL_sM, aI_sI, aI_sL, aI_sA, aI_sM, aL_sI, aL_sL, aL_sA, aL_sM, gI_em, gI_emx, gI_pu, gI_wh, gI_th] at hp8
                  refine ⟨fun h9 => ?_, fun h9 => absurd h9 (by decide)⟩
                  clear h9
                  refine hW 168 [(0, .ref 1000), (2, .int (gI X 36)), (3, .int (gI σ 49)), (4, .int 1)] _ _ _ (by simp) (loop _ ?_ (sI τ2 14 (gI τ2 14 + 1)) (gI X 36) 1 rfl (Or.inr rfl) ?_ (fun mn k j h1 h2 h3 h4 => (hx2 _ _ _ (hX mn k j h1 h2 h3 h4)).take (by assumption) rfl k j ⟨by omega, by omega⟩ ⟨by omega, by omega⟩) (MM.s1 hMM2) ?_ ?_ ?_ ?_ ?_)
                  · exact mlt hn (show gI X 14 < gI τ2 14 + 1 by lia) (show gI τ2 14 + 1 ≤ 500 by lia)
                  · exact hn362.symm
                  · show gI τ2 36 = gI σ 36
                    lia
                  · show gI τ2 62 = 0
                    lia
                  · show gI τ2 49 = gI σ 49 + 1
                    lia
                  · exact (hFq.tr hf2.q).tr (by repeat (first | exact Fq.rf | exact Fp.q (by assumption) | refine Fq.a ?_ rfl | refine Fq.i ?_ rfl | refine Fq.y ?_ rfl (fun g => g.1 _)))
                  · show gI σ 14 < gI τ2 14 + 1
                    lia
                · dsimp only [Option.toList, List.cons_append, List.nil_append, Nat.beq, gI_sI, gI_sL, gI_sA, gI_sM, gL_sI, gL_sL, gL_sA, gL_sM, aI_sI, aI_sL, aI_sA, aI_sM, aL_sI, aL_sL, aL_sA, aL_sM, gI_em, gI_emx, gI_pu, gI_wh, gI_th]
                  refine ⟨fun h10 => absurd h10 (by decide), fun h10 => ?_⟩
                  clear h10
                  apply hB
                  dsimp only [rgo, rfd, Bmethod, Nat.beq, rwp, rst, lv_args, rlk, rs1, rs2, rdl, rky, rct, rcs, rcd, rno, rsw, Value.category, List.filter, List.take, List.drop, List.reverse, List.reverseAux, List.cons_append, List.nil_append, Option.toList, Int.toNat, Int.reduceToNat, if_pos, if_neg, reduceIte, ↓reduceIte, Nat.reduceAdd, Nat.reduceEqDiff, Nat.reduceBEq, beq_self_eq_true, Bool.not_true, Bool.not_false, Bool.and_true, Bool.and_false, Bool.true_and, Bool.false_and, gI_sI, gI_sL, gI_sA, gI_sM, gL_sI, gL_sL, gL_sA, gL_sM, aI_sI, aI_sL, aI_sA, aI_sM, aL_sI, aL_sL, aL_sA, aL_sM, gI_em, gI_emx, gI_pu, gI_wh, gI_th, Bmethod_0, Bmethod_8, Bmethod_19, Bmethod_24, Bmethod_41, Bmethod_43, Bmethod_56, Bmethod_61, Bmethod_70, Bmethod_80, Bmethod_141, Bmethod_150, Bmethod_152, Bmethod_161, Bmethod_165, Bmethod_166, Bmethod_168, Bmethod_173, Bmethod_182, Bmethod_184, Bmethod_197, Bmethod_204, Bmethod_206, Bmethod_215, Bmethod_217, Bmethod_246, Bmethod_257, Bmethod_259, Bmethod_266, Bmethod_273, Bmethod_275, oi_0, oi_1, oi_10, oi_123, oi_3, oi_40, oi_41, oi_44, oi_5, oi_m2, P_cant, P_isSign, P_isType, P_isWord, P_open, P_param, P_piece, P_take, P_thing, P_want, P_wrong]; try dsimp only
                  refine ⟨Or.inl rfl, ?_⟩
                  exact ⟨_, rfl, Or.inl ⟨rfl, (hFq.tr hf2.q).tr (by repeat (first | exact Fq.rf | exact Fp.q (by assumption) | refine Fq.a ?_ rfl | refine Fq.i ?_ rfl | refine Fq.y ?_ rfl (fun g => g.1 _)))⟩⟩
      apply hB
      dsimp only [rgo, rfd, Bmethod, Nat.beq, rwp, rst, lv_args, rlk, rs1, rs2, rdl, rky, rct, rcs, rcd, rno, rsw, Value.category, List.filter, List.take, List.drop, List.reverse, List.reverseAux, List.cons_append, List.nil_append, Option.toList, Int.toNat, Int.reduceToNat, if_pos, if_neg, reduceIte, ↓reduceIte, Nat.reduceAdd, Nat.reduceEqDiff, Nat.reduceBEq, beq_self_eq_true, Bool.not_true, Bool.not_false, Bool.and_true, Bool.and_false, Bool.true_and, Bool.false_and, gI_sI, gI_sL, gI_sA, gI_sM, gL_sI, gL_sL, gL_sA, gL_sM, aI_sI, aI_sL, aI_sA, aI_sM, aL_sI, aL_sL, aL_sA, aL_sM, gI_em, gI_emx, gI_pu, gI_wh, gI_th, Bmethod_0, Bmethod_8, Bmethod_19, Bmethod_24, Bmethod_41, Bmethod_43, Bmethod_56, Bmethod_61, Bmethod_70, Bmethod_80, Bmethod_141, Bmethod_150, Bmethod_152, Bmethod_161, Bmethod_165, Bmethod_166, Bmethod_168, Bmethod_173, Bmethod_182, Bmethod_184, Bmethod_197, Bmethod_204, Bmethod_206, Bmethod_215, Bmethod_217, Bmethod_246, Bmethod_257, Bmethod_259, Bmethod_266, Bmethod_273, Bmethod_275, oi_0, oi_1, oi_10, oi_123, oi_3, oi_40, oi_41, oi_44, oi_5, oi_m2, P_cant, P_isSign, P_isType, P_isWord, P_open, P_param, P_piece, P_take, P_thing, P_want, P_wrong]; try dsimp only
      refine ⟨rfl, (by decide), (⟨by lia, by lia⟩), fun w1 τ1 hq1 => ?_⟩
      obtain ⟨r1, rfl, hr1, e1⟩ := hq1
      obtain rfl := e1.symm
      rcases hr1 with rfl | rfl
      · dsimp only [Option.toList, List.cons_append, List.nil_append, Nat.beq, gI_sI, gI_sL, gI_sA, gI_sM, gL_sI, gL_sL, gL_sA, gL_sM, aI_sI, aI_sL, aI_sA, aI_sM, aL_sI, aL_sL, aL_sA, aL_sM, gI_em, gI_emx, gI_pu, gI_wh, gI_th]
        refine ⟨fun h2 => absurd h2 (by decide), fun h2 => ?_⟩
        clear h2
        apply hB
        dsimp only [rgo, rfd, Bmethod, Nat.beq, rwp, rst, lv_args, rlk, rs1, rs2, rdl, rky, rct, rcs, rcd, rno, rsw, Value.category, List.filter, List.take, List.drop, List.reverse, List.reverseAux, List.cons_append, List.nil_append, Option.toList, Int.toNat, Int.reduceToNat, if_pos, if_neg, reduceIte, ↓reduceIte, Nat.reduceAdd, Nat.reduceEqDiff, Nat.reduceBEq, beq_self_eq_true, Bool.not_true, Bool.not_false, Bool.and_true, Bool.and_false, Bool.true_and, Bool.false_and, gI_sI, gI_sL, gI_sA, gI_sM, gL_sI, gL_sL, gL_sA, gL_sM, aI_sI, aI_sL, aI_sA, aI_sM, aL_sI, aL_sL, aL_sA, aL_sM, gI_em, gI_emx, gI_pu, gI_wh, gI_th, Bmethod_0, Bmethod_8, Bmethod_19, Bmethod_24, Bmethod_41, Bmethod_43, Bmethod_56, Bmethod_61, Bmethod_70, Bmethod_80, Bmethod_141, Bmethod_150, Bmethod_152, Bmethod_161, Bmethod_165, Bmethod_166, Bmethod_168, Bmethod_173, Bmethod_182, Bmethod_184, Bmethod_197, Bmethod_204, Bmethod_206, Bmethod_215, Bmethod_217, Bmethod_246, Bmethod_257, Bmethod_259, Bmethod_266, Bmethod_273, Bmethod_275, oi_0, oi_1, oi_10, oi_123, oi_3, oi_40, oi_41, oi_44, oi_5, oi_m2, P_cant, P_isSign, P_isType, P_isWord, P_open, P_param, P_piece, P_take, P_thing, P_want, P_wrong]; try dsimp only
        refine ⟨rfl, rfl, (by decide), (⟨by lia, by lia⟩), fun w3 τ3 hq3 => ?_⟩
        obtain ⟨r3, rfl, hr3, e3⟩ := hq3
        obtain rfl := e3.symm
        rcases hr3 with rfl | ⟨rfl, hw3⟩
        · dsimp only [Option.toList, List.cons_append, List.nil_append, Nat.beq, gI_sI, gI_sL, gI_sA, gI_sM, gL_sI, gL_sL, gL_sA, gL_sM, aI_sI, aI_sL, aI_sA, aI_sM, aL_sI, aL_sL, aL_sA, aL_sM, gI_em, gI_emx, gI_pu, gI_wh, gI_th]
          refine ⟨fun h4 => absurd h4 (by decide), fun h4 => ?_⟩
          clear h4
          apply hB
          dsimp only [rgo, rfd, Bmethod, Nat.beq, rwp, rst, lv_args, rlk, rs1, rs2, rdl, rky, rct, rcs, rcd, rno, rsw, Value.category, List.filter, List.take, List.drop, List.reverse, List.reverseAux, List.cons_append, List.nil_append, Option.toList, Int.toNat, Int.reduceToNat, if_pos, if_neg, reduceIte, ↓reduceIte, Nat.reduceAdd, Nat.reduceEqDiff, Nat.reduceBEq, beq_self_eq_true, Bool.not_true, Bool.not_false, Bool.and_true, Bool.and_false, Bool.true_and, Bool.false_and, gI_sI, gI_sL, gI_sA, gI_sM, gL_sI, gL_sL, gL_sA, gL_sM, aI_sI, aI_sL, aI_sA, aI_sM, aL_sI, aL_sL, aL_sA, aL_sM, gI_em, gI_emx, gI_pu, gI_wh, gI_th, Bmethod_0, Bmethod_8, Bmethod_19, Bmethod_24, Bmethod_41, Bmethod_43, Bmethod_56, Bmethod_61, Bmethod_70, Bmethod_80, Bmethod_141, Bmethod_150, Bmethod_152, Bmethod_161, Bmethod_165, Bmethod_166, Bmethod_168, Bmethod_173, Bmethod_182, Bmethod_184, Bmethod_197, Bmethod_204, Bmethod_206, Bmethod_215, Bmethod_217, Bmethod_246, Bmethod_257, Bmethod_259, Bmethod_266, Bmethod_273, Bmethod_275, oi_0, oi_1, oi_10, oi_123, oi_3, oi_40, oi_41, oi_44, oi_5, oi_m2, P_cant, P_isSign, P_isType, P_isWord, P_open, P_param, P_piece, P_take, P_thing, P_want, P_wrong]; try dsimp only
          refine ⟨rfl, (by decide), (⟨by lia, by lia⟩), fun w5 τ5 hq5 => ?_⟩
          obtain ⟨r5, rfl, rfl, fa5, fb5, rfl⟩ := hq5
          dsimp only [Option.toList, List.cons_append, List.nil_append, Nat.beq, gI_sI, gI_sL, gI_sA, gI_sM, gL_sI, gL_sL, gL_sA, gL_sM, aI_sI, aI_sL, aI_sA, aI_sM, aL_sI, aL_sL, aL_sA, aL_sM, gI_em, gI_emx, gI_pu, gI_wh, gI_th]
          refine ⟨Or.inl rfl, ?_⟩
          exact ⟨_, rfl, Or.inl ⟨rfl, by repeat (first | exact Fq.rf | exact Fp.q (by assumption) | refine Fq.a ?_ rfl | refine Fq.i ?_ rfl | refine Fq.y ?_ rfl (fun g => g.1 _))⟩⟩
        · dsimp only [Option.toList, List.cons_append, List.nil_append, Nat.beq, gI_sI, gI_sL, gI_sA, gI_sM, gL_sI, gL_sL, gL_sA, gL_sM, aI_sI, aI_sL, aI_sA, aI_sM, aL_sI, aL_sL, aL_sA, aL_sM, gI_em, gI_emx, gI_pu, gI_wh, gI_th]
          refine ⟨fun h6 => ?_, fun h6 => absurd h6 (by decide)⟩
          clear h6
          apply hB
          dsimp only [rgo, rfd, Bmethod, Nat.beq, rwp, rst, lv_args, rlk, rs1, rs2, rdl, rky, rct, rcs, rcd, rno, rsw, Value.category, List.filter, List.take, List.drop, List.reverse, List.reverseAux, List.cons_append, List.nil_append, Option.toList, Int.toNat, Int.reduceToNat, if_pos, if_neg, reduceIte, ↓reduceIte, Nat.reduceAdd, Nat.reduceEqDiff, Nat.reduceBEq, beq_self_eq_true, Bool.not_true, Bool.not_false, Bool.and_true, Bool.and_false, Bool.true_and, Bool.false_and, gI_sI, gI_sL, gI_sA, gI_sM, gL_sI, gL_sL, gL_sA, gL_sM, aI_sI, aI_sL, aI_sA, aI_sM, aL_sI, aL_sL, aL_sA, aL_sM, gI_em, gI_emx, gI_pu, gI_wh, gI_th, Bmethod_0, Bmethod_8, Bmethod_19, Bmethod_24, Bmethod_41, Bmethod_43, Bmethod_56, Bmethod_61, Bmethod_70, Bmethod_80, Bmethod_141, Bmethod_150, Bmethod_152, Bmethod_161, Bmethod_165, Bmethod_166, Bmethod_168, Bmethod_173, Bmethod_182, Bmethod_184, Bmethod_197, Bmethod_204, Bmethod_206, Bmethod_215, Bmethod_217, Bmethod_246, Bmethod_257, Bmethod_259, Bmethod_266, Bmethod_273, Bmethod_275, oi_0, oi_1, oi_10, oi_123, oi_3, oi_40, oi_41, oi_44, oi_5, oi_m2, P_cant, P_isSign, P_isType, P_isWord, P_open, P_param, P_piece, P_take, P_thing, P_want, P_wrong]; try dsimp only
          refine ⟨rfl, rfl, rfl, (in_6 (by lia) (by lia)), rfl, (by decide), (⟨by lia, by lia⟩), fun w7 τ7 hq7 => ?_⟩
          obtain ⟨r7, rfl, hq7⟩ := hq7
          rcases hq7 with ⟨rfl, hp7, rfl⟩ | ⟨rfl, fa7, fb7, rfl⟩
          · dsimp only [Option.toList, List.cons_append, List.nil_append, Nat.beq, gI_sI, gI_sL, gI_sA, gI_sM, gL_sI, gL_sL, gL_sA, gL_sM, aI_sI, aI_sL, aI_sA, aI_sM, aL_sI, aL_sL, aL_sA, aL_sM, gI_em, gI_emx, gI_pu, gI_wh, gI_th]
            try dsimp only [Option.toList, List.cons_append, List.nil_append, Nat.beq, gI_sI, gI_sL, gI_sA, gI_sM, gL_sI, gL_sL, gL_sA, gL_sM, aI_sI, aI_sL, aI_sA, aI_sM, aL_sI, aL_sL, aL_sA, aL_sM, gI_em, gI_emx, gI_pu, gI_wh, gI_th] at hp7
            refine ⟨fun h8 => ?_, fun h8 => absurd h8 (by decide)⟩
            clear h8
            apply hB
            dsimp only [rgo, rfd, Bmethod, Nat.beq, rwp, rst, lv_args, rlk, rs1, rs2, rdl, rky, rct, rcs, rcd, rno, rsw, Value.category, List.filter, List.take, List.drop, List.reverse, List.reverseAux, List.cons_append, List.nil_append, Option.toList, Int.toNat, Int.reduceToNat, if_pos, if_neg, reduceIte, ↓reduceIte, Nat.reduceAdd, Nat.reduceEqDiff, Nat.reduceBEq, beq_self_eq_true, Bool.not_true, Bool.not_false, Bool.and_true, Bool.and_false, Bool.true_and, Bool.false_and, gI_sI, gI_sL, gI_sA, gI_sM, gL_sI, gL_sL, gL_sA, gL_sM, aI_sI, aI_sL, aI_sA, aI_sM, aL_sI, aL_sL, aL_sA, aL_sM, gI_em, gI_emx, gI_pu, gI_wh, gI_th, Bmethod_0, Bmethod_8, Bmethod_19, Bmethod_24, Bmethod_41, Bmethod_43, Bmethod_56, Bmethod_61, Bmethod_70, Bmethod_80, Bmethod_141, Bmethod_150, Bmethod_152, Bmethod_161, Bmethod_165, Bmethod_166, Bmethod_168, Bmethod_173, Bmethod_182, Bmethod_184, Bmethod_197, Bmethod_204, Bmethod_206, Bmethod_215, Bmethod_217, Bmethod_246, Bmethod_257, Bmethod_259, Bmethod_266, Bmethod_273, Bmethod_275, oi_0, oi_1, oi_10, oi_123, oi_3, oi_40, oi_41, oi_44, oi_5, oi_m2, P_cant, P_isSign, P_isType, P_isWord, P_open, P_param, P_piece, P_take, P_thing, P_want, P_wrong]; try dsimp only
            refine ⟨rfl, rfl, rfl, (in_3 (by lia) (by lia)), fun h9 => ?_, fun h9 => ?_⟩
            · apply hB
              dsimp only [rgo, rfd, Bmethod, Nat.beq, rwp, rst, lv_args, rlk, rs1, rs2, rdl, rky, rct, rcs, rcd, rno, rsw, Value.category, List.filter, List.take, List.drop, List.reverse, List.reverseAux, List.cons_append, List.nil_append, Option.toList, Int.toNat, Int.reduceToNat, if_pos, if_neg, reduceIte, ↓reduceIte, Nat.reduceAdd, Nat.reduceEqDiff, Nat.reduceBEq, beq_self_eq_true, Bool.not_true, Bool.not_false, Bool.and_true, Bool.and_false, Bool.true_and, Bool.false_and, gI_sI, gI_sL, gI_sA, gI_sM, gL_sI, gL_sL, gL_sA, gL_sM, aI_sI, aI_sL, aI_sA, aI_sM, aL_sI, aL_sL, aL_sA, aL_sM, gI_em, gI_emx, gI_pu, gI_wh, gI_th, Bmethod_0, Bmethod_8, Bmethod_19, Bmethod_24, Bmethod_41, Bmethod_43, Bmethod_56, Bmethod_61, Bmethod_70, Bmethod_80, Bmethod_141, Bmethod_150, Bmethod_152, Bmethod_161, Bmethod_165, Bmethod_166, Bmethod_168, Bmethod_173, Bmethod_182, Bmethod_184, Bmethod_197, Bmethod_204, Bmethod_206, Bmethod_215, Bmethod_217, Bmethod_246, Bmethod_257, Bmethod_259, Bmethod_266, Bmethod_273, Bmethod_275, oi_0, oi_1, oi_10, oi_123, oi_3, oi_40, oi_41, oi_44, oi_5, oi_m2, P_cant, P_isSign, P_isType, P_isWord, P_open, P_param, P_piece, P_take, P_thing, P_want, P_wrong]; try dsimp only
              refine ⟨rfl, fun h10 => ?_, fun h10 => ?_⟩
              · apply hB
                dsimp only [rgo, rfd, Bmethod, Nat.beq, rwp, rst, lv_args, rlk, rs1, rs2, rdl, rky, rct, rcs, rcd, rno, rsw, Value.category, List.filter, List.take, List.drop, List.reverse, List.reverseAux, List.cons_append, List.nil_append, Option.toList, Int.toNat, Int.reduceToNat, if_pos, if_neg, reduceIte, ↓reduceIte, Nat.reduceAdd, Nat.reduceEqDiff, Nat.reduceBEq, beq_self_eq_true, Bool.not_true, Bool.not_false, Bool.and_true, Bool.and_false, Bool.true_and, Bool.false_and, gI_sI, gI_sL, gI_sA, gI_sM, gL_sI, gL_sL, gL_sA, gL_sM, aI_sI, aI_sL, aI_sA, aI_sM, aL_sI, aL_sL, aL_sA, aL_sM, gI_em, gI_emx, gI_pu, gI_wh, gI_th, Bmethod_0, Bmethod_8, Bmethod_19, Bmethod_24, Bmethod_41, Bmethod_43, Bmethod_56, Bmethod_61, Bmethod_70, Bmethod_80, Bmethod_141, Bmethod_150, Bmethod_152, Bmethod_161, Bmethod_165, Bmethod_166, Bmethod_168, Bmethod_173, Bmethod_182, Bmethod_184, Bmethod_197, Bmethod_204, Bmethod_206, Bmethod_215, Bmethod_217, Bmethod_246, Bmethod_257, Bmethod_259, Bmethod_266, Bmethod_273, Bmethod_275, oi_0, oi_1, oi_10, oi_123, oi_3, oi_40, oi_41, oi_44, oi_5, oi_m2, P_cant, P_isSign, P_isType, P_isWord, P_open, P_param, P_piece, P_take, P_thing, P_want, P_wrong]; try dsimp only
                refine ⟨rfl, rfl, rfl, rfl, (in_37 (by lia) (by lia)), rfl, rfl, (in_38 (by lia) (by lia)), rfl, rfl, (in_39 (by lia) (by lia)), rfl, rfl, rfl, (in_40 (by lia) (by lia)), rfl, rfl, rfl, (by decide), (⟨by lia, by lia⟩), fun w11 τ11 hq11 => ?_⟩
                obtain ⟨rfl, rfl⟩ := hq11
                dsimp only [Option.toList, List.cons_append, List.nil_append, Nat.beq, gI_sI, gI_sL, gI_sA, gI_sM, gL_sI, gL_sL, gL_sA, gL_sM, aI_sI, aI_sL, aI_sA, aI_sM, aL_sI, aL_sL, aL_sA, aL_sM, gI_em, gI_emx, gI_pu, gI_wh, gI_th]
                refine ⟨rfl, (by decide), (⟨by lia, by lia⟩), fun w12 τ12 hq12 => ?_⟩
                obtain ⟨r12, rfl, hq12⟩ := hq12
                rcases hq12 with ⟨rfl, hp12, rfl⟩ | ⟨rfl, fa12, fb12, rfl⟩
                · dsimp only [Option.toList, List.cons_append, List.nil_append, Nat.beq, gI_sI, gI_sL, gI_sA, gI_sM, gL_sI, gL_sL, gL_sA, gL_sM, aI_sI, aI_sL, aI_sA, aI_sM, aL_sI, aL_sL, aL_sA, aL_sM, gI_em, gI_emx, gI_pu, gI_wh, gI_th]
                  try dsimp only [Option.toList, List.cons_append, List.nil_append, Nat.beq, gI_sI, gI_sL, gI_sA, gI_sM, gL_sI, gL_sL, gL_sA, gL_sM, aI_sI, aI_sL, aI_sA, aI_sM, aL_sI, aL_sL, aL_sA, aL_sM, gI_em, gI_emx, gI_pu, gI_wh, gI_th] at hp12
                  refine ⟨fun h13 => absurd h13 (by decide), fun h13 => ?_⟩
                  clear h13
                  apply hB
                  dsimp only [rgo, rfd, Bmethod, Nat.beq, rwp, rst, lv_args, rlk, rs1, rs2, rdl, rky, rct, rcs, rcd, rno, rsw, Value.category, List.filter, List.take, List.drop, List.reverse, List.reverseAux, List.cons_append, List.nil_append, Option.toList, Int.toNat, Int.reduceToNat, if_pos, if_neg, reduceIte, ↓reduceIte, Nat.reduceAdd, Nat.reduceEqDiff, Nat.reduceBEq, beq_self_eq_true, Bool.not_true, Bool.not_false, Bool.and_true, Bool.and_false, Bool.true_and, Bool.false_and, gI_sI, gI_sL, gI_sA, gI_sM, gL_sI, gL_sL, gL_sA, gL_sM, aI_sI, aI_sL, aI_sA, aI_sM, aL_sI, aL_sL, aL_sA, aL_sM, gI_em, gI_emx, gI_pu, gI_wh, gI_th, Bmethod_0, Bmethod_8, Bmethod_19, Bmethod_24, Bmethod_41, Bmethod_43, Bmethod_56, Bmethod_61, Bmethod_70, Bmethod_80, Bmethod_141, Bmethod_150, Bmethod_152, Bmethod_161, Bmethod_165, Bmethod_166, Bmethod_168, Bmethod_173, Bmethod_182, Bmethod_184, Bmethod_197, Bmethod_204, Bmethod_206, Bmethod_215, Bmethod_217, Bmethod_246, Bmethod_257, Bmethod_259, Bmethod_266, Bmethod_273, Bmethod_275, oi_0, oi_1, oi_10, oi_123, oi_3, oi_40, oi_41, oi_44, oi_5, oi_m2, P_cant, P_isSign, P_isType, P_isWord, P_open, P_param, P_piece, P_take, P_thing, P_want, P_wrong]; try dsimp only
                  refine ⟨rfl, (by decide), (⟨by lia, by lia⟩), fun w14 τ14 hq14 => ?_⟩
                  obtain ⟨r14, rfl, hq14⟩ := hq14
                  rcases hq14 with ⟨rfl, hp14, hw14, rfl⟩ | ⟨rfl, fa14, fb14, rfl⟩
                  · dsimp only [Option.toList, List.cons_append, List.nil_append, Nat.beq, gI_sI, gI_sL, gI_sA, gI_sM, gL_sI, gL_sL, gL_sA, gL_sM, aI_sI, aI_sL, aI_sA, aI_sM, aL_sI, aL_sL, aL_sA, aL_sM, gI_em, gI_emx, gI_pu, gI_wh, gI_th]
                    try dsimp only [Option.toList, List.cons_append, List.nil_append, Nat.beq, gI_sI, gI_sL, gI_sA, gI_sM, gL_sI, gL_sL, gL_sA, gL_sM, aI_sI, aI_sL, aI_sA, aI_sM, aL_sI, aL_sL, aL_sA, aL_sM, gI_em, gI_emx, gI_pu, gI_wh, gI_th] at hp14
                    refine ⟨fun h15 => ?_, fun h15 => absurd h15 (by decide)⟩
                    clear h15
                    apply hB
                    dsimp only [rgo, rfd, Bmethod, Nat.beq, rwp, rst, lv_args, rlk, rs1, rs2, rdl, rky, rct, rcs, rcd, rno, rsw, Value.category, List.filter, List.take, List.drop, List.reverse, List.reverseAux, List.cons_append, List.nil_append, Option.toList, Int.toNat, Int.reduceToNat, if_pos, if_neg, reduceIte, ↓reduceIte, Nat.reduceAdd, Nat.reduceEqDiff, Nat.reduceBEq, beq_self_eq_true, Bool.not_true, Bool.not_false, Bool.and_true, Bool.and_false, Bool.true_and, Bool.false_and, gI_sI, gI_sL, gI_sA, gI_sM, gL_sI, gL_sL, gL_sA, gL_sM, aI_sI, aI_sL, aI_sA, aI_sM, aL_sI, aL_sL, aL_sA, aL_sM, gI_em, gI_emx, gI_pu, gI_wh, gI_th, Bmethod_0, Bmethod_8, Bmethod_19, Bmethod_24, Bmethod_41, Bmethod_43, Bmethod_56, Bmethod_61, Bmethod_70, Bmethod_80, Bmethod_141, Bmethod_150, Bmethod_152, Bmethod_161, Bmethod_165, Bmethod_166, Bmethod_168, Bmethod_173, Bmethod_182, Bmethod_184, Bmethod_197, Bmethod_204, Bmethod_206, Bmethod_215, Bmethod_217, Bmethod_246, Bmethod_257, Bmethod_259, Bmethod_266, Bmethod_273, Bmethod_275, oi_0, oi_1, oi_10, oi_123, oi_3, oi_40, oi_41, oi_44, oi_5, oi_m2, P_cant, P_isSign, P_isType, P_isWord, P_open, P_param, P_piece, P_take, P_thing, P_want, P_wrong]; try dsimp only
                    refine ⟨rfl, (by decide), (⟨by lia, by lia⟩), fun w16 τ16 hq16 => ?_⟩
                    obtain ⟨r16, rfl, hr16, e16⟩ := hq16
                    obtain rfl := e16.symm
                    rcases hr16 with rfl | ⟨rfl, hw16⟩
                    · dsimp only [Option.toList, List.cons_append, List.nil_append, Nat.beq, gI_sI, gI_sL, gI_sA, gI_sM, gL_sI, gL_sL, gL_sA, gL_sM, aI_sI, aI_sL, aI_sA, aI_sM, aL_sI, aL_sL, aL_sA, aL_sM, gI_em, gI_emx, gI_pu, gI_wh, gI_th]
                      refine ⟨fun h17 => absurd h17 (by decide), fun h17 => ?_⟩
                      clear h17
                      apply hB
                      dsimp only [rgo, rfd, Bmethod, Nat.beq, rwp, rst, lv_args, rlk, rs1, rs2, rdl, rky, rct, rcs, rcd, rno, rsw, Value.category, List.filter, List.take, List.drop, List.reverse, List.reverseAux, List.cons_append, List.nil_append, Option.toList, Int.toNat, Int.reduceToNat, if_pos, if_neg, reduceIte, ↓reduceIte, Nat.reduceAdd, Nat.reduceEqDiff, Nat.reduceBEq, beq_self_eq_true, Bool.not_true, Bool.not_false, Bool.and_true, Bool.and_false, Bool.true_and, Bool.false_and, gI_sI, gI_sL, gI_sA, gI_sM, gL_sI, gL_sL, gL_sA, gL_sM, aI_sI, aI_sL, aI_sA, aI_sM, aL_sI, aL_sL, aL_sA, aL_sM, gI_em, gI_emx, gI_pu, gI_wh, gI_th, Bmethod_0, Bmethod_8, Bmethod_19, Bmethod_24, Bmethod_41, Bmethod_43, Bmethod_56, Bmethod_61, Bmethod_70, Bmethod_80, Bmethod_141, Bmethod_150, Bmethod_152, Bmethod_161, Bmethod_165, Bmethod_166, Bmethod_168, Bmethod_173, Bmethod_182, Bmethod_184, Bmethod_197, Bmethod_204, Bmethod_206, Bmethod_215, Bmethod_217, Bmethod_246, Bmethod_257, Bmethod_259, Bmethod_266, Bmethod_273, Bmethod_275, oi_0, oi_1, oi_10, oi_123, oi_3, oi_40, oi_41, oi_44, oi_5, oi_m2, P_cant, P_isSign, P_isType, P_isWord, P_open, P_param, P_piece, P_take, P_thing, P_want, P_wrong]; try dsimp only
                      apply hB
                      dsimp only [rgo, rfd, Bmethod, Nat.beq, rwp, rst, lv_args, rlk, rs1, rs2, rdl, rky, rct, rcs, rcd, rno, rsw, Value.category, List.filter, List.take, List.drop, List.reverse, List.reverseAux, List.cons_append, List.nil_append, Option.toList, Int.toNat, Int.reduceToNat, if_pos, if_neg, reduceIte, ↓reduceIte, Nat.reduceAdd, Nat.reduceEqDiff, Nat.reduceBEq, beq_self_eq_true, Bool.not_true, Bool.not_false, Bool.and_true, Bool.and_false, Bool.true_and, Bool.false_and, gI_sI, gI_sL, gI_sA, gI_sM, gL_sI, gL_sL, gL_sA, gL_sM, aI_sI, aI_sL, aI_sA, aI_sM, aL_sI, aL_sL, aL_sA, aL_sM, gI_em, gI_emx, gI_pu, gI_wh, gI_th, Bmethod_0, Bmethod_8, Bmethod_19, Bmethod_24, Bmethod_41, Bmethod_43, Bmethod_56, Bmethod_61, Bmethod_70, Bmethod_80, Bmethod_141, Bmethod_150, Bmethod_152, Bmethod_161, Bmethod_165, Bmethod_166, Bmethod_168, Bmethod_173, Bmethod_182, Bmethod_184, Bmethod_197, Bmethod_204, Bmethod_206, Bmethod_215, Bmethod_217, Bmethod_246, Bmethod_257, Bmethod_259, Bmethod_266, Bmethod_273, Bmethod_275, oi_0, oi_1, oi_10, oi_123, oi_3, oi_40, oi_41, oi_44, oi_5, oi_m2, P_cant, P_isSign, P_isType, P_isWord, P_open, P_param, P_piece, P_take, P_thing, P_want, P_wrong]; try dsimp only
                      exact hW 168 [(0, .ref 1000), (2, .int (gI σ 36)), (3, .int (gI σ 49)), (4, .int 1)] _ _ _ (by simp) (t168 (by lia) _ (mI σ (aI σ 6 (gI σ 14).toNatClampNeg)) (gI σ 36) 1 rfl (Or.inr rfl) rfl (fun mn k j h1 h2 h3 h4 => PI.mi h1 h2 h3 (by assumption) (by assumption) (by assumption) (h1.1.2.2.2.1.2.1 _)) (MM.mi (by lia) ⟨by lia, by lia⟩ ⟨by lia, by lia⟩) rfl rfl rfl (by repeat (first | exact Fq.rf | exact Fp.q (by assumption) | refine Fq.a ?_ rfl | refine Fq.i ?_ rfl | refine Fq.y ?_ rfl (fun g => g.1 _))) (by show gI σ 14 < gI σ 14 + 1 + 1 + 1; lia))
                    · dsimp only [Option.toList, List.cons_append, List.nil_append, Nat.beq, gI_sI, gI_sL, gI_sA, gI_sM, gL_sI, gL_sL, gL_sA, gL_sM, aI_sI, aI_sL, aI_sA, aI_sM, aL_sI, aL_sL, aL_sA, aL_sM, gI_em, gI_emx, gI_pu, gI_wh, gI_th]
                      refine ⟨fun h18 => ?_, fun h18 => absurd h18 (by decide)⟩
                      clear h18
                      apply hB
                      dsimp only [rgo, rfd, Bmethod, Nat.beq, rwp, rst, lv_args, rlk, rs1, rs2, rdl, rky, rct, rcs, rcd, rno, rsw, Value.category, List.filter, List.take, List.drop, List.reverse, List.reverseAux, List.cons_append, List.nil_append, Option.toList, Int.toNat, Int.reduceToNat, if_pos, if_neg, reduceIte, ↓reduceIte, Nat.reduceAdd, Nat.reduceEqDiff, Nat.reduceBEq, beq_self_eq_true, Bool.not_true, Bool.not_false, Bool.and_true, Bool.and_false, Bool.true_and, Bool.false_and, gI_sI, gI_sL, gI_sA, gI_sM, gL_sI, gL_sL, gL_sA, gL_sM, aI_sI, aI_sL, aI_sA, aI_sM, aL_sI, aL_sL, aL_sA, aL_sM, gI_em, gI_emx, gI_pu, gI_wh, gI_th, Bmethod_0, Bmethod_8, Bmethod_19, Bmethod_24, Bmethod_41, Bmethod_43, Bmethod_56, Bmethod_61, Bmethod_70, Bmethod_80, Bmethod_141, Bmethod_150, Bmethod_152, Bmethod_161, Bmethod_165, Bmethod_166, Bmethod_168, Bmethod_173, Bmethod_182, Bmethod_184, Bmethod_197, Bmethod_204, Bmethod_206, Bmethod_215, Bmethod_217, Bmethod_246, Bmethod_257, Bmethod_259, Bmethod_266, Bmethod_273, Bmethod_275, oi_0, oi_1, oi_10, oi_123, oi_3, oi_40, oi_41, oi_44, oi_5, oi_m2, P_cant, P_isSign, P_isType, P_isWord, P_open, P_param, P_piece, P_take, P_thing, P_want, P_wrong]; try dsimp only
                      apply hB
                      dsimp only [rgo, rfd, Bmethod, Nat.beq, rwp, rst, lv_args, rlk, rs1, rs2, rdl, rky, rct, rcs, rcd, rno, rsw, Value.category, List.filter, List.take, List.drop, List.reverse, List.reverseAux, List.cons_append, List.nil_append, Option.toList, Int.toNat, Int.reduceToNat, if_pos, if_neg, reduceIte, ↓reduceIte, Nat.reduceAdd, Nat.reduceEqDiff, Nat.reduceBEq, beq_self_eq_true, Bool.not_true, Bool.not_false, Bool.and_true, Bool.and_false, Bool.true_and, Bool.false_and, gI_sI, gI_sL, gI_sA, gI_sM, gL_sI, gL_sL, gL_sA, gL_sM, aI_sI, aI_sL, aI_sA, aI_sM, aL_sI, aL_sL, aL_sA, aL_sM, gI_em, gI_emx, gI_pu, gI_wh, gI_th, Bmethod_0, Bmethod_8, Bmethod_19, Bmethod_24, Bmethod_41, Bmethod_43, Bmethod_56, Bmethod_61, Bmethod_70, Bmethod_80, Bmethod_141, Bmethod_150, Bmethod_152, Bmethod_161, Bmethod_165, Bmethod_166, Bmethod_168, Bmethod_173, Bmethod_182, Bmethod_184, Bmethod_197, Bmethod_204, Bmethod_206, Bmethod_215, Bmethod_217, Bmethod_246, Bmethod_257, Bmethod_259, Bmethod_266, Bmethod_273, Bmethod_275, oi_0, oi_1, oi_10, oi_123, oi_3, oi_40, oi_41, oi_44, oi_5, oi_m2, P_cant, P_isSign, P_isType, P_isWord, P_open, P_param, P_piece, P_take, P_thing, P_want, P_wrong]; try dsimp only
                      exact hW 168 [(0, .ref 1000), (2, .int (gI σ 36)), (3, .int (gI σ 49)), (4, .int 0)] _ _ _ (by simp) (t168 (by lia) _ (mI σ (aI σ 6 (gI σ 14).toNatClampNeg)) (gI σ 36) 0 rfl (Or.inl rfl) rfl (fun mn k j h1 h2 h3 h4 => PI.mi h1 h2 h3 (by assumption) (by assumption) (by assumption) (h1.1.2.2.2.1.2.1 _)) (MM.mi (by lia) ⟨by lia, by lia⟩ ⟨by lia, by lia⟩) rfl rfl rfl (by repeat (first | exact Fq.rf | exact Fp.q (by assumption) | refine Fq.a ?_ rfl | refine Fq.i ?_ rfl | refine Fq.y ?_ rfl (fun g => g.1 _))) (by show gI σ 14 < gI σ 14 + 1 + 1 + 1; lia))
                  · dsimp only [Option.toList, List.cons_append, List.nil_append, Nat.beq, gI_sI, gI_sL, gI_sA, gI_sM, gL_sI, gL_sL, gL_sA, gL_sM, aI_sI, aI_sL, aI_sA, aI_sM, aL_sI, aL_sL, aL_sA, aL_sM, gI_em, gI_emx, gI_pu, gI_wh, gI_th]
                    refine ⟨fun h19 => absurd h19 (by decide), fun h19 => ?_⟩
                    clear h19
                    apply hB
                    dsimp only [rgo, rfd, Bmethod, Nat.beq, rwp, rst, lv_args, rlk, rs1, rs2, rdl, rky, rct, rcs, rcd, rno, rsw, Value.category, List.filter, List.take, List.drop, List.reverse, List.reverseAux, List.cons_append, List.nil_append, Option.toList, Int.toNat, Int.reduceToNat, if_pos, if_neg, reduceIte, ↓reduceIte, Nat.reduceAdd, Nat.reduceEqDiff, Nat.reduceBEq, beq_self_eq_true, Bool.not_true, Bool.not_false, Bool.and_true, Bool.and_false, Bool.true_and, Bool.false_and, gI_sI, gI_sL, gI_sA, gI_sM, gL_sI, gL_sL, gL_sA, gL_sM, aI_sI, aI_sL, aI_sA, aI_sM, aL_sI, aL_sL, aL_sA, aL_sM, gI_em, gI_emx, gI_pu, gI_wh, gI_th, Bmethod_0, Bmethod_8, Bmethod_19, Bmethod_24, Bmethod_41, Bmethod_43, Bmethod_56, Bmethod_61, Bmethod_70, Bmethod_80, Bmethod_141, Bmethod_150, Bmethod_152, Bmethod_161, Bmethod_165, Bmethod_166, Bmethod_168, Bmethod_173, Bmethod_182, Bmethod_184, Bmethod_197, Bmethod_204, Bmethod_206, Bmethod_215, Bmethod_217, Bmethod_246, Bmethod_257, Bmethod_259, Bmethod_266, Bmethod_273, Bmethod_275, oi_0, oi_1, oi_10, oi_123, oi_3, oi_40, oi_41, oi_44, oi_5, oi_m2, P_cant, P_isSign, P_isType, P_isWord, P_open, P_param, P_piece, P_take, P_thing, P_want, P_wrong]; try dsimp only
                    refine ⟨Or.inl rfl, ?_⟩
                    exact ⟨_, rfl, Or.inl ⟨rfl, by repeat (first | exact Fq.rf | exact Fp.q (by assumption) | refine Fq.a ?_ rfl | refine Fq.i ?_ rfl | refine Fq.y ?_ rfl (fun g => g.1 _))⟩⟩
                · dsimp only [Option.toList, List.cons_append, List.nil_append, Nat.beq, gI_sI, gI_sL, gI_sA, gI_sM, gL_sI, gL_sL, gL_sA, gL_sM, aI_sI, aI_sL, aI_sA, aI_sM, aL_sI, aL_sL, aL_sA, aL_sM, gI_em, gI_emx, gI_pu, gI_wh, gI_th]
                  refine ⟨fun h20 => ?_, fun h20 => absurd h20 (by decide)⟩
                  clear h20
                  apply hB
                  dsimp only [rgo, rfd, Bmethod, Nat.beq, rwp, rst, lv_args, rlk, rs1, rs2, rdl, rky, rct, rcs, rcd, rno, rsw, Value.category, List.filter, List.take, List.drop, List.reverse, List.reverseAux, List.cons_append, List.nil_append, Option.toList, Int.toNat, Int.reduceToNat, if_pos, if_neg, reduceIte, ↓reduceIte, Nat.reduceAdd, Nat.reduceEqDiff, Nat.reduceBEq, beq_self_eq_true, Bool.not_true, Bool.not_false, Bool.and_true, Bool.and_false, Bool.true_and, Bool.false_and, gI_sI, gI_sL, gI_sA, gI_sM, gL_sI, gL_sL, gL_sA, gL_sM, aI_sI, aI_sL, aI_sA, aI_sM, aL_sI, aL_sL, aL_sA, aL_sM, gI_em, gI_emx, gI_pu, gI_wh, gI_th, Bmethod_0, Bmethod_8, Bmethod_19, Bmethod_24, Bmethod_41, Bmethod_43, Bmethod_56, Bmethod_61, Bmethod_70, Bmethod_80, Bmethod_141, Bmethod_150, Bmethod_152, Bmethod_161, Bmethod_165, Bmethod_166, Bmethod_168, Bmethod_173, Bmethod_182, Bmethod_184, Bmethod_197, Bmethod_204, Bmethod_206, Bmethod_215, Bmethod_217, Bmethod_246, Bmethod_257, Bmethod_259, Bmethod_266, Bmethod_273, Bmethod_275, oi_0, oi_1, oi_10, oi_123, oi_3, oi_40, oi_41, oi_44, oi_5, oi_m2, P_cant, P_isSign, P_isType, P_isWord, P_open, P_param, P_piece, P_take, P_thing, P_want, P_wrong]; try dsimp only
                  refine ⟨Or.inl rfl, ?_⟩
                  exact ⟨_, rfl, Or.inl ⟨rfl, by repeat (first | exact Fq.rf | exact Fp.q (by assumption) | refine Fq.a ?_ rfl | refine Fq.i ?_ rfl | refine Fq.y ?_ rfl (fun g => g.1 _))⟩⟩
              · apply hB
                dsimp only [rgo, rfd, Bmethod, Nat.beq, rwp, rst, lv_args, rlk, rs1, rs2, rdl, rky, rct, rcs, rcd, rno, rsw, Value.category, List.filter, List.take, List.drop, List.reverse, List.reverseAux, List.cons_append, List.nil_append, Option.toList, Int.toNat, Int.reduceToNat, if_pos, if_neg, reduceIte, ↓reduceIte, Nat.reduceAdd, Nat.reduceEqDiff, Nat.reduceBEq, beq_self_eq_true, Bool.not_true, Bool.not_false, Bool.and_true, Bool.and_false, Bool.true_and, Bool.false_and, gI_sI, gI_sL, gI_sA, gI_sM, gL_sI, gL_sL, gL_sA, gL_sM, aI_sI, aI_sL, aI_sA, aI_sM, aL_sI, aL_sL, aL_sA, aL_sM, gI_em, gI_emx, gI_pu, gI_wh, gI_th, Bmethod_0, Bmethod_8, Bmethod_19, Bmethod_24, Bmethod_41, Bmethod_43, Bmethod_56, Bmethod_61, Bmethod_70, Bmethod_80, Bmethod_141, Bmethod_150, Bmethod_152, Bmethod_161, Bmethod_165, Bmethod_166, Bmethod_168, Bmethod_173, Bmethod_182, Bmethod_184, Bmethod_197, Bmethod_204, Bmethod_206, Bmethod_215, Bmethod_217, Bmethod_246, Bmethod_257, Bmethod_259, Bmethod_266, Bmethod_273, Bmethod_275, oi_0, oi_1, oi_10, oi_123, oi_3, oi_40, oi_41, oi_44, oi_5, oi_m2, P_cant, P_isSign, P_isType, P_isWord, P_open, P_param, P_piece, P_take, P_thing, P_want, P_wrong]; try dsimp only
                refine ⟨rfl, rfl, (by decide), (⟨by lia, by lia⟩), fun w21 τ21 hq21 => ?_⟩
                obtain ⟨r21, rfl, rfl, fa21, fb21, rfl⟩ := hq21
                dsimp only [Option.toList, List.cons_append, List.nil_append, Nat.beq, gI_sI, gI_sL, gI_sA, gI_sM, gL_sI, gL_sL, gL_sA, gL_sM, aI_sI, aI_sL, aI_sA, aI_sM, aL_sI, aL_sL, aL_sA, aL_sM, gI_em, gI_emx, gI_pu, gI_wh, gI_th]
                refine ⟨Or.inl rfl, ?_⟩
                exact ⟨_, rfl, Or.inl ⟨rfl, by repeat (first | exact Fq.rf | exact Fp.q (by assumption) | refine Fq.a ?_ rfl | refine Fq.i ?_ rfl | refine Fq.y ?_ rfl (fun g => g.1 _))⟩⟩
            · apply hB
              dsimp only [rgo, rfd, Bmethod, Nat.beq, rwp, rst, lv_args, rlk, rs1, rs2, rdl, rky, rct, rcs, rcd, rno, rsw, Value.category, List.filter, List.take, List.drop, List.reverse, List.reverseAux, List.cons_append, List.nil_append, Option.toList, Int.toNat, Int.reduceToNat, if_pos, if_neg, reduceIte, ↓reduceIte, Nat.reduceAdd, Nat.reduceEqDiff, Nat.reduceBEq, beq_self_eq_true, Bool.not_true, Bool.not_false, Bool.and_true, Bool.and_false, Bool.true_and, Bool.false_and, gI_sI, gI_sL, gI_sA, gI_sM, gL_sI, gL_sL, gL_sA, gL_sM, aI_sI, aI_sL, aI_sA, aI_sM, aL_sI, aL_sL, aL_sA, aL_sM, gI_em, gI_emx, gI_pu, gI_wh, gI_th, Bmethod_0, Bmethod_8, Bmethod_19, Bmethod_24, Bmethod_41, Bmethod_43, Bmethod_56, Bmethod_61, Bmethod_70, Bmethod_80, Bmethod_141, Bmethod_150, Bmethod_152, Bmethod_161, Bmethod_165, Bmethod_166, Bmethod_168, Bmethod_173, Bmethod_182, Bmethod_184, Bmethod_197, Bmethod_204, Bmethod_206, Bmethod_215, Bmethod_217, Bmethod_246, Bmethod_257, Bmethod_259, Bmethod_266, Bmethod_273, Bmethod_275, oi_0, oi_1, oi_10, oi_123, oi_3, oi_40, oi_41, oi_44, oi_5, oi_m2, P_cant, P_isSign, P_isType, P_isWord, P_open, P_param, P_piece, P_take, P_thing, P_want, P_wrong]; try dsimp only
              refine ⟨rfl, (by decide), (⟨by lia, by lia⟩), fun w22 τ22 hq22 => ?_⟩
              obtain ⟨r22, rfl, rfl, fa22, fb22, rfl⟩ := hq22
              dsimp only [Option.toList, List.cons_append, List.nil_append, Nat.beq, gI_sI, gI_sL, gI_sA, gI_sM, gL_sI, gL_sL, gL_sA, gL_sM, aI_sI, aI_sL, aI_sA, aI_sM, aL_sI, aL_sL, aL_sA, aL_sM, gI_em, gI_emx, gI_pu, gI_wh, gI_th]
              refine ⟨Or.inl rfl, ?_⟩
              exact ⟨_, rfl, Or.inl ⟨rfl, by repeat (first | exact Fq.rf | exact Fp.q (by assumption) | refine Fq.a ?_ rfl | refine Fq.i ?_ rfl | refine Fq.y ?_ rfl (fun g => g.1 _))⟩⟩
          · dsimp only [Option.toList, List.cons_append, List.nil_append, Nat.beq, gI_sI, gI_sL, gI_sA, gI_sM, gL_sI, gL_sL, gL_sA, gL_sM, aI_sI, aI_sL, aI_sA, aI_sM, aL_sI, aL_sL, aL_sA, aL_sM, gI_em, gI_emx, gI_pu, gI_wh, gI_th]
            refine ⟨fun h23 => absurd h23 (by decide), fun h23 => ?_⟩
            clear h23
            apply hB
            dsimp only [rgo, rfd, Bmethod, Nat.beq, rwp, rst, lv_args, rlk, rs1, rs2, rdl, rky, rct, rcs, rcd, rno, rsw, Value.category, List.filter, List.take, List.drop, List.reverse, List.reverseAux, List.cons_append, List.nil_append, Option.toList, Int.toNat, Int.reduceToNat, if_pos, if_neg, reduceIte, ↓reduceIte, Nat.reduceAdd, Nat.reduceEqDiff, Nat.reduceBEq, beq_self_eq_true, Bool.not_true, Bool.not_false, Bool.and_true, Bool.and_false, Bool.true_and, Bool.false_and, gI_sI, gI_sL, gI_sA, gI_sM, gL_sI, gL_sL, gL_sA, gL_sM, aI_sI, aI_sL, aI_sA, aI_sM, aL_sI, aL_sL, aL_sA, aL_sM, gI_em, gI_emx, gI_pu, gI_wh, gI_th, Bmethod_0, Bmethod_8, Bmethod_19, Bmethod_24, Bmethod_41, Bmethod_43, Bmethod_56, Bmethod_61, Bmethod_70, Bmethod_80, Bmethod_141, Bmethod_150, Bmethod_152, Bmethod_161, Bmethod_165, Bmethod_166, Bmethod_168, Bmethod_173, Bmethod_182, Bmethod_184, Bmethod_197, Bmethod_204, Bmethod_206, Bmethod_215, Bmethod_217, Bmethod_246, Bmethod_257, Bmethod_259, Bmethod_266, Bmethod_273, Bmethod_275, oi_0, oi_1, oi_10, oi_123, oi_3, oi_40, oi_41, oi_44, oi_5, oi_m2, P_cant, P_isSign, P_isType, P_isWord, P_open, P_param, P_piece, P_take, P_thing, P_want, P_wrong]; try dsimp only
            refine ⟨Or.inl rfl, ?_⟩
            exact ⟨_, rfl, Or.inl ⟨rfl, by repeat (first | exact Fq.rf | exact Fp.q (by assumption) | refine Fq.a ?_ rfl | refine Fq.i ?_ rfl | refine Fq.y ?_ rfl (fun g => g.1 _))⟩⟩
      · dsimp only [Option.toList, List.cons_append, List.nil_append, Nat.beq, gI_sI, gI_sL, gI_sA, gI_sM, gL_sI, gL_sL, gL_sA, gL_sM, aI_sI, aI_sL, aI_sA, aI_sM, aL_sI, aL_sL, aL_sA, aL_sM, gI_em, gI_emx, gI_pu, gI_wh, gI_th]
        refine ⟨fun h24 => ?_, fun h24 => absurd h24 (by decide)⟩
        clear h24
        apply hB
        dsimp only [rgo, rfd, Bmethod, Nat.beq, rwp, rst, lv_args, rlk, rs1, rs2, rdl, rky, rct, rcs, rcd, rno, rsw, Value.category, List.filter, List.take, List.drop, List.reverse, List.reverseAux, List.cons_append, List.nil_append, Option.toList, Int.toNat, Int.reduceToNat, if_pos, if_neg, reduceIte, ↓reduceIte, Nat.reduceAdd, Nat.reduceEqDiff, Nat.reduceBEq, beq_self_eq_true, Bool.not_true, Bool.not_false, Bool.and_true, Bool.and_false, Bool.true_and, Bool.false_and, gI_sI, gI_sL, gI_sA, gI_sM, gL_sI, gL_sL, gL_sA, gL_sM, aI_sI, aI_sL, aI_sA, aI_sM, aL_sI, aL_sL, aL_sA, aL_sM, gI_em, gI_emx, gI_pu, gI_wh, gI_th, Bmethod_0, Bmethod_8, Bmethod_19, Bmethod_24, Bmethod_41, Bmethod_43, Bmethod_56, Bmethod_61, Bmethod_70, Bmethod_80, Bmethod_141, Bmethod_150, Bmethod_152, Bmethod_161, Bmethod_165, Bmethod_166, Bmethod_168, Bmethod_173, Bmethod_182, Bmethod_184, Bmethod_197, Bmethod_204, Bmethod_206, Bmethod_215, Bmethod_217, Bmethod_246, Bmethod_257, Bmethod_259, Bmethod_266, Bmethod_273, Bmethod_275, oi_0, oi_1, oi_10, oi_123, oi_3, oi_40, oi_41, oi_44, oi_5, oi_m2, P_cant, P_isSign, P_isType, P_isWord, P_open, P_param, P_piece, P_take, P_thing, P_want, P_wrong]; try dsimp only
        refine ⟨rfl, rfl, rfl, (in_6 (by lia) (by lia)), rfl, (by decide), (⟨by lia, by lia⟩), fun w25 τ25 hq25 => ?_⟩
        obtain ⟨r25, rfl, hq25⟩ := hq25
        rcases hq25 with ⟨rfl, hp25, rfl⟩ | ⟨rfl, fa25, fb25, rfl⟩
        · dsimp only [Option.toList, List.cons_append, List.nil_append, Nat.beq, gI_sI, gI_sL, gI_sA, gI_sM, gL_sI, gL_sL, gL_sA, gL_sM, aI_sI, aI_sL, aI_sA, aI_sM, aL_sI, aL_sL, aL_sA, aL_sM, gI_em, gI_emx, gI_pu, gI_wh, gI_th]
          try dsimp only [Option.toList, List.cons_append, List.nil_append, Nat.beq, gI_sI, gI_sL, gI_sA, gI_sM, gL_sI, gL_sL, gL_sA, gL_sM, aI_sI, aI_sL, aI_sA, aI_sM, aL_sI, aL_sL, aL_sA, aL_sM, gI_em, gI_emx, gI_pu, gI_wh, gI_th] at hp25
          refine ⟨fun h26 => ?_, fun h26 => absurd h26 (by decide)⟩
          clear h26
          apply hB
          dsimp only [rgo, rfd, Bmethod, Nat.beq, rwp, rst, lv_args, rlk, rs1, rs2, rdl, rky, rct, rcs, rcd, rno, rsw, Value.category, List.filter, List.take, List.drop, List.reverse, List.reverseAux, List.cons_append, List.nil_append, Option.toList, Int.toNat, Int.reduceToNat, if_pos, if_neg, reduceIte, ↓reduceIte, Nat.reduceAdd, Nat.reduceEqDiff, Nat.reduceBEq, beq_self_eq_true, Bool.not_true, Bool.not_false, Bool.and_true, Bool.and_false, Bool.true_and, Bool.false_and, gI_sI, gI_sL, gI_sA, gI_sM, gL_sI, gL_sL, gL_sA, gL_sM, aI_sI, aI_sL, aI_sA, aI_sM, aL_sI, aL_sL, aL_sA, aL_sM, gI_em, gI_emx, gI_pu, gI_wh, gI_th, Bmethod_0, Bmethod_8, Bmethod_19, Bmethod_24, Bmethod_41, Bmethod_43, Bmethod_56, Bmethod_61, Bmethod_70, Bmethod_80, Bmethod_141, Bmethod_150, Bmethod_152, Bmethod_161, Bmethod_165, Bmethod_166, Bmethod_168, Bmethod_173, Bmethod_182, Bmethod_184, Bmethod_197, Bmethod_204, Bmethod_206, Bmethod_215, Bmethod_217, Bmethod_246, Bmethod_257, Bmethod_259, Bmethod_266, Bmethod_273, Bmethod_275, oi_0, oi_1, oi_10, oi_123, oi_3, oi_40, oi_41, oi_44, oi_5, oi_m2, P_cant, P_isSign, P_isType, P_isWord, P_open, P_param, P_piece, P_take, P_thing, P_want, P_wrong]; try dsimp only
          refine ⟨rfl, rfl, rfl, (in_3 (by lia) (by lia)), fun h27 => ?_, fun h27 => ?_⟩
          · apply hB
            dsimp only [rgo, rfd, Bmethod, Nat.beq, rwp, rst, lv_args, rlk, rs1, rs2, rdl, rky, rct, rcs, rcd, rno, rsw, Value.category, List.filter, List.take, List.drop, List.reverse, List.reverseAux, List.cons_append, List.nil_append, Option.toList, Int.toNat, Int.reduceToNat, if_pos, if_neg, reduceIte, ↓reduceIte, Nat.reduceAdd, Nat.reduceEqDiff, Nat.reduceBEq, beq_self_eq_true, Bool.not_true, Bool.not_false, Bool.and_true, Bool.and_false, Bool.true_and, Bool.false_and, gI_sI, gI_sL, gI_sA, gI_sM, gL_sI, gL_sL, gL_sA, gL_sM, aI_sI, aI_sL, aI_sA, aI_sM, aL_sI, aL_sL, aL_sA, aL_sM, gI_em, gI_emx, gI_pu, gI_wh, gI_th, Bmethod_0, Bmethod_8, Bmethod_19, Bmethod_24, Bmethod_41, Bmethod_43, Bmethod_56, Bmethod_61, Bmethod_70, Bmethod_80, Bmethod_141, Bmethod_150, Bmethod_152, Bmethod_161, Bmethod_165, Bmethod_166, Bmethod_168, Bmethod_173, Bmethod_182, Bmethod_184, Bmethod_197, Bmethod_204, Bmethod_206, Bmethod_215, Bmethod_217, Bmethod_246, Bmethod_257, Bmethod_259, Bmethod_266, Bmethod_273, Bmethod_275, oi_0, oi_1, oi_10, oi_123, oi_3, oi_40, oi_41, oi_44, oi_5, oi_m2, P_cant, P_isSign, P_isType, P_isWord, P_open, P_param, P_piece, P_take, P_thing, P_want, P_wrong]; try dsimp only
            refine ⟨rfl, fun h28 => ?_, fun h28 => ?_⟩
            · apply hB
              dsimp only [rgo, rfd, Bmethod, Nat.beq, rwp, rst, lv_args, rlk, rs1, rs2, rdl, rky, rct, rcs, rcd, rno, rsw, Value.category, List.filter, List.take, List.drop, List.reverse, List.reverseAux, List.cons_append, List.nil_append, Option.toList, Int.toNat, Int.reduceToNat, if_pos, if_neg, reduceIte, ↓reduceIte, Nat.reduceAdd, Nat.reduceEqDiff, Nat.reduceBEq, beq_self_eq_true, Bool.not_true, Bool.not_false, Bool.and_true, Bool.and_false, Bool.true_and, Bool.false_and, gI_sI, gI_sL, gI_sA, gI_sM, gL_sI, gL_sL, gL_sA, gL_sM, aI_sI, aI_sL, aI_sA, aI_sM, aL_sI, aL_sL, aL_sA, aL_sM, gI_em, gI_emx, gI_pu, gI_wh, gI_th, Bmethod_0, Bmethod_8, Bmethod_19, Bmethod_24, Bmethod_41, Bmethod_43, Bmethod_56, Bmethod_61, Bmethod_70, Bmethod_80, Bmethod_141, Bmethod_150, Bmethod_152, Bmethod_161, Bmethod_165, Bmethod_166, Bmethod_168, Bmethod_173, Bmethod_182, Bmethod_184, Bmethod_197, Bmethod_204, Bmethod_206, Bmethod_215, Bmethod_217, Bmethod_246, Bmethod_257, Bmethod_259, Bmethod_266, Bmethod_273, Bmethod_275, oi_0, oi_1, oi_10, oi_123, oi_3, oi_40, oi_41, oi_44, oi_5, oi_m2, P_cant, P_isSign, P_isType, P_isWord, P_open, P_param, P_piece, P_take, P_thing, P_want, P_wrong]; try dsimp only
              refine ⟨rfl, rfl, rfl, rfl, (in_37 (by lia) (by lia)), rfl, rfl, (in_38 (by lia) (by lia)), rfl, rfl, (in_39 (by lia) (by lia)), rfl, rfl, rfl, (in_40 (by lia) (by lia)), rfl, rfl, rfl, (by decide), (⟨by lia, by lia⟩), fun w29 τ29 hq29 => ?_⟩
              obtain ⟨rfl, rfl⟩ := hq29
              dsimp only [Option.toList, List.cons_append, List.nil_append, Nat.beq, gI_sI, gI_sL, gI_sA, gI_sM, gL_sI, gL_sL, gL_sA, gL_sM, aI_sI, aI_sL, aI_sA, aI_sM, aL_sI, aL_sL, aL_sA, aL_sM, gI_em, gI_emx, gI_pu, gI_wh, gI_th]
              refine ⟨rfl, (by decide), (⟨by lia, by lia⟩), fun w30 τ30 hq30 => ?_⟩
              obtain ⟨r30, rfl, hq30⟩ := hq30
              rcases hq30 with ⟨rfl, hp30, rfl⟩ | ⟨rfl, fa30, fb30, rfl⟩
              · dsimp only [Option.toList, List.cons_append, List.nil_append, Nat.beq, gI_sI, gI_sL, gI_sA, gI_sM, gL_sI, gL_sL, gL_sA, gL_sM, aI_sI, aI_sL, aI_sA, aI_sM, aL_sI, aL_sL, aL_sA, aL_sM, gI_em, gI_emx, gI_pu, gI_wh, gI_th]
                try dsimp only [Option.toList, List.cons_append, List.nil_append, Nat.beq, gI_sI, gI_sL, gI_sA, gI_sM, gL_sI, gL_sL, gL_sA, gL_sM, aI_sI, aI_sL, aI_sA, aI_sM, aL_sI, aL_sL, aL_sA, aL_sM, gI_em, gI_emx, gI_pu, gI_wh, gI_th] at hp30
                refine ⟨fun h31 => absurd h31 (by decide), fun h31 => ?_⟩
                clear h31
                apply hB
                dsimp only [rgo, rfd, Bmethod, Nat.beq, rwp, rst, lv_args, rlk, rs1, rs2, rdl, rky, rct, rcs, rcd, rno, rsw, Value.category, List.filter, List.take, List.drop, List.reverse, List.reverseAux, List.cons_append, List.nil_append, Option.toList, Int.toNat, Int.reduceToNat, if_pos, if_neg, reduceIte, ↓reduceIte, Nat.reduceAdd, Nat.reduceEqDiff, Nat.reduceBEq, beq_self_eq_true, Bool.not_true, Bool.not_false, Bool.and_true, Bool.and_false, Bool.true_and, Bool.false_and, gI_sI, gI_sL, gI_sA, gI_sM, gL_sI, gL_sL, gL_sA, gL_sM, aI_sI, aI_sL, aI_sA, aI_sM, aL_sI, aL_sL, aL_sA, aL_sM, gI_em, gI_emx, gI_pu, gI_wh, gI_th, Bmethod_0, Bmethod_8, Bmethod_19, Bmethod_24, Bmethod_41, Bmethod_43, Bmethod_56, Bmethod_61, Bmethod_70, Bmethod_80, Bmethod_141, Bmethod_150, Bmethod_152, Bmethod_161, Bmethod_165, Bmethod_166, Bmethod_168, Bmethod_173, Bmethod_182, Bmethod_184, Bmethod_197, Bmethod_204, Bmethod_206, Bmethod_215, Bmethod_217, Bmethod_246, Bmethod_257, Bmethod_259, Bmethod_266, Bmethod_273, Bmethod_275, oi_0, oi_1, oi_10, oi_123, oi_3, oi_40, oi_41, oi_44, oi_5, oi_m2, P_cant, P_isSign, P_isType, P_isWord, P_open, P_param, P_piece, P_take, P_thing, P_want, P_wrong]; try dsimp only
                refine ⟨rfl, (by decide), (⟨by lia, by lia⟩), fun w32 τ32 hq32 => ?_⟩
                obtain ⟨r32, rfl, hq32⟩ := hq32
                rcases hq32 with ⟨rfl, hp32, hw32, rfl⟩ | ⟨rfl, fa32, fb32, rfl⟩
                · dsimp only [Option.toList, List.cons_append, List.nil_append, Nat.beq, gI_sI, gI_sL, gI_sA, gI_sM, gL_sI, gL_sL, gL_sA, gL_sM, aI_sI, aI_sL, aI_sA, aI_sM, aL_sI, aL_sL, aL_sA, aL_sM, gI_em, gI_emx, gI_pu, gI_wh, gI_th]
                  try dsimp only [Option.toList, List.cons_append, List.nil_append, Nat.beq, gI_sI, gI_sL, gI_sA, gI_sM, gL_sI, gL_sL, gL_sA, gL_sM, aI_sI, aI_sL, aI_sA, aI_sM, aL_sI, aL_sL, aL_sA, aL_sM, gI_em, gI_emx, gI_pu, gI_wh, gI_th] at hp32
                  refine ⟨fun h33 => ?_, fun h33 => absurd h33 (by decide)⟩
                  clear h33
                  apply hB
                  dsimp only [rgo, rfd, Bmethod, Nat.beq, rwp, rst, lv_args, rlk, rs1, rs2, rdl, rky, rct, rcs, rcd, rno, rsw, Value.category, List.filter, List.take, List.drop, List.reverse, List.reverseAux, List.cons_append, List.nil_append, Option.toList, Int.toNat, Int.reduceToNat, if_pos, if_neg, reduceIte, ↓reduceIte, Nat.reduceAdd, Nat.reduceEqDiff, Nat.reduceBEq, beq_self_eq_true, Bool.not_true, Bool.not_false, Bool.and_true, Bool.and_false, Bool.true_and, Bool.false_and, gI_sI, gI_sL, gI_sA, gI_sM, gL_sI, gL_sL, gL_sA, gL_sM, aI_sI, aI_sL, aI_sA, aI_sM, aL_sI, aL_sL, aL_sA, aL_sM, gI_em, gI_emx, gI_pu, gI_wh, gI_th, Bmethod_0, Bmethod_8, Bmethod_19, Bmethod_24, Bmethod_41, Bmethod_43, Bmethod_56, Bmethod_61, Bmethod_70, Bmethod_80, Bmethod_141, Bmethod_150, Bmethod_152, Bmethod_161, Bmethod_165, Bmethod_166, Bmethod_168, Bmethod_173, Bmethod_182, Bmethod_184, Bmethod_197, Bmethod_204, Bmethod_206, Bmethod_215, Bmethod_217, Bmethod_246, Bmethod_257, Bmethod_259, Bmethod_266, Bmethod_273, Bmethod_275, oi_0, oi_1, oi_10, oi_123, oi_3, oi_40, oi_41, oi_44, oi_5, oi_m2, P_cant, P_isSign, P_isType, P_isWord, P_open, P_param, P_piece, P_take, P_thing, P_want, P_wrong]; try dsimp only
                  refine ⟨rfl, (by decide), (⟨by lia, by lia⟩), fun w34 τ34 hq34 => ?_⟩
                  obtain ⟨r34, rfl, hr34, e34⟩ := hq34
                  obtain rfl := e34.symm
                  rcases hr34 with rfl | ⟨rfl, hw34⟩
                  · dsimp only [Option.toList, List.cons_append, List.nil_append, Nat.beq, gI_sI, gI_sL, gI_sA, gI_sM, gL_sI, gL_sL, gL_sA, gL_sM, aI_sI, aI_sL, aI_sA, aI_sM, aL_sI, aL_sL, aL_sA, aL_sM, gI_em, gI_emx, gI_pu, gI_wh, gI_th]
                    refine ⟨fun h35 => absurd h35 (by decide), fun h35 => ?_⟩
                    clear h35
                    apply hB
                    dsimp only [rgo, rfd, Bmethod, Nat.beq, rwp, rst, lv_args, rlk, rs1, rs2, rdl, rky, rct, rcs, rcd, rno, rsw, Value.category, List.filter, List.take, List.drop, List.reverse, List.reverseAux, List.cons_append, List.nil_append, Option.toList, Int.toNat, Int.reduceToNat, if_pos, if_neg, reduceIte, ↓reduceIte, Nat.reduceAdd, Nat.reduceEqDiff, Nat.reduceBEq, beq_self_eq_true, Bool.not_true, Bool.not_false, Bool.and_true, Bool.and_false, Bool.true_and, Bool.false_and, gI_sI, gI_sL, gI_sA, gI_sM, gL_sI, gL_sL, gL_sA, gL_sM, aI_sI, aI_sL, aI_sA, aI_sM, aL_sI, aL_sL, aL_sA, aL_sM, gI_em, gI_emx, gI_pu, gI_wh, gI_th, Bmethod_0, Bmethod_8, Bmethod_19, Bmethod_24, Bmethod_41, Bmethod_43, Bmethod_56, Bmethod_61, Bmethod_70, Bmethod_80, Bmethod_141, Bmethod_150, Bmethod_152, Bmethod_161, Bmethod_165, Bmethod_166, Bmethod_168, Bmethod_173, Bmethod_182, Bmethod_184, Bmethod_197, Bmethod_204, Bmethod_206, Bmethod_215, Bmethod_217, Bmethod_246, Bmethod_257, Bmethod_259, Bmethod_266, Bmethod_273, Bmethod_275, oi_0, oi_1, oi_10, oi_123, oi_3, oi_40, oi_41, oi_44, oi_5, oi_m2, P_cant, P_isSign, P_isType, P_isWord, P_open, P_param, P_piece, P_take, P_thing, P_want, P_wrong]; try dsimp only
                    apply hB
                    dsimp only [rgo, rfd, Bmethod, Nat.beq, rwp, rst, lv_args, rlk, rs1, rs2, rdl, rky, rct, rcs, rcd, rno, rsw, Value.category, List.filter, List.take, List.drop, List.reverse, List.reverseAux, List.cons_append, List.nil_append, Option.toList, Int.toNat, Int.reduceToNat, if_pos, if_neg, reduceIte, ↓reduceIte, Nat.reduceAdd, Nat.reduceEqDiff, Nat.reduceBEq, beq_self_eq_true, Bool.not_true, Bool.not_false, Bool.and_true, Bool.and_false, Bool.true_and, Bool.false_and, gI_sI, gI_sL, gI_sA, gI_sM, gL_sI, gL_sL, gL_sA, gL_sM, aI_sI, aI_sL, aI_sA, aI_sM, aL_sI, aL_sL, aL_sA, aL_sM, gI_em, gI_emx, gI_pu, gI_wh, gI_th, Bmethod_0, Bmethod_8, Bmethod_19, Bmethod_24, Bmethod_41, Bmethod_43, Bmethod_56, Bmethod_61, Bmethod_70, Bmethod_80, Bmethod_141, Bmethod_150, Bmethod_152, Bmethod_161, Bmethod_165, Bmethod_166, Bmethod_168, Bmethod_173, Bmethod_182, Bmethod_184, Bmethod_197, Bmethod_204, Bmethod_206, Bmethod_215, Bmethod_217, Bmethod_246, Bmethod_257, Bmethod_259, Bmethod_266, Bmethod_273, Bmethod_275, oi_0, oi_1, oi_10, oi_123, oi_3, oi_40, oi_41, oi_44, oi_5, oi_m2, P_cant, P_isSign, P_isType, P_isWord, P_open, P_param, P_piece, P_take, P_thing, P_want, P_wrong]; try dsimp only
                    exact hW 168 [(0, .ref 1000), (2, .int (gI σ 36)), (3, .int (gI σ 49)), (4, .int 1)] _ _ _ (by simp) (t168 (by lia) _ (mI σ (aI σ 6 (gI σ 14).toNatClampNeg)) (gI σ 36) 1 rfl (Or.inr rfl) rfl (fun mn k j h1 h2 h3 h4 => PI.mi h1 h2 h3 (by assumption) (by assumption) (by assumption) (h1.1.2.2.2.1.2.1 _)) (MM.mi (by lia) ⟨by lia, by lia⟩ ⟨by lia, by lia⟩) rfl rfl rfl (by repeat (first | exact Fq.rf | exact Fp.q (by assumption) | refine Fq.a ?_ rfl | refine Fq.i ?_ rfl | refine Fq.y ?_ rfl (fun g => g.1 _))) (by show gI σ 14 < gI σ 14 + 1 + 1 + 1; lia))
                  · dsimp only [Option.toList, List.cons_append, List.nil_append, Nat.beq, gI_sI, gI_sL, gI_sA, gI_sM, gL_sI, gL_sL, gL_sA, gL_sM, aI_sI, aI_sL, aI_sA, aI_sM, aL_sI, aL_sL, aL_sA, aL_sM, gI_em, gI_emx, gI_pu, gI_wh, gI_th]
                    refine ⟨fun h36 => ?_, fun h36 => absurd h36 (by decide)⟩
                    clear h36
                    apply hB
                    dsimp only [rgo, rfd, Bmethod, Nat.beq, rwp, rst, lv_args, rlk, rs1, rs2, rdl, rky, rct, rcs, rcd, rno, rsw, Value.category, List.filter, List.take, List.drop, List.reverse, List.reverseAux, List.cons_append, List.nil_append, Option.toList, Int.toNat, Int.reduceToNat, if_pos, if_neg, reduceIte, ↓reduceIte, Nat.reduceAdd, Nat.reduceEqDiff, Nat.reduceBEq, beq_self_eq_true, Bool.not_true, Bool.not_false, Bool.and_true, Bool.and_false, Bool.true_and, Bool.false_and, gI_sI, gI_sL, gI_sA, gI_sM, gL_sI, gL_sL, gL_sA, gL_sM, aI_sI, aI_sL, aI_sA, aI_sM, aL_sI, aL_sL, aL_sA, aL_sM, gI_em, gI_emx, gI_pu, gI_wh, gI_th, Bmethod_0, Bmethod_8, Bmethod_19, Bmethod_24, Bmethod_41, Bmethod_43, Bmethod_56, Bmethod_61, Bmethod_70, Bmethod_80, Bmethod_141, Bmethod_150, Bmethod_152, Bmethod_161, Bmethod_165, Bmethod_166, Bmethod_168, Bmethod_173, Bmethod_182, Bmethod_184, Bmethod_197, Bmethod_204, Bmethod_206, Bmethod_215, Bmethod_217, Bmethod_246, Bmethod_257, Bmethod_259, Bmethod_266, Bmethod_273, Bmethod_275, oi_0, oi_1, oi_10, oi_123, oi_3, oi_40, oi_41, oi_44, oi_5, oi_m2, P_cant, P_isSign, P_isType, P_isWord, P_open, P_param, P_piece, P_take, P_thing, P_want, P_wrong]; try dsimp only
                    apply hB
                    dsimp only [rgo, rfd, Bmethod, Nat.beq, rwp, rst, lv_args, rlk, rs1, rs2, rdl, rky, rct, rcs, rcd, rno, rsw, Value.category, List.filter, List.take, List.drop, List.reverse, List.reverseAux, List.cons_append, List.nil_append, Option.toList, Int.toNat, Int.reduceToNat, if_pos, if_neg, reduceIte, ↓reduceIte, Nat.reduceAdd, Nat.reduceEqDiff, Nat.reduceBEq, beq_self_eq_true, Bool.not_true, Bool.not_false, Bool.and_true, Bool.and_false, Bool.true_and, Bool.false_and, gI_sI, gI_sL, gI_sA, gI_sM, gL_sI, gL_sL, gL_sA, gL_sM, aI_sI, aI_sL, aI_sA, aI_sM, aL_sI, aL_sL, aL_sA, aL_sM, gI_em, gI_emx, gI_pu, gI_wh, gI_th, Bmethod_0, Bmethod_8, Bmethod_19, Bmethod_24, Bmethod_41, Bmethod_43, Bmethod_56, Bmethod_61, Bmethod_70, Bmethod_80, Bmethod_141, Bmethod_150, Bmethod_152, Bmethod_161, Bmethod_165, Bmethod_166, Bmethod_168, Bmethod_173, Bmethod_182, Bmethod_184, Bmethod_197, Bmethod_204, Bmethod_206, Bmethod_215, Bmethod_217, Bmethod_246, Bmethod_257, Bmethod_259, Bmethod_266, Bmethod_273, Bmethod_275, oi_0, oi_1, oi_10, oi_123, oi_3, oi_40, oi_41, oi_44, oi_5, oi_m2, P_cant, P_isSign, P_isType, P_isWord, P_open, P_param, P_piece, P_take, P_thing, P_want, P_wrong]; try dsimp only
                    exact hW 168 [(0, .ref 1000), (2, .int (gI σ 36)), (3, .int (gI σ 49)), (4, .int 0)] _ _ _ (by simp) (t168 (by lia) _ (mI σ (aI σ 6 (gI σ 14).toNatClampNeg)) (gI σ 36) 0 rfl (Or.inl rfl) rfl (fun mn k j h1 h2 h3 h4 => PI.mi h1 h2 h3 (by assumption) (by assumption) (by assumption) (h1.1.2.2.2.1.2.1 _)) (MM.mi (by lia) ⟨by lia, by lia⟩ ⟨by lia, by lia⟩) rfl rfl rfl (by repeat (first | exact Fq.rf | exact Fp.q (by assumption) | refine Fq.a ?_ rfl | refine Fq.i ?_ rfl | refine Fq.y ?_ rfl (fun g => g.1 _))) (by show gI σ 14 < gI σ 14 + 1 + 1 + 1; lia))
                · dsimp only [Option.toList, List.cons_append, List.nil_append, Nat.beq, gI_sI, gI_sL, gI_sA, gI_sM, gL_sI, gL_sL, gL_sA, gL_sM, aI_sI, aI_sL, aI_sA, aI_sM, aL_sI, aL_sL, aL_sA, aL_sM, gI_em, gI_emx, gI_pu, gI_wh, gI_th]
                  refine ⟨fun h37 => absurd h37 (by decide), fun h37 => ?_⟩
                  clear h37
                  apply hB
                  dsimp only [rgo, rfd, Bmethod, Nat.beq, rwp, rst, lv_args, rlk, rs1, rs2, rdl, rky, rct, rcs, rcd, rno, rsw, Value.category, List.filter, List.take, List.drop, List.reverse, List.reverseAux, List.cons_append, List.nil_append, Option.toList, Int.toNat, Int.reduceToNat, if_pos, if_neg, reduceIte, ↓reduceIte, Nat.reduceAdd, Nat.reduceEqDiff, Nat.reduceBEq, beq_self_eq_true, Bool.not_true, Bool.not_false, Bool.and_true, Bool.and_false, Bool.true_and, Bool.false_and, gI_sI, gI_sL, gI_sA, gI_sM, gL_sI, gL_sL, gL_sA, gL_sM, aI_sI, aI_sL, aI_sA, aI_sM, aL_sI, aL_sL, aL_sA, aL_sM, gI_em, gI_emx, gI_pu, gI_wh, gI_th, Bmethod_0, Bmethod_8, Bmethod_19, Bmethod_24, Bmethod_41, Bmethod_43, Bmethod_56, Bmethod_61, Bmethod_70, Bmethod_80, Bmethod_141, Bmethod_150, Bmethod_152, Bmethod_161, Bmethod_165, Bmethod_166, Bmethod_168, Bmethod_173, Bmethod_182, Bmethod_184, Bmethod_197, Bmethod_204, Bmethod_206, Bmethod_215, Bmethod_217, Bmethod_246, Bmethod_257, Bmethod_259, Bmethod_266, Bmethod_273, Bmethod_275, oi_0, oi_1, oi_10, oi_123, oi_3, oi_40, oi_41, oi_44, oi_5, oi_m2, P_cant, P_isSign, P_isType, P_isWord, P_open, P_param, P_piece, P_take, P_thing, P_want, P_wrong]; try dsimp only
                  refine ⟨Or.inl rfl, ?_⟩
                  exact ⟨_, rfl, Or.inl ⟨rfl, by repeat (first | exact Fq.rf | exact Fp.q (by assumption) | refine Fq.a ?_ rfl | refine Fq.i ?_ rfl | refine Fq.y ?_ rfl (fun g => g.1 _))⟩⟩
              · dsimp only [Option.toList, List.cons_append, List.nil_append, Nat.beq, gI_sI, gI_sL, gI_sA, gI_sM, gL_sI, gL_sL, gL_sA, gL_sM, aI_sI, aI_sL, aI_sA, aI_sM, aL_sI, aL_sL, aL_sA, aL_sM, gI_em, gI_emx, gI_pu, gI_wh, gI_th]
                refine ⟨fun h38 => ?_, fun h38 => absurd h38 (by decide)⟩
                clear h38
                apply hB
                dsimp only [rgo, rfd, Bmethod, Nat.beq, rwp, rst, lv_args, rlk, rs1, rs2, rdl, rky, rct, rcs, rcd, rno, rsw, Value.category, List.filter, List.take, List.drop, List.reverse, List.reverseAux, List.cons_append, List.nil_append, Option.toList, Int.toNat, Int.reduceToNat, if_pos, if_neg, reduceIte, ↓reduceIte, Nat.reduceAdd, Nat.reduceEqDiff, Nat.reduceBEq, beq_self_eq_true, Bool.not_true, Bool.not_false, Bool.and_true, Bool.and_false, Bool.true_and, Bool.false_and, gI_sI, gI_sL, gI_sA, gI_sM, gL_sI, gL_sL, gL_sA, gL_sM, aI_sI, aI_sL, aI_sA, aI_sM, aL_sI, aL_sL, aL_sA, aL_sM, gI_em, gI_emx, gI_pu, gI_wh, gI_th, Bmethod_0, Bmethod_8, Bmethod_19, Bmethod_24, Bmethod_41, Bmethod_43, Bmethod_56, Bmethod_61, Bmethod_70, Bmethod_80, Bmethod_141, Bmethod_150, Bmethod_152, Bmethod_161, Bmethod_165, Bmethod_166, Bmethod_168, Bmethod_173, Bmethod_182, Bmethod_184, Bmethod_197, Bmethod_204, Bmethod_206, Bmethod_215, Bmethod_217, Bmethod_246, Bmethod_257, Bmethod_259, Bmethod_266, Bmethod_273, Bmethod_275, oi_0, oi_1, oi_10, oi_123, oi_3, oi_40, oi_41, oi_44, oi_5, oi_m2, P_cant, P_isSign, P_isType, P_isWord, P_open, P_param, P_piece, P_take, P_thing, P_want, P_wrong]; try dsimp only
                refine ⟨Or.inl rfl, ?_⟩
                exact ⟨_, rfl, Or.inl ⟨rfl, by repeat (first | exact Fq.rf | exact Fp.q (by assumption) | refine Fq.a ?_ rfl | refine Fq.i ?_ rfl | refine Fq.y ?_ rfl (fun g => g.1 _))⟩⟩
            · apply hB
              dsimp only [rgo, rfd, Bmethod, Nat.beq, rwp, rst, lv_args, rlk, rs1, rs2, rdl, rky, rct, rcs, rcd, rno, rsw, Value.category, List.filter, List.take, List.drop, List.reverse, List.reverseAux, List.cons_append, List.nil_append, Option.toList, Int.toNat, Int.reduceToNat, if_pos, if_neg, reduceIte, ↓reduceIte, Nat.reduceAdd, Nat.reduceEqDiff, Nat.reduceBEq, beq_self_eq_true, Bool.not_true, Bool.not_false, Bool.and_true, Bool.and_false, Bool.true_and, Bool.false_and, gI_sI, gI_sL, gI_sA, gI_sM, gL_sI, gL_sL, gL_sA, gL_sM, aI_sI, aI_sL, aI_sA, aI_sM, aL_sI, aL_sL, aL_sA, aL_sM, gI_em, gI_emx, gI_pu, gI_wh, gI_th, Bmethod_0, Bmethod_8, Bmethod_19, Bmethod_24, Bmethod_41, Bmethod_43, Bmethod_56, Bmethod_61, Bmethod_70, Bmethod_80, Bmethod_141, Bmethod_150, Bmethod_152, Bmethod_161, Bmethod_165, Bmethod_166, Bmethod_168, Bmethod_173, Bmethod_182, Bmethod_184, Bmethod_197, Bmethod_204, Bmethod_206, Bmethod_215, Bmethod_217, Bmethod_246, Bmethod_257, Bmethod_259, Bmethod_266, Bmethod_273, Bmethod_275, oi_0, oi_1, oi_10, oi_123, oi_3, oi_40, oi_41, oi_44, oi_5, oi_m2, P_cant, P_isSign, P_isType, P_isWord, P_open, P_param, P_piece, P_take, P_thing, P_want, P_wrong]; try dsimp only
              refine ⟨rfl, rfl, (by decide), (⟨by lia, by lia⟩), fun w39 τ39 hq39 => ?_⟩
              obtain ⟨r39, rfl, rfl, fa39, fb39, rfl⟩ := hq39
              dsimp only [Option.toList, List.cons_append, List.nil_append, Nat.beq, gI_sI, gI_sL, gI_sA, gI_sM, gL_sI, gL_sL, gL_sA, gL_sM, aI_sI, aI_sL, aI_sA, aI_sM, aL_sI, aL_sL, aL_sA, aL_sM, gI_em, gI_emx, gI_pu, gI_wh, gI_th]
              refine ⟨Or.inl rfl, ?_⟩
              exact ⟨_, rfl, Or.inl ⟨rfl, by repeat (first | exact Fq.rf | exact Fp.q (by assumption) | refine Fq.a ?_ rfl | refine Fq.i ?_ rfl | refine Fq.y ?_ rfl (fun g => g.1 _))⟩⟩
          · apply hB
            dsimp only [rgo, rfd, Bmethod, Nat.beq, rwp, rst, lv_args, rlk, rs1, rs2, rdl, rky, rct, rcs, rcd, rno, rsw, Value.category, List.filter, List.take, List.drop, List.reverse, List.reverseAux, List.cons_append, List.nil_append, Option.toList, Int.toNat, Int.reduceToNat, if_pos, if_neg, reduceIte, ↓reduceIte, Nat.reduceAdd, Nat.reduceEqDiff, Nat.reduceBEq, beq_self_eq_true, Bool.not_true, Bool.not_false, Bool.and_true, Bool.and_false, Bool.true_and, Bool.false_and, gI_sI, gI_sL, gI_sA, gI_sM, gL_sI, gL_sL, gL_sA, gL_sM, aI_sI, aI_sL, aI_sA, aI_sM, aL_sI, aL_sL, aL_sA, aL_sM, gI_em, gI_emx, gI_pu, gI_wh, gI_th, Bmethod_0, Bmethod_8, Bmethod_19, Bmethod_24, Bmethod_41, Bmethod_43, Bmethod_56, Bmethod_61, Bmethod_70, Bmethod_80, Bmethod_141, Bmethod_150, Bmethod_152, Bmethod_161, Bmethod_165, Bmethod_166, Bmethod_168, Bmethod_173, Bmethod_182, Bmethod_184, Bmethod_197, Bmethod_204, Bmethod_206, Bmethod_215, Bmethod_217, Bmethod_246, Bmethod_257, Bmethod_259, Bmethod_266, Bmethod_273, Bmethod_275, oi_0, oi_1, oi_10, oi_123, oi_3, oi_40, oi_41, oi_44, oi_5, oi_m2, P_cant, P_isSign, P_isType, P_isWord, P_open, P_param, P_piece, P_take, P_thing, P_want, P_wrong]; try dsimp only
            refine ⟨rfl, (by decide), (⟨by lia, by lia⟩), fun w40 τ40 hq40 => ?_⟩
            obtain ⟨r40, rfl, rfl, fa40, fb40, rfl⟩ := hq40
            dsimp only [Option.toList, List.cons_append, List.nil_append, Nat.beq, gI_sI, gI_sL, gI_sA, gI_sM, gL_sI, gL_sL, gL_sA, gL_sM, aI_sI, aI_sL, aI_sA, aI_sM, aL_sI, aL_sL, aL_sA, aL_sM, gI_em, gI_emx, gI_pu, gI_wh, gI_th]
            refine ⟨Or.inl rfl, ?_⟩
            exact ⟨_, rfl, Or.inl ⟨rfl, by repeat (first | exact Fq.rf | exact Fp.q (by assumption) | refine Fq.a ?_ rfl | refine Fq.i ?_ rfl | refine Fq.y ?_ rfl (fun g => g.1 _))⟩⟩
        · dsimp only [Option.toList, List.cons_append, List.nil_append, Nat.beq, gI_sI, gI_sL, gI_sA, gI_sM, gL_sI, gL_sL, gL_sA, gL_sM, aI_sI, aI_sL, aI_sA, aI_sM, aL_sI, aL_sL, aL_sA, aL_sM, gI_em, gI_emx, gI_pu, gI_wh, gI_th]
          refine ⟨fun h41 => absurd h41 (by decide), fun h41 => ?_⟩
          clear h41
          apply hB
          dsimp only [rgo, rfd, Bmethod, Nat.beq, rwp, rst, lv_args, rlk, rs1, rs2, rdl, rky, rct, rcs, rcd, rno, rsw, Value.category, List.filter, List.take, List.drop, List.reverse, List.reverseAux, List.cons_append, List.nil_append, Option.toList, Int.toNat, Int.reduceToNat, if_pos, if_neg, reduceIte, ↓reduceIte, Nat.reduceAdd, Nat.reduceEqDiff, Nat.reduceBEq, beq_self_eq_true, Bool.not_true, Bool.not_false, Bool.and_true, Bool.and_false, Bool.true_and, Bool.false_and, gI_sI, gI_sL, gI_sA, gI_sM, gL_sI, gL_sL, gL_sA, gL_sM, aI_sI, aI_sL, aI_sA, aI_sM, aL_sI, aL_sL, aL_sA, aL_sM, gI_em, gI_emx, gI_pu, gI_wh, gI_th, Bmethod_0, Bmethod_8, Bmethod_19, Bmethod_24, Bmethod_41, Bmethod_43, Bmethod_56, Bmethod_61, Bmethod_70, Bmethod_80, Bmethod_141, Bmethod_150, Bmethod_152, Bmethod_161, Bmethod_165, Bmethod_166, Bmethod_168, Bmethod_173, Bmethod_182, Bmethod_184, Bmethod_197, Bmethod_204, Bmethod_206, Bmethod_215, Bmethod_217, Bmethod_246, Bmethod_257, Bmethod_259, Bmethod_266, Bmethod_273, Bmethod_275, oi_0, oi_1, oi_10, oi_123, oi_3, oi_40, oi_41, oi_44, oi_5, oi_m2, P_cant, P_isSign, P_isType, P_isWord, P_open, P_param, P_piece, P_take, P_thing, P_want, P_wrong]; try dsimp only
          refine ⟨Or.inl rfl, ?_⟩
          exact ⟨_, rfl, Or.inl ⟨rfl, by repeat (first | exact Fq.rf | exact Fp.q (by assumption) | refine Fq.a ?_ rfl | refine Fq.i ?_ rfl | refine Fq.y ?_ rfl (fun g => g.1 _))⟩⟩
    next => exact hP.elim
theorem m_method (l : Launch) : RMet l 12 38 P_method Q_method := by
  refine RMet.by Bmethod [(13, P_cant, Q_cant), (14, P_isSign, Q_isSign), (23, P_isType, Q_isType), (15, P_isWord, Q_isWord), (36, P_open, Q_open), (39, P_param, Q_param), (44, P_piece, Q_piece), (17, P_take, Q_take), (35, P_thing, Q_thing), (18, P_want, Q_want), (12, P_wrong, Q_wrong)] romethod okBmethod (ctc (m_cant l) (by decide) (ctc (m_isSign l) (by decide) (ctc (m_isType l) (by decide) (ctc (m_isWord l) (by decide) (ctc (m_open l) (by decide) (ctc (m_param l) (by decide) (ctc (m_piece l) (by decide) (ctc (m_take l) (by decide) (ctc (m_thing l) (by decide) (ctc (m_want l) (by decide) (ctc (m_wrong l) (by decide) ct0))))))))))) ?_ b_method
  · intro As σ hP
    unfold P_method at hP
    split at hP
    next => exact Nat.le_of_ble_eq_true rfl
    next => exact hP.elim
set_option maxRecDepth 100000 in
theorem e_method (l : Launch) : RMetE l 12 38 P_method Q_method := by
  refine RMetE.by Bmethod [(13, P_cant, Q_cant), (14, P_isSign, Q_isSign), (23, P_isType, Q_isType), (15, P_isWord, Q_isWord), (36, P_open, Q_open), (39, P_param, Q_param), (44, P_piece, Q_piece), (17, P_take, Q_take), (35, P_thing, Q_thing), (18, P_want, Q_want), (12, P_wrong, Q_wrong)] rfl rfl romethod okBmethod (ctEc (e_cant l) (by decide) (ctEc (e_isSign l) (by decide) (ctEc (e_isType l) (by decide) (ctEc (e_isWord l) (by decide) (ctEc (e_open l) (by decide) (ctEc (e_param l) (by decide) (ctEc (e_piece l) (by decide) (ctEc (e_take l) (by decide) (ctEc (e_thing l) (by decide) (ctEc (e_want l) (by decide) (ctEc (e_wrong l) (by decide) ctE0))))))))))) ?_ b_method
  · intro As σ hP
    unfold P_method at hP
    split at hP
    next => exact Nat.le_of_ble_eq_true rfl
    next => exact hP.elim

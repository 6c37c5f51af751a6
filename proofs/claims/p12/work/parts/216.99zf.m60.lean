/-! the whole run -/
def iRf (k : Nat) : Bool := k == 121 || k == 128 || k == 129 || k == 133 || k == 141 || k == 142 || (144 ≤ k && k ≤ 148)
def gRf (k : Nat) : Bool := k == 143
def aRf (k : Nat) : Bool := k == 125 || k == 126 || k == 131 || k == 132 || (134 ≤ k && k ≤ 139)
def lRf (k : Nat) : Bool := k == 127 || k == 130 || k == 140 || k == 149
def Rf (σ τ : RS) : Prop := (∀ k, iRf k = false → gI τ k = gI σ k) ∧ (∀ k, gRf k = false → gL τ k = gL σ k) ∧ (∀ k, aRf k = false → aI τ k = aI σ k) ∧ ∀ k, lRf k = false → aL τ k = aL σ k
theorem Rf.rf {σ : RS} : Rf σ σ := ⟨fun _ _ => rfl, fun _ _ => rfl, fun _ _ => rfl, fun _ _ => rfl⟩
theorem Rf.tr {σ τ υ : RS} (h1 : Rf σ τ) (h2 : Rf τ υ) : Rf σ υ := ⟨fun k hk => (h2.1 k hk).trans (h1.1 k hk), fun k hk => (h2.2.1 k hk).trans (h1.2.1 k hk), fun k hk => (h2.2.2.1 k hk).trans (h1.2.2.1 k hk), fun k hk => (h2.2.2.2 k hk).trans (h1.2.2.2 k hk)⟩
theorem Rf.i {σ τ : RS} (h : Rf σ τ) {k : Nat} {v : Int32} (hk : iRf k = true) : Rf σ (sI τ k v) := ⟨fun j hj => by
  rw [gI_sI, nb_ne (fun q => by subst q; rw [hk] at hj; cases hj)]
  exact h.1 j hj, h.2.1, h.2.2.1, h.2.2.2⟩
theorem Rf.g {σ τ : RS} (h : Rf σ τ) {k : Nat} {v : Int64} (hk : gRf k = true) : Rf σ (sL τ k v) := ⟨h.1, fun j hj => by
  rw [gL_sL, nb_ne (fun q => by subst q; rw [hk] at hj; cases hj)]
  exact h.2.1 j hj, h.2.2.1, h.2.2.2⟩
theorem Rf.a {σ τ : RS} (h : Rf σ τ) {k : Nat} {f : Nat → Int32} (hk : aRf k = true) : Rf σ (sA τ k f) := ⟨h.1, h.2.1, fun j hj => by
  rw [aI_sA, nb_ne (fun q => by subst q; rw [hk] at hj; cases hj)]
  exact h.2.2.1 j hj, h.2.2.2⟩
theorem Rf.m {σ τ : RS} (h : Rf σ τ) {k : Nat} {f : Nat → Int64} (hk : lRf k = true) : Rf σ (sM τ k f) := ⟨h.1, h.2.1, h.2.2.1, fun j hj => by
  rw [aL_sM, nb_ne (fun q => by subst q; rw [hk] at hj; cases hj)]
  exact h.2.2.2 j hj⟩
def iFo (k : Nat) : Bool := (66 ≤ k && k ≤ 117) || k == 121 || (125 ≤ k && k ≤ 148)
def gFo (k : Nat) : Bool := k == 93 || k == 94 || k == 143
def aFo (k : Nat) : Bool := k == 59 || (70 ≤ k && k ≤ 117) || (125 ≤ k && k ≤ 139)
def lFo (k : Nat) : Bool := (70 ≤ k && k ≤ 117) || (125 ≤ k && k ≤ 149)
def Fo (σ τ : RS) : Prop := (∀ k, iFo k = false → gI τ k = gI σ k) ∧ (∀ k, gFo k = false → gL τ k = gL σ k) ∧ (∀ k, aFo k = false → aI τ k = aI σ k) ∧ ∀ k, lFo k = false → aL τ k = aL σ k
theorem Fo.rf {σ : RS} : Fo σ σ := ⟨fun _ _ => rfl, fun _ _ => rfl, fun _ _ => rfl, fun _ _ => rfl⟩
theorem Fo.tr {σ τ υ : RS} (h1 : Fo σ τ) (h2 : Fo τ υ) : Fo σ υ := ⟨fun k hk => (h2.1 k hk).trans (h1.1 k hk), fun k hk => (h2.2.1 k hk).trans (h1.2.1 k hk), fun k hk => (h2.2.2.1 k hk).trans (h1.2.2.1 k hk), fun k hk => (h2.2.2.2 k hk).trans (h1.2.2.2 k hk)⟩
theorem Fo.i {σ τ : RS} (h : Fo σ τ) {k : Nat} {v : Int32} (hk : iFo k = true) : Fo σ (sI τ k v) := ⟨fun j hj => by
  rw [gI_sI, nb_ne (fun q => by subst q; rw [hk] at hj; cases hj)]
  exact h.1 j hj, h.2.1, h.2.2.1, h.2.2.2⟩
theorem Fo.g {σ τ : RS} (h : Fo σ τ) {k : Nat} {v : Int64} (hk : gFo k = true) : Fo σ (sL τ k v) := ⟨h.1, fun j hj => by
  rw [gL_sL, nb_ne (fun q => by subst q; rw [hk] at hj; cases hj)]
  exact h.2.1 j hj, h.2.2.1, h.2.2.2⟩
theorem Fo.a {σ τ : RS} (h : Fo σ τ) {k : Nat} {f : Nat → Int32} (hk : aFo k = true) : Fo σ (sA τ k f) := ⟨h.1, h.2.1, fun j hj => by
  rw [aI_sA, nb_ne (fun q => by subst q; rw [hk] at hj; cases hj)]
  exact h.2.2.1 j hj, h.2.2.2⟩
theorem Fo.m {σ τ : RS} (h : Fo σ τ) {k : Nat} {f : Nat → Int64} (hk : lFo k = true) : Fo σ (sM τ k f) := ⟨h.1, h.2.1, h.2.2.1, fun j hj => by
  rw [aL_sM, nb_ne (fun q => by subst q; rw [hk] at hj; cases hj)]
  exact h.2.2.2 j hj⟩
theorem PK.rf {σ τ : RS} (h : PK σ) (hf : Rf σ τ) : PK τ := by
  obtain ⟨f, k, j, hp⟩ := h
  have h1 := hp.1.1
  have e14 : gI (sI (sA τ 59 f) 62 0) 14 = gI (sI (sA σ 59 f) 62 0) 14 := hf.1 14 rfl
  refine ⟨f, k, j, ?_⟩
  rw [hf.1 36 rfl]
  exact hp.mv (σ' := sI (sA τ 59 f) 62 0) k j ⟨by rw [e14]; exact Int.le_refl _, by rw [e14]; exact h1.2⟩ ⟨hp.1.2.1.2.2, by rw [e14]; omega⟩ ⟨hp.1.2.2.2.2.2.2, by rw [e14]; omega⟩ True.intro (hf.1 17 rfl) (hf.1 49 rfl) rfl (hf.1 42 rfl) (hf.1 36 rfl) (hf.2.2.1 63 rfl) (hf.2.2.1 64 rfl) (hf.2.2.1 65 rfl) (hf.2.2.1 43 rfl) (hf.2.2.1 37 rfl) (hf.2.2.1 39 rfl) (hf.2.2.1 40 rfl) (hf.2.2.1 41 rfl) (hf.1 18 rfl) (hf.2.2.1 19 rfl) (hf.2.2.1 20 rfl) (hf.2.2.1 21 rfl) (hf.2.2.1 22 rfl) (hf.2.2.1 23 rfl) (hf.2.2.1 24 rfl) (hf.2.2.1 50 rfl) (hf.2.2.1 51 rfl) (hf.2.2.1 52 rfl) (hf.2.2.1 53 rfl) (hf.2.2.1 54 rfl) (hf.2.2.1 55 rfl) (hf.2.2.1 56 rfl) (hf.2.2.1 57 rfl) (hf.2.2.1 58 rfl) rfl (hf.2.2.1 60 rfl) (hf.2.2.1 61 rfl) (hf.2.2.1 3 rfl) (hf.2.2.1 6 rfl) (hgz := fun z => z.same (hf.2.2.1 6 rfl) (hf.2.2.1 38 rfl) (hf.2.2.1 44 rfl))
theorem JD.rf {σ τ : RS} (h : JD σ) (hf : Rf σ τ) : JD τ := by
  obtain ⟨h1, ⟨h2, h3, h4⟩, h5, h6⟩ := h
  have r19 := hf.2.2.1 19 rfl
  have r20 := hf.2.2.1 20 rfl
  have r21 := hf.2.2.1 21 rfl
  have r22 := hf.2.2.1 22 rfl
  have r59 := hf.2.2.1 59 rfl
  have r80 := hf.2.2.1 80 rfl
  have r81 := hf.2.2.1 81 rfl
  have r82 := hf.2.2.1 82 rfl
  have r83 := hf.2.2.1 83 rfl
  have r38 := hf.2.2.1 38 rfl
  have r39 := hf.2.2.1 39 rfl
  have i18 := hf.1 18 rfl
  have i36 := hf.1 36 rfl
  have i42 := hf.1 42 rfl
  have i49 := hf.1 49 rfl
  refine ⟨h1.rf hf, ⟨by rw [hf.1 68 rfl]; exact h2, by rw [hf.1 91 rfl]; exact h3, by rw [hf.1 74 rfl]; exact h4⟩, by rw [i49, r59, r19, r20, i18]; exact h5, fun q => ?_⟩
  rw [i18, r19, r20, r21, r81]
  obtain ⟨g1, g2⟩ := h6 (by rw [← hf.1 66 rfl]; exact q)
  refine ⟨fun i hi => ?_, g2⟩
  obtain ⟨a1, a2, a3, a4, a5⟩ := g1 i hi
  unfold EC
  rw [r19, r20, r21, r22, r80, r81, r82, r83, i42]
  exact ⟨a1, a2, fun z => ⟨(a3 z).1.fr i36 r39, (a3 z).2.fr r38⟩, a4, a5⟩
theorem Rf.o {σ τ : RS} (h : Rf σ τ) : Fo σ τ := by
  refine ⟨fun k hk => h.1 k ?_, fun k hk => h.2.1 k ?_, fun k hk => h.2.2.1 k ?_, fun k hk => h.2.2.2 k ?_⟩
  · unfold iFo at hk
    unfold iRf
    simp only [Bool.or_eq_false_iff, Bool.and_eq_false_imp, decide_eq_true_eq, decide_eq_false_iff_not, beq_eq_false_iff_ne] at hk ⊢
    omega
  · unfold gFo at hk
    unfold gRf
    simp only [Bool.or_eq_false_iff, Bool.and_eq_false_imp, decide_eq_true_eq, decide_eq_false_iff_not, beq_eq_false_iff_ne] at hk ⊢
    omega
  · unfold aFo at hk
    unfold aRf
    simp only [Bool.or_eq_false_iff, Bool.and_eq_false_imp, decide_eq_true_eq, decide_eq_false_iff_not, beq_eq_false_iff_ne] at hk ⊢
    omega
  · unfold lFo at hk
    unfold lRf
    simp only [Bool.or_eq_false_iff, Bool.and_eq_false_imp, decide_eq_true_eq, decide_eq_false_iff_not, beq_eq_false_iff_ne] at hk ⊢
    omega
theorem Fz.o {σ τ : RS} (h : Fz σ τ) : Fo σ τ := by
  refine ⟨fun k hk => h.1 k ?_, fun k hk => h.2.1 k ?_, fun k hk => h.2.2.1 k ?_, fun k hk => h.2.2.2 k ?_⟩
  · unfold iFo at hk
    unfold iFz
    simp only [Bool.or_eq_false_iff, Bool.and_eq_false_imp, decide_eq_true_eq, decide_eq_false_iff_not, beq_eq_false_iff_ne] at hk ⊢
    omega
  · unfold gFo at hk
    unfold gFz
    simp only [Bool.or_eq_false_iff, Bool.and_eq_false_imp, decide_eq_true_eq, decide_eq_false_iff_not, beq_eq_false_iff_ne] at hk ⊢
    omega
  · unfold aFo at hk
    unfold aFz
    simp only [Bool.or_eq_false_iff, Bool.and_eq_false_imp, decide_eq_true_eq, decide_eq_false_iff_not, beq_eq_false_iff_ne] at hk ⊢
    omega
  · unfold lFo at hk
    unfold lFz
    simp only [Bool.or_eq_false_iff, Bool.and_eq_false_imp, decide_eq_true_eq, decide_eq_false_iff_not, beq_eq_false_iff_ne] at hk ⊢
    omega
theorem Fg.o {σ τ : RS} (h : Fg σ τ) : Fo σ τ := by
  refine ⟨fun k hk => h.1 k ?_, fun k hk => h.2.1 k ?_, fun k hk => h.2.2.1 k ?_, fun k hk => h.2.2.2 k ?_⟩
  · unfold iFo at hk
    unfold iFg
    simp only [Bool.or_eq_false_iff, Bool.and_eq_false_imp, decide_eq_true_eq, decide_eq_false_iff_not, beq_eq_false_iff_ne] at hk ⊢
    omega
  · unfold gFo at hk
    unfold gFg
    simp only [Bool.or_eq_false_iff, Bool.and_eq_false_imp, decide_eq_true_eq, decide_eq_false_iff_not, beq_eq_false_iff_ne] at hk ⊢
    omega
  · unfold aFo at hk
    unfold aFg
    simp only [Bool.or_eq_false_iff, Bool.and_eq_false_imp, decide_eq_true_eq, decide_eq_false_iff_not, beq_eq_false_iff_ne] at hk ⊢
    omega
  · unfold lFo at hk
    unfold lFg
    simp only [Bool.or_eq_false_iff, Bool.and_eq_false_imp, decide_eq_true_eq, decide_eq_false_iff_not, beq_eq_false_iff_ne] at hk ⊢
    omega
theorem LQ.rf {σ τ : RS} (h : LQ σ τ) : Rf σ τ := by
  refine ⟨fun k _ => h.1 k, fun k _ => h.2.1 k, fun k hk => h.2.2.1 k ?_ ?_, fun k _ => h.2.2.2.1 k⟩
  · intro q; subst q; cases hk
  · intro q; subst q; cases hk
theorem LQ.rg {σ τ : RS} (h : LQ σ τ) (hJ : JD σ) (h66 : gI σ 66 = 0) : RG τ := by
  refine ⟨hJ.rf h.rf, by rw [h.1 66]; exact h66, ?_⟩
  rw [h.1 18, h.2.2.1 19 (by decide) (by decide)]
  intro p hp hi
  have q := h.2.2.2.2 p hp hi
  unfold LD at q ⊢
  rw [h.2.2.1 19 (by decide) (by decide), h.2.2.1 20 (by decide) (by decide), h.2.2.1 21 (by decide) (by decide)]
  exact q
theorem RG.rf {σ τ : RS} (h : RG σ) (hf : Rf σ τ) (h125 : aI τ 125 = aI σ 125) : RG τ := by
  obtain ⟨h1, h2, h3⟩ := h
  refine ⟨h1.rf hf, by rw [hf.1 66 rfl]; exact h2, ?_⟩
  rw [hf.1 18 rfl]
  unfold LD
  rw [hf.2.2.1 19 rfl, hf.2.2.1 20 rfl, hf.2.2.1 21 rfl, h125]
  exact h3
/-- where a run begins -/
theorem RA.beg {X : RS} {m : Int32} (hG : RG X) (hm : 0 ≤ m ∧ m < gI X 36) (h129 : gI X 129 = 1) (h128 : gI X 128 = 0) (h133 : gI X 133 = 0) (h132 : aI X 132 0 = m) (h141 : gI X 141 = aI X 41 (nT m)) : RA X X := by
  have hmn : nT m < nT (gI X 36) := nT_lt hm.1 hm.2
  have hMT : (0 ≤ aI X 41 (nT m) ∧ aI X 41 (nT m) ≤ gI X 18) ∧ Es (aI X 19) (aI X 20) (aI X 21) (nT (aI X 41 (nT m))) = some [] ∧ Ss (aI X 19) (aI X 20) (nT (aI X 41 (nT m))) = some ([], nT m) := by
    obtain ⟨f, kk, j, hp⟩ := hG.k
    have q := hp.2.2.2.2.2.2.2.2.1.2 (nT m) hmn
    exact ⟨q.2.2.2.1, q.2.2.2.2.1, q.2.2.2.2.2⟩
  have hcl := nT_le hMT.1.1 hMT.1.2
  have hzt : zt X (nT (aI X 41 (nT m))) = some [] := by
    obtain ⟨z2, q1, -⟩ := hG.zs hcl
    have q2 := Et_Es _ _ q1
    have q3 := Option.some.inj (q2.symm.trans hMT.2.1)
    have q4 : z2 = [] := by
      cases z2 with
      | nil => rfl
      | cons a b => cases q3
    rw [q1, q4]
  refine ⟨0, 0, 0, nT m, [], [], ⟨by rw [h129]; decide, by rw [h129]; decide, by decide⟩, ⟨⟨rfl, rfl⟩, ⟨by rw [h132]; exact hm.1, by rw [h132]⟩, hmn⟩, ⟨⟨by rw [h141]; exact hMT.1.1, by rw [h141]; exact hcl⟩, by rw [h141]; exact hMT.2.2, by rw [h141]; exact hzt⟩, ⟨by rw [h128]; decide, by rw [h128]; rfl⟩, by rw [h133]; decide, by rw [h133]; rfl⟩
/-- what a run still may do -/
def MU0 (X : RS) : Nat := (nT (gI X 145) - nT (gI X 144)) * 775000031 + nT (gI X 129) * 25000001 + (25000001 - vp X (nT (gI X 141)))
def RLw (S X : RS) : Prop := (RG X ∧ CN X ∧ Fz S X) ∧ (¬ gI X 142 = 0 ∨ (gI X 142 = 0 ∧ RA X X))
theorem RLw.on {S X τ : RS} (h : RLw S X) (h0 : gI X 142 = 0) (hq : WQ X (nT (gI X 141)) τ) : RLw S τ ∧ (gI τ 142 = 0 → MU0 τ < MU0 X) := by
  obtain ⟨⟨hG, hC, hF⟩, hRA⟩ := h
  have hRA := hRA.elim (fun q => absurd h0 q) (fun q => q.2)
  have v0 : vp X (nT (gI X 141)) ≤ 25000000 := by
    obtain ⟨i, h, t0, m, l, z, -, -, ⟨⟨c1, c2⟩, -⟩, -⟩ := hRA
    exact vp_le hG.k c2
  obtain ⟨q1, q2, q3⟩ := hq
  have hs := q1.se
  refine ⟨⟨⟨hG.fz q1, q2, hF.tr q1⟩, ?_⟩, fun e => ?_⟩
  · rcases q3 with q | ⟨a1, a2, a3⟩
    · exact Or.inl q
    · exact Or.inr ⟨a1, hs.ra a2⟩
  · rcases q3 with q | ⟨a1, a2, a3, a4⟩
    · exact absurd e q
    · obtain ⟨i, h, t0, m, l, z, ⟨b1, b2, b3⟩, hB, ⟨⟨c1, c2⟩, -⟩, -⟩ := a2
      have v1 := vp_le hG.k c2
      have d1 := nT_le hC.1.1 hC.1.2.1
      have d2 := nT_le q2.1.1 q2.1.2.1
      unfold MU0
      rw [a3] at d2
      rw [a3, hs.evp]
      rcases a4 with k | ⟨k1, k2⟩
      · omega
      · rw [k1]
        rcases k2 with k | ⟨k2, k3⟩
        · omega
        · omega
theorem IG.o {σ τ : RS} (h : IG σ) (hj : JD τ) (hf : Fo σ τ) : IG τ := ⟨hj.2.1.2.1, by rw [hf.1 2 rfl]; exact h.2.1, Or.inr hj⟩
def P_run : RP := fun As σ => match As with
  | [.int m, .int limit] => IG σ ∧ (0 ≤ (gI σ 123) ∧ (gI σ 123) ≤ 40) ∧ (0 ≤ (gI σ 148) ∧ (gI σ 148) ≤ 200)
  | _ => False
def Q_run : RQ := fun As σ w τ => match As with
  | [.int m, .int limit] => ∃ r : Int32, w = some (.int r) ∧ (τ = σ ∨ (JD τ ∧ Fo σ τ ∧ 0 ≤ (gI τ 148) ∧ (gI τ 148) ≤ 200))
  | _ => False
set_option maxRecDepth 100000 in
set_option maxHeartbeats 4000000 in
theorem m_run (l : Launch) : RMet l 8 151 P_run Q_run := by
  refine RMet.by Brun [(150, P_begin, Q_begin), (76, P_cast, Q_cast), (145, P_count1, Q_count1), (125, P_isGood, Q_isGood), (142, P_links, Q_links), (152, P_work, Q_work)] rorun okBrun (ctc (m_begin l) (by decide) (ctc (m_cast l) (by decide) (ctc (m_count1 l) (by decide) (ctc (m_isGood l) (by decide) (ctc (m_links l) (by decide) (ctc (m_work l) (by decide) ct0)))))) ?_ ?_
  · intro As σ hP
    unfold P_run at hP
    split at hP
    next => exact Nat.le_of_ble_eq_true rfl
    next => exact hP.elim
  · intro As σ hP G hB hW
    unfold P_run at hP
    split at hP
    next m limit => 
      unfold Q_run at hB
      dsimp only at hB
      obtain ⟨hIG, hin, hto⟩ := hP
      have t195 : ∀ S : RS, Fo σ S → ∀ X : RS, ¬ gI X 142 = 0 → RLw S X → G 177 [(0, .ref 1000), (1, .int m), (2, .int limit)] [] X := by
        intro S hSo X h0 hr
        apply hB
        dsimp only [rgo, rfd, Brun, Nat.beq, rwp, rst, lv_args, rlk, rs1, rs2, rdl, rky, rct, rcs, rcd, rno, rsw, Value.category, List.filter, List.take, List.drop, List.reverse, List.reverseAux, List.cons_append, List.nil_append, Option.toList, Int.toNat, Int.reduceToNat, if_pos, if_neg, reduceIte, ↓reduceIte, Nat.reduceAdd, Nat.reduceEqDiff, Nat.reduceBEq, beq_self_eq_true, Bool.not_true, Bool.not_false, Bool.and_true, Bool.and_false, Bool.true_and, Bool.false_and, gI_sI, gI_sL, gI_sA, gI_sM, gL_sI, gL_sL, gL_sA, gL_sM, aI_sI, aI_sL, aI_sA, aI_sM, aL_sI, aL_sL, aL_sA, aL_sM, Brun_0, Brun_4, Brun_12, Brun_17, Brun_24, Brun_26, Brun_33, Brun_36, Brun_103, Brun_113, Brun_115, Brun_125, Brun_167, Brun_177, Brun_184, Brun_195, Brun_203, Brun_212, Brun_217, Brun_226, Brun_230, Brun_234, oi_0, oi_1, oi_10, oi_2, oi_20000, oi_m1, oi_m2, P_begin, P_cast, P_count1, P_isGood, P_links, P_work]; try dsimp only
        refine ⟨rfl, fun h1 => ?_, fun h1 => ?_⟩
        · apply hB
          dsimp only [rgo, rfd, Brun, Nat.beq, rwp, rst, lv_args, rlk, rs1, rs2, rdl, rky, rct, rcs, rcd, rno, rsw, Value.category, List.filter, List.take, List.drop, List.reverse, List.reverseAux, List.cons_append, List.nil_append, Option.toList, Int.toNat, Int.reduceToNat, if_pos, if_neg, reduceIte, ↓reduceIte, Nat.reduceAdd, Nat.reduceEqDiff, Nat.reduceBEq, beq_self_eq_true, Bool.not_true, Bool.not_false, Bool.and_true, Bool.and_false, Bool.true_and, Bool.false_and, gI_sI, gI_sL, gI_sA, gI_sM, gL_sI, gL_sL, gL_sA, gL_sM, aI_sI, aI_sL, aI_sA, aI_sM, aL_sI, aL_sL, aL_sA, aL_sM, Brun_0, Brun_4, Brun_12, Brun_17, Brun_24, Brun_26, Brun_33, Brun_36, Brun_103, Brun_113, Brun_115, Brun_125, Brun_167, Brun_177, Brun_184, Brun_195, Brun_203, Brun_212, Brun_217, Brun_226, Brun_230, Brun_234, oi_0, oi_1, oi_10, oi_2, oi_20000, oi_m1, oi_m2, P_begin, P_cast, P_count1, P_isGood, P_links, P_work]; try dsimp only
          refine ⟨rfl, fun h2 => ?_, fun h2 => ?_⟩
          · apply hB
            dsimp only [rgo, rfd, Brun, Nat.beq, rwp, rst, lv_args, rlk, rs1, rs2, rdl, rky, rct, rcs, rcd, rno, rsw, Value.category, List.filter, List.take, List.drop, List.reverse, List.reverseAux, List.cons_append, List.nil_append, Option.toList, Int.toNat, Int.reduceToNat, if_pos, if_neg, reduceIte, ↓reduceIte, Nat.reduceAdd, Nat.reduceEqDiff, Nat.reduceBEq, beq_self_eq_true, Bool.not_true, Bool.not_false, Bool.and_true, Bool.and_false, Bool.true_and, Bool.false_and, gI_sI, gI_sL, gI_sA, gI_sM, gL_sI, gL_sL, gL_sA, gL_sM, aI_sI, aI_sL, aI_sA, aI_sM, aL_sI, aL_sL, aL_sA, aL_sM, Brun_0, Brun_4, Brun_12, Brun_17, Brun_24, Brun_26, Brun_33, Brun_36, Brun_103, Brun_113, Brun_115, Brun_125, Brun_167, Brun_177, Brun_184, Brun_195, Brun_203, Brun_212, Brun_217, Brun_226, Brun_230, Brun_234, oi_0, oi_1, oi_10, oi_2, oi_20000, oi_m1, oi_m2, P_begin, P_cast, P_count1, P_isGood, P_links, P_work]; try dsimp only
            refine ⟨rfl, fun h3 => ?_, fun h3 => ?_⟩
            · apply hB
              dsimp only [rgo, rfd, Brun, Nat.beq, rwp, rst, lv_args, rlk, rs1, rs2, rdl, rky, rct, rcs, rcd, rno, rsw, Value.category, List.filter, List.take, List.drop, List.reverse, List.reverseAux, List.cons_append, List.nil_append, Option.toList, Int.toNat, Int.reduceToNat, if_pos, if_neg, reduceIte, ↓reduceIte, Nat.reduceAdd, Nat.reduceEqDiff, Nat.reduceBEq, beq_self_eq_true, Bool.not_true, Bool.not_false, Bool.and_true, Bool.and_false, Bool.true_and, Bool.false_and, gI_sI, gI_sL, gI_sA, gI_sM, gL_sI, gL_sL, gL_sA, gL_sM, aI_sI, aI_sL, aI_sA, aI_sM, aL_sI, aL_sL, aL_sA, aL_sM, Brun_0, Brun_4, Brun_12, Brun_17, Brun_24, Brun_26, Brun_33, Brun_36, Brun_103, Brun_113, Brun_115, Brun_125, Brun_167, Brun_177, Brun_184, Brun_195, Brun_203, Brun_212, Brun_217, Brun_226, Brun_230, Brun_234, oi_0, oi_1, oi_10, oi_2, oi_20000, oi_m1, oi_m2, P_begin, P_cast, P_count1, P_isGood, P_links, P_work]; try dsimp only
              refine ⟨rfl, ?_⟩
              apply hB
              dsimp only [rgo, rfd, Brun, Nat.beq, rwp, rst, lv_args, rlk, rs1, rs2, rdl, rky, rct, rcs, rcd, rno, rsw, Value.category, List.filter, List.take, List.drop, List.reverse, List.reverseAux, List.cons_append, List.nil_append, Option.toList, Int.toNat, Int.reduceToNat, if_pos, if_neg, reduceIte, ↓reduceIte, Nat.reduceAdd, Nat.reduceEqDiff, Nat.reduceBEq, beq_self_eq_true, Bool.not_true, Bool.not_false, Bool.and_true, Bool.and_false, Bool.true_and, Bool.false_and, gI_sI, gI_sL, gI_sA, gI_sM, gL_sI, gL_sL, gL_sA, gL_sM, aI_sI, aI_sL, aI_sA, aI_sM, aL_sI, aL_sL, aL_sA, aL_sM, Brun_0, Brun_4, Brun_12, Brun_17, Brun_24, Brun_26, Brun_33, Brun_36, Brun_103, Brun_113, Brun_115, Brun_125, Brun_167, Brun_177, Brun_184, Brun_195, Brun_203, Brun_212, Brun_217, Brun_226, Brun_230, Brun_234, oi_0, oi_1, oi_10, oi_2, oi_20000, oi_m1, oi_m2, P_begin, P_cast, P_count1, P_isGood, P_links, P_work]; try dsimp only
              refine ⟨trivial, ?_⟩
              exact ⟨_, rfl, Or.inr ⟨hr.1.1.1, hSo.tr hr.1.2.2.o, hr.1.2.1.2.1.1, hr.1.2.1.2.1.2⟩⟩
            · apply hB
              dsimp only [rgo, rfd, Brun, Nat.beq, rwp, rst, lv_args, rlk, rs1, rs2, rdl, rky, rct, rcs, rcd, rno, rsw, Value.category, List.filter, List.take, List.drop, List.reverse, List.reverseAux, List.cons_append, List.nil_append, Option.toList, Int.toNat, Int.reduceToNat, if_pos, if_neg, reduceIte, ↓reduceIte, Nat.reduceAdd, Nat.reduceEqDiff, Nat.reduceBEq, beq_self_eq_true, Bool.not_true, Bool.not_false, Bool.and_true, Bool.and_false, Bool.true_and, Bool.false_and, gI_sI, gI_sL, gI_sA, gI_sM, gL_sI, gL_sL, gL_sA, gL_sM, aI_sI, aI_sL, aI_sA, aI_sM, aL_sI, aL_sL, aL_sA, aL_sM, Brun_0, Brun_4, Brun_12, Brun_17, Brun_24, Brun_26, Brun_33, Brun_36, Brun_103, Brun_113, Brun_115, Brun_125, Brun_167, Brun_177, Brun_184, Brun_195, Brun_203, Brun_212, Brun_217, Brun_226, Brun_230, Brun_234, oi_0, oi_1, oi_10, oi_2, oi_20000, oi_m1, oi_m2, P_begin, P_cast, P_count1, P_isGood, P_links, P_work]; try dsimp only
              apply hB
              dsimp only [rgo, rfd, Brun, Nat.beq, rwp, rst, lv_args, rlk, rs1, rs2, rdl, rky, rct, rcs, rcd, rno, rsw, Value.category, List.filter, List.take, List.drop, List.reverse, List.reverseAux, List.cons_append, List.nil_append, Option.toList, Int.toNat, Int.reduceToNat, if_pos, if_neg, reduceIte, ↓reduceIte, Nat.reduceAdd, Nat.reduceEqDiff, Nat.reduceBEq, beq_self_eq_true, Bool.not_true, Bool.not_false, Bool.and_true, Bool.and_false, Bool.true_and, Bool.false_and, gI_sI, gI_sL, gI_sA, gI_sM, gL_sI, gL_sL, gL_sA, gL_sM, aI_sI, aI_sL, aI_sA, aI_sM, aL_sI, aL_sL, aL_sA, aL_sM, Brun_0, Brun_4, Brun_12, Brun_17, Brun_24, Brun_26, Brun_33, Brun_36, Brun_103, Brun_113, Brun_115, Brun_125, Brun_167, Brun_177, Brun_184, Brun_195, Brun_203, Brun_212, Brun_217, Brun_226, Brun_230, Brun_234, oi_0, oi_1, oi_10, oi_2, oi_20000, oi_m1, oi_m2, P_begin, P_cast, P_count1, P_isGood, P_links, P_work]; try dsimp only
              refine ⟨trivial, ?_⟩
              exact ⟨_, rfl, Or.inr ⟨hr.1.1.1, hSo.tr hr.1.2.2.o, hr.1.2.1.2.1.1, hr.1.2.1.2.1.2⟩⟩
          · apply hB
            dsimp only [rgo, rfd, Brun, Nat.beq, rwp, rst, lv_args, rlk, rs1, rs2, rdl, rky, rct, rcs, rcd, rno, rsw, Value.category, List.filter, List.take, List.drop, List.reverse, List.reverseAux, List.cons_append, List.nil_append, Option.toList, Int.toNat, Int.reduceToNat, if_pos, if_neg, reduceIte, ↓reduceIte, Nat.reduceAdd, Nat.reduceEqDiff, Nat.reduceBEq, beq_self_eq_true, Bool.not_true, Bool.not_false, Bool.and_true, Bool.and_false, Bool.true_and, Bool.false_and, gI_sI, gI_sL, gI_sA, gI_sM, gL_sI, gL_sL, gL_sA, gL_sM, aI_sI, aI_sL, aI_sA, aI_sM, aL_sI, aL_sL, aL_sA, aL_sM, Brun_0, Brun_4, Brun_12, Brun_17, Brun_24, Brun_26, Brun_33, Brun_36, Brun_103, Brun_113, Brun_115, Brun_125, Brun_167, Brun_177, Brun_184, Brun_195, Brun_203, Brun_212, Brun_217, Brun_226, Brun_230, Brun_234, oi_0, oi_1, oi_10, oi_2, oi_20000, oi_m1, oi_m2, P_begin, P_cast, P_count1, P_isGood, P_links, P_work]; try dsimp only
            refine ⟨rfl, fun h4 => ?_, fun h4 => ?_⟩
            · apply hB
              dsimp only [rgo, rfd, Brun, Nat.beq, rwp, rst, lv_args, rlk, rs1, rs2, rdl, rky, rct, rcs, rcd, rno, rsw, Value.category, List.filter, List.take, List.drop, List.reverse, List.reverseAux, List.cons_append, List.nil_append, Option.toList, Int.toNat, Int.reduceToNat, if_pos, if_neg, reduceIte, ↓reduceIte, Nat.reduceAdd, Nat.reduceEqDiff, Nat.reduceBEq, beq_self_eq_true, Bool.not_true, Bool.not_false, Bool.and_true, Bool.and_false, Bool.true_and, Bool.false_and, gI_sI, gI_sL, gI_sA, gI_sM, gL_sI, gL_sL, gL_sA, gL_sM, aI_sI, aI_sL, aI_sA, aI_sM, aL_sI, aL_sL, aL_sA, aL_sM, Brun_0, Brun_4, Brun_12, Brun_17, Brun_24, Brun_26, Brun_33, Brun_36, Brun_103, Brun_113, Brun_115, Brun_125, Brun_167, Brun_177, Brun_184, Brun_195, Brun_203, Brun_212, Brun_217, Brun_226, Brun_230, Brun_234, oi_0, oi_1, oi_10, oi_2, oi_20000, oi_m1, oi_m2, P_begin, P_cast, P_count1, P_isGood, P_links, P_work]; try dsimp only
              refine ⟨rfl, fun h5 => ?_, fun h5 => ?_⟩
              · apply hB
                dsimp only [rgo, rfd, Brun, Nat.beq, rwp, rst, lv_args, rlk, rs1, rs2, rdl, rky, rct, rcs, rcd, rno, rsw, Value.category, List.filter, List.take, List.drop, List.reverse, List.reverseAux, List.cons_append, List.nil_append, Option.toList, Int.toNat, Int.reduceToNat, if_pos, if_neg, reduceIte, ↓reduceIte, Nat.reduceAdd, Nat.reduceEqDiff, Nat.reduceBEq, beq_self_eq_true, Bool.not_true, Bool.not_false, Bool.and_true, Bool.and_false, Bool.true_and, Bool.false_and, gI_sI, gI_sL, gI_sA, gI_sM, gL_sI, gL_sL, gL_sA, gL_sM, aI_sI, aI_sL, aI_sA, aI_sM, aL_sI, aL_sL, aL_sA, aL_sM, Brun_0, Brun_4, Brun_12, Brun_17, Brun_24, Brun_26, Brun_33, Brun_36, Brun_103, Brun_113, Brun_115, Brun_125, Brun_167, Brun_177, Brun_184, Brun_195, Brun_203, Brun_212, Brun_217, Brun_226, Brun_230, Brun_234, oi_0, oi_1, oi_10, oi_2, oi_20000, oi_m1, oi_m2, P_begin, P_cast, P_count1, P_isGood, P_links, P_work]; try dsimp only
                refine ⟨rfl, ?_⟩
                apply hB
                dsimp only [rgo, rfd, Brun, Nat.beq, rwp, rst, lv_args, rlk, rs1, rs2, rdl, rky, rct, rcs, rcd, rno, rsw, Value.category, List.filter, List.take, List.drop, List.reverse, List.reverseAux, List.cons_append, List.nil_append, Option.toList, Int.toNat, Int.reduceToNat, if_pos, if_neg, reduceIte, ↓reduceIte, Nat.reduceAdd, Nat.reduceEqDiff, Nat.reduceBEq, beq_self_eq_true, Bool.not_true, Bool.not_false, Bool.and_true, Bool.and_false, Bool.true_and, Bool.false_and, gI_sI, gI_sL, gI_sA, gI_sM, gL_sI, gL_sL, gL_sA, gL_sM, aI_sI, aI_sL, aI_sA, aI_sM, aL_sI, aL_sL, aL_sA, aL_sM, Brun_0, Brun_4, Brun_12, Brun_17, Brun_24, Brun_26, Brun_33, Brun_36, Brun_103, Brun_113, Brun_115, Brun_125, Brun_167, Brun_177, Brun_184, Brun_195, Brun_203, Brun_212, Brun_217, Brun_226, Brun_230, Brun_234, oi_0, oi_1, oi_10, oi_2, oi_20000, oi_m1, oi_m2, P_begin, P_cast, P_count1, P_isGood, P_links, P_work]; try dsimp only
                refine ⟨trivial, ?_⟩
                exact ⟨_, rfl, Or.inr ⟨hr.1.1.1, hSo.tr hr.1.2.2.o, hr.1.2.1.2.1.1, hr.1.2.1.2.1.2⟩⟩
              · apply hB
                dsimp only [rgo, rfd, Brun, Nat.beq, rwp, rst, lv_args, rlk, rs1, rs2, rdl, rky, rct, rcs, rcd, rno, rsw, Value.category, List.filter, List.take, List.drop, List.reverse, List.reverseAux, List.cons_append, List.nil_append, Option.toList, Int.toNat, Int.reduceToNat, if_pos, if_neg, reduceIte, ↓reduceIte, Nat.reduceAdd, Nat.reduceEqDiff, Nat.reduceBEq, beq_self_eq_true, Bool.not_true, Bool.not_false, Bool.and_true, Bool.and_false, Bool.true_and, Bool.false_and, gI_sI, gI_sL, gI_sA, gI_sM, gL_sI, gL_sL, gL_sA, gL_sM, aI_sI, aI_sL, aI_sA, aI_sM, aL_sI, aL_sL, aL_sA, aL_sM, Brun_0, Brun_4, Brun_12, Brun_17, Brun_24, Brun_26, Brun_33, Brun_36, Brun_103, Brun_113, Brun_115, Brun_125, Brun_167, Brun_177, Brun_184, Brun_195, Brun_203, Brun_212, Brun_217, Brun_226, Brun_230, Brun_234, oi_0, oi_1, oi_10, oi_2, oi_20000, oi_m1, oi_m2, P_begin, P_cast, P_count1, P_isGood, P_links, P_work]; try dsimp only
                apply hB
                dsimp only [rgo, rfd, Brun, Nat.beq, rwp, rst, lv_args, rlk, rs1, rs2, rdl, rky, rct, rcs, rcd, rno, rsw, Value.category, List.filter, List.take, List.drop, List.reverse, List.reverseAux, List.cons_append, List.nil_append, Option.toList, Int.toNat, Int.reduceToNat, if_pos, if_neg, reduceIte, ↓reduceIte, Nat.reduceAdd, Nat.reduceEqDiff, Nat.reduceBEq, beq_self_eq_true, Bool.not_true, Bool.not_false, Bool.and_true, Bool.and_false, Bool.true_and, Bool.false_and, gI_sI, gI_sL, gI_sA, gI_sM, gL_sI, gL_sL, gL_sA, gL_sM, aI_sI, aI_sL, aI_sA, aI_sM, aL_sI, aL_sL, aL_sA, aL_sM, Brun_0, Brun_4, Brun_12, Brun_17, Brun_24, Brun_26, Brun_33, Brun_36, Brun_103, Brun_113, Brun_115, Brun_125, Brun_167, Brun_177, Brun_184, Brun_195, Brun_203, Brun_212, Brun_217, Brun_226, Brun_230, Brun_234, oi_0, oi_1, oi_10, oi_2, oi_20000, oi_m1, oi_m2, P_begin, P_cast, P_count1, P_isGood, P_links, P_work]; try dsimp only
                refine ⟨trivial, ?_⟩
                exact ⟨_, rfl, Or.inr ⟨hr.1.1.1, hSo.tr hr.1.2.2.o, hr.1.2.1.2.1.1, hr.1.2.1.2.1.2⟩⟩
            · apply hB
              dsimp only [rgo, rfd, Brun, Nat.beq, rwp, rst, lv_args, rlk, rs1, rs2, rdl, rky, rct, rcs, rcd, rno, rsw, Value.category, List.filter, List.take, List.drop, List.reverse, List.reverseAux, List.cons_append, List.nil_append, Option.toList, Int.toNat, Int.reduceToNat, if_pos, if_neg, reduceIte, ↓reduceIte, Nat.reduceAdd, Nat.reduceEqDiff, Nat.reduceBEq, beq_self_eq_true, Bool.not_true, Bool.not_false, Bool.and_true, Bool.and_false, Bool.true_and, Bool.false_and, gI_sI, gI_sL, gI_sA, gI_sM, gL_sI, gL_sL, gL_sA, gL_sM, aI_sI, aI_sL, aI_sA, aI_sM, aL_sI, aL_sL, aL_sA, aL_sM, Brun_0, Brun_4, Brun_12, Brun_17, Brun_24, Brun_26, Brun_33, Brun_36, Brun_103, Brun_113, Brun_115, Brun_125, Brun_167, Brun_177, Brun_184, Brun_195, Brun_203, Brun_212, Brun_217, Brun_226, Brun_230, Brun_234, oi_0, oi_1, oi_10, oi_2, oi_20000, oi_m1, oi_m2, P_begin, P_cast, P_count1, P_isGood, P_links, P_work]; try dsimp only
              refine ⟨rfl, ?_⟩
              apply hB
              dsimp only [rgo, rfd, Brun, Nat.beq, rwp, rst, lv_args, rlk, rs1, rs2, rdl, rky, rct, rcs, rcd, rno, rsw, Value.category, List.filter, List.take, List.drop, List.reverse, List.reverseAux, List.cons_append, List.nil_append, Option.toList, Int.toNat, Int.reduceToNat, if_pos, if_neg, reduceIte, ↓reduceIte, Nat.reduceAdd, Nat.reduceEqDiff, Nat.reduceBEq, beq_self_eq_true, Bool.not_true, Bool.not_false, Bool.and_true, Bool.and_false, Bool.true_and, Bool.false_and, gI_sI, gI_sL, gI_sA, gI_sM, gL_sI, gL_sL, gL_sA, gL_sM, aI_sI, aI_sL, aI_sA, aI_sM, aL_sI, aL_sL, aL_sA, aL_sM, Brun_0, Brun_4, Brun_12, Brun_17, Brun_24, Brun_26, Brun_33, Brun_36, Brun_103, Brun_113, Brun_115, Brun_125, Brun_167, Brun_177, Brun_184, Brun_195, Brun_203, Brun_212, Brun_217, Brun_226, Brun_230, Brun_234, oi_0, oi_1, oi_10, oi_2, oi_20000, oi_m1, oi_m2, P_begin, P_cast, P_count1, P_isGood, P_links, P_work]; try dsimp only
              refine ⟨rfl, fun h6 => ?_, fun h6 => ?_⟩
              · apply hB
                dsimp only [rgo, rfd, Brun, Nat.beq, rwp, rst, lv_args, rlk, rs1, rs2, rdl, rky, rct, rcs, rcd, rno, rsw, Value.category, List.filter, List.take, List.drop, List.reverse, List.reverseAux, List.cons_append, List.nil_append, Option.toList, Int.toNat, Int.reduceToNat, if_pos, if_neg, reduceIte, ↓reduceIte, Nat.reduceAdd, Nat.reduceEqDiff, Nat.reduceBEq, beq_self_eq_true, Bool.not_true, Bool.not_false, Bool.and_true, Bool.and_false, Bool.true_and, Bool.false_and, gI_sI, gI_sL, gI_sA, gI_sM, gL_sI, gL_sL, gL_sA, gL_sM, aI_sI, aI_sL, aI_sA, aI_sM, aL_sI, aL_sL, aL_sA, aL_sM, Brun_0, Brun_4, Brun_12, Brun_17, Brun_24, Brun_26, Brun_33, Brun_36, Brun_103, Brun_113, Brun_115, Brun_125, Brun_167, Brun_177, Brun_184, Brun_195, Brun_203, Brun_212, Brun_217, Brun_226, Brun_230, Brun_234, oi_0, oi_1, oi_10, oi_2, oi_20000, oi_m1, oi_m2, P_begin, P_cast, P_count1, P_isGood, P_links, P_work]; try dsimp only
                refine ⟨rfl, ?_⟩
                apply hB
                dsimp only [rgo, rfd, Brun, Nat.beq, rwp, rst, lv_args, rlk, rs1, rs2, rdl, rky, rct, rcs, rcd, rno, rsw, Value.category, List.filter, List.take, List.drop, List.reverse, List.reverseAux, List.cons_append, List.nil_append, Option.toList, Int.toNat, Int.reduceToNat, if_pos, if_neg, reduceIte, ↓reduceIte, Nat.reduceAdd, Nat.reduceEqDiff, Nat.reduceBEq, beq_self_eq_true, Bool.not_true, Bool.not_false, Bool.and_true, Bool.and_false, Bool.true_and, Bool.false_and, gI_sI, gI_sL, gI_sA, gI_sM, gL_sI, gL_sL, gL_sA, gL_sM, aI_sI, aI_sL, aI_sA, aI_sM, aL_sI, aL_sL, aL_sA, aL_sM, Brun_0, Brun_4, Brun_12, Brun_17, Brun_24, Brun_26, Brun_33, Brun_36, Brun_103, Brun_113, Brun_115, Brun_125, Brun_167, Brun_177, Brun_184, Brun_195, Brun_203, Brun_212, Brun_217, Brun_226, Brun_230, Brun_234, oi_0, oi_1, oi_10, oi_2, oi_20000, oi_m1, oi_m2, P_begin, P_cast, P_count1, P_isGood, P_links, P_work]; try dsimp only
                refine ⟨trivial, ?_⟩
                exact ⟨_, rfl, Or.inr ⟨hr.1.1.1.fz (Fz.rf.g rfl), hSo.tr (hr.1.2.2.o.g rfl), hr.1.2.1.2.1.1, hr.1.2.1.2.1.2⟩⟩
              · apply hB
                dsimp only [rgo, rfd, Brun, Nat.beq, rwp, rst, lv_args, rlk, rs1, rs2, rdl, rky, rct, rcs, rcd, rno, rsw, Value.category, List.filter, List.take, List.drop, List.reverse, List.reverseAux, List.cons_append, List.nil_append, Option.toList, Int.toNat, Int.reduceToNat, if_pos, if_neg, reduceIte, ↓reduceIte, Nat.reduceAdd, Nat.reduceEqDiff, Nat.reduceBEq, beq_self_eq_true, Bool.not_true, Bool.not_false, Bool.and_true, Bool.and_false, Bool.true_and, Bool.false_and, gI_sI, gI_sL, gI_sA, gI_sM, gL_sI, gL_sL, gL_sA, gL_sM, aI_sI, aI_sL, aI_sA, aI_sM, aL_sI, aL_sL, aL_sA, aL_sM, Brun_0, Brun_4, Brun_12, Brun_17, Brun_24, Brun_26, Brun_33, Brun_36, Brun_103, Brun_113, Brun_115, Brun_125, Brun_167, Brun_177, Brun_184, Brun_195, Brun_203, Brun_212, Brun_217, Brun_226, Brun_230, Brun_234, oi_0, oi_1, oi_10, oi_2, oi_20000, oi_m1, oi_m2, P_begin, P_cast, P_count1, P_isGood, P_links, P_work]; try dsimp only
                apply hB
                dsimp only [rgo, rfd, Brun, Nat.beq, rwp, rst, lv_args, rlk, rs1, rs2, rdl, rky, rct, rcs, rcd, rno, rsw, Value.category, List.filter, List.take, List.drop, List.reverse, List.reverseAux, List.cons_append, List.nil_append, Option.toList, Int.toNat, Int.reduceToNat, if_pos, if_neg, reduceIte, ↓reduceIte, Nat.reduceAdd, Nat.reduceEqDiff, Nat.reduceBEq, beq_self_eq_true, Bool.not_true, Bool.not_false, Bool.and_true, Bool.and_false, Bool.true_and, Bool.false_and, gI_sI, gI_sL, gI_sA, gI_sM, gL_sI, gL_sL, gL_sA, gL_sM, aI_sI, aI_sL, aI_sA, aI_sM, aL_sI, aL_sL, aL_sA, aL_sM, Brun_0, Brun_4, Brun_12, Brun_17, Brun_24, Brun_26, Brun_33, Brun_36, Brun_103, Brun_113, Brun_115, Brun_125, Brun_167, Brun_177, Brun_184, Brun_195, Brun_203, Brun_212, Brun_217, Brun_226, Brun_230, Brun_234, oi_0, oi_1, oi_10, oi_2, oi_20000, oi_m1, oi_m2, P_begin, P_cast, P_count1, P_isGood, P_links, P_work]; try dsimp only
                refine ⟨trivial, ?_⟩
                exact ⟨_, rfl, Or.inr ⟨hr.1.1.1.fz (Fz.rf.g rfl), hSo.tr (hr.1.2.2.o.g rfl), hr.1.2.1.2.1.1, hr.1.2.1.2.1.2⟩⟩
        · exfalso; lia
      have t177 : ∀ S : RS, Fo σ S → ∀ (n : Nat) (X : RS), MU0 X = n → RLw S X → G 177 [(0, .ref 1000), (1, .int m), (2, .int limit)] [] X := by
        intro S hSo n
        induction n using Nat.strongRecOn with
        | ind n loop =>
          intro X hk hr
          by_cases h0 : gI X 142 = 0
          · skip
            apply hB
            dsimp only [rgo, rfd, Brun, Nat.beq, rwp, rst, lv_args, rlk, rs1, rs2, rdl, rky, rct, rcs, rcd, rno, rsw, Value.category, List.filter, List.take, List.drop, List.reverse, List.reverseAux, List.cons_append, List.nil_append, Option.toList, Int.toNat, Int.reduceToNat, if_pos, if_neg, reduceIte, ↓reduceIte, Nat.reduceAdd, Nat.reduceEqDiff, Nat.reduceBEq, beq_self_eq_true, Bool.not_true, Bool.not_false, Bool.and_true, Bool.and_false, Bool.true_and, Bool.false_and, gI_sI, gI_sL, gI_sA, gI_sM, gL_sI, gL_sL, gL_sA, gL_sM, aI_sI, aI_sL, aI_sA, aI_sM, aL_sI, aL_sL, aL_sA, aL_sM, Brun_0, Brun_4, Brun_12, Brun_17, Brun_24, Brun_26, Brun_33, Brun_36, Brun_103, Brun_113, Brun_115, Brun_125, Brun_167, Brun_177, Brun_184, Brun_195, Brun_203, Brun_212, Brun_217, Brun_226, Brun_230, Brun_234, oi_0, oi_1, oi_10, oi_2, oi_20000, oi_m1, oi_m2, P_begin, P_cast, P_count1, P_isGood, P_links, P_work]; try dsimp only
            refine ⟨rfl, fun h1 => ?_, fun h1 => ?_⟩
            · exfalso; lia
            · apply hB
              dsimp only [rgo, rfd, Brun, Nat.beq, rwp, rst, lv_args, rlk, rs1, rs2, rdl, rky, rct, rcs, rcd, rno, rsw, Value.category, List.filter, List.take, List.drop, List.reverse, List.reverseAux, List.cons_append, List.nil_append, Option.toList, Int.toNat, Int.reduceToNat, if_pos, if_neg, reduceIte, ↓reduceIte, Nat.reduceAdd, Nat.reduceEqDiff, Nat.reduceBEq, beq_self_eq_true, Bool.not_true, Bool.not_false, Bool.and_true, Bool.and_false, Bool.true_and, Bool.false_and, gI_sI, gI_sL, gI_sA, gI_sM, gL_sI, gL_sL, gL_sA, gL_sM, aI_sI, aI_sL, aI_sA, aI_sM, aL_sI, aL_sL, aL_sA, aL_sM, Brun_0, Brun_4, Brun_12, Brun_17, Brun_24, Brun_26, Brun_33, Brun_36, Brun_103, Brun_113, Brun_115, Brun_125, Brun_167, Brun_177, Brun_184, Brun_195, Brun_203, Brun_212, Brun_217, Brun_226, Brun_230, Brun_234, oi_0, oi_1, oi_10, oi_2, oi_20000, oi_m1, oi_m2, P_begin, P_cast, P_count1, P_isGood, P_links, P_work]; try dsimp only
              refine ⟨rfl, rfl, (by decide), (⟨hr.1.1, hr.1.2.1, h0, hr.2.elim (fun q => absurd h0 q) (fun q => q.2), rfl⟩), fun w2 τ2 hq2 => ?_⟩
              obtain ⟨rfl, hqw⟩ := hq2
              dsimp only [Option.toList, List.cons_append, List.nil_append, Nat.beq, gI_sI, gI_sL, gI_sA, gI_sM, gL_sI, gL_sL, gL_sA, gL_sM, aI_sI, aI_sL, aI_sA, aI_sM, aL_sI, aL_sL, aL_sA, aL_sM]
              have hon := hr.on h0 hqw
              by_cases e0 : gI τ2 142 = 0
              · exact hW 177 [(0, .ref 1000), (1, .int m), (2, .int limit)] _ _ _ (by simp [rdl, rky]) (loop _ (by rw [← hk]; exact hon.2 e0) τ2 rfl hon.1)
              · exact hW 177 [(0, .ref 1000), (1, .int m), (2, .int limit)] _ _ _ (by simp [rdl, rky]) (t195 S hSo τ2 e0 hon.1)
          · exact t195 S hSo X h0 hr
      have t113 : ∀ A B S : RS, JD A → Fg σ A → gI A 66 = 0 → LQ A B → (0 ≤ m ∧ m < gI σ 36) → (1 ≤ limit ∧ limit ≤ 20000) → S = (sI (sA (sA (sI (sI (sI (sI (sI (sI (sI (sI (sI (sL (sI (sI B 121 1) 142 0) 143 0) 144 0) 145 limit) 146 0) 147 (-2)) 148 0) 128 0) 129 0) 133 0) 144 (0 + 1)) 132 (upd (aI B 132) (0 : Int32).toNatClampNeg m)) 131 (upd (aI B 131) (0 : Int32).toNatClampNeg (-2))) 129 (0 + 1)) → G 113 [(0, .ref 1000), (1, .int m), (2, .int limit)] [] S := by
        intro A B S hJ hfg h66 hlq hm hli hSe
        have hGB := hlq.rg hJ h66
        have hm0 := hm.1
        have hm1 := hm.2
        have b36 : gI B 36 = gI σ 36 := (hlq.1 36).trans (hfg.1 36 rfl)
        have b123 : gI B 123 = gI σ 123 := (hlq.1 123).trans (hfg.1 123 rfl)
        have hRf : Rf B S := by
          rw [hSe]
          (repeat (first | exact Rf.rf | refine Rf.a ?_ rfl | refine Rf.i ?_ rfl | refine Rf.g ?_ rfl | refine Rf.m ?_ rfl))
        have r125 : aI S 125 = aI B 125 := by rw [hSe]; rfl
        have hGS := hGB.rf hRf r125
        have hSo : Fo σ S := (hfg.o.tr hlq.rf.o).tr hRf.o
        have k36 : gI S 36 = gI σ 36 := (hRf.1 36 rfl).trans b36
        have k123 : gI S 123 = gI σ 123 := (hRf.1 123 rfl).trans b123
        have k144 : gI S 144 = 1 := by rw [hSe]; rfl
        have k145 : gI S 145 = limit := by rw [hSe]; rfl
        have k146 : gI S 146 = 0 := by rw [hSe]; rfl
        have k148 : gI S 148 = 0 := by rw [hSe]; rfl
        have k142 : gI S 142 = 0 := by rw [hSe]; rfl
        have k129 : gI S 129 = 1 := by rw [hSe]; rfl
        have k128 : gI S 128 = 0 := by rw [hSe]; rfl
        have k133 : gI S 133 = 0 := by rw [hSe]; rfl
        have k132 : aI S 132 0 = m := by rw [hSe]; rfl
        clear hSe
        have hCNS : CN S := by
          unfold CN
          rw [k144, k145, k146, k148, k123]
          exact ⟨⟨by decide, hli.1, hli.2⟩, ⟨by decide, by decide⟩, ⟨by decide, by decide⟩, hin⟩
        have hMT : (0 ≤ aI B 39 m.toNatClampNeg ∧ aI B 39 m.toNatClampNeg ≤ 6) ∧ (0 ≤ aI B 40 m.toNatClampNeg ∧ aI B 40 m.toNatClampNeg + aI B 39 m.toNatClampNeg ≤ 60 ∧ aI B 40 m.toNatClampNeg ≤ 60) := by
          have hmn : nT m < nT (gI B 36) := nT_lt hm0 (by rw [b36]; exact hm1)
          have hv42 := hGB.k.j.v
          obtain ⟨f, kk, j, hp⟩ := hGB.k
          have q := hp.2.2.2.2.2.2.2.2.1.2 (nT m) hmn
          have q2 : 0 ≤ aI B 39 (nT m) ∧ aI B 39 (nT m) ≤ 6 := q.2.1
          have q3 : 0 ≤ aI B 40 (nT m) ∧ aI B 40 (nT m) + aI B 39 (nT m) ≤ gI B 42 ∧ aI B 40 (nT m) ≤ gI B 42 := q.2.2.1
          exact ⟨q2, q3.1, Int32.le_trans q3.2.1 hv42.2, Int32.le_trans q3.2.2 hv42.2⟩
        have hm10 : m < 10 := by
          have := hGB.k.j.m
          rw [b36] at this
          lia
        have r39 : aI S 39 = aI B 39 := hRf.2.2.1 39 rfl
        have r40 : aI S 40 = aI B 40 := hRf.2.2.1 40 rfl
        have loop : ∀ n : Nat, ∀ (i : Int32) (f : Nat → Int64), (4000 - i.toInt).toNat = n → (0 ≤ i ∧ i ≤ 6) → G 115 [(0, .ref 1000), (1, .int m), (2, .int limit), (3, .int i)] [] (sM S 130 f) := by
          intro n
          induction n using Nat.strongRecOn with
          | ind n loop =>
            intro i f hk hi
            have hq39 : 0 ≤ aI S 39 m.toNatClampNeg ∧ aI S 39 m.toNatClampNeg ≤ 6 := by rw [r39]; exact hMT.1
            apply hB
            dsimp only [rgo, rfd, Brun, Nat.beq, rwp, rst, lv_args, rlk, rs1, rs2, rdl, rky, rct, rcs, rcd, rno, rsw, Value.category, List.filter, List.take, List.drop, List.reverse, List.reverseAux, List.cons_append, List.nil_append, Option.toList, Int.toNat, Int.reduceToNat, if_pos, if_neg, reduceIte, ↓reduceIte, Nat.reduceAdd, Nat.reduceEqDiff, Nat.reduceBEq, beq_self_eq_true, Bool.not_true, Bool.not_false, Bool.and_true, Bool.and_false, Bool.true_and, Bool.false_and, gI_sI, gI_sL, gI_sA, gI_sM, gL_sI, gL_sL, gL_sA, gL_sM, aI_sI, aI_sL, aI_sA, aI_sM, aL_sI, aL_sL, aL_sA, aL_sM, Brun_0, Brun_4, Brun_12, Brun_17, Brun_24, Brun_26, Brun_33, Brun_36, Brun_103, Brun_113, Brun_115, Brun_125, Brun_167, Brun_177, Brun_184, Brun_195, Brun_203, Brun_212, Brun_217, Brun_226, Brun_230, Brun_234, oi_0, oi_1, oi_10, oi_2, oi_20000, oi_m1, oi_m2, P_begin, P_cast, P_count1, P_isGood, P_links, P_work]; try dsimp only
            refine ⟨rfl, rfl, (in_39 (by lia) (by lia)), fun h1 => ?_, fun h1 => ?_⟩
            · apply hB
              dsimp only [rgo, rfd, Brun, Nat.beq, rwp, rst, lv_args, rlk, rs1, rs2, rdl, rky, rct, rcs, rcd, rno, rsw, Value.category, List.filter, List.take, List.drop, List.reverse, List.reverseAux, List.cons_append, List.nil_append, Option.toList, Int.toNat, Int.reduceToNat, if_pos, if_neg, reduceIte, ↓reduceIte, Nat.reduceAdd, Nat.reduceEqDiff, Nat.reduceBEq, beq_self_eq_true, Bool.not_true, Bool.not_false, Bool.and_true, Bool.and_false, Bool.true_and, Bool.false_and, gI_sI, gI_sL, gI_sA, gI_sM, gL_sI, gL_sL, gL_sA, gL_sM, aI_sI, aI_sL, aI_sA, aI_sM, aL_sI, aL_sL, aL_sA, aL_sM, Brun_0, Brun_4, Brun_12, Brun_17, Brun_24, Brun_26, Brun_33, Brun_36, Brun_103, Brun_113, Brun_115, Brun_125, Brun_167, Brun_177, Brun_184, Brun_195, Brun_203, Brun_212, Brun_217, Brun_226, Brun_230, Brun_234, oi_0, oi_1, oi_10, oi_2, oi_20000, oi_m1, oi_m2, P_begin, P_cast, P_count1, P_isGood, P_links, P_work]; try dsimp only
              refine ⟨rfl, rfl, (in_41 (by lia) (by lia)), rfl, ?_⟩
              refine hW 177 [(0, .ref 1000), (1, .int m), (2, .int limit)] _ _ _ (by simp [rdl, rky]) (t177 S hSo _ _ rfl ⟨⟨?_, ?_, ?_⟩, Or.inr ⟨k142, ?_⟩⟩)
              · exact hGS.fz ((Fz.rf.m rfl).i rfl)
              · exact hCNS.ry ((Ry.rf.m rfl).i rfl)
              · exact (Fz.rf.m rfl).i rfl
              · exact RA.beg (m := m) (hGS.fz ((Fz.rf.m rfl).i rfl)) ⟨hm0, by show m < gI S 36; rw [k36]; exact hm1⟩ k129 k128 k133 k132 (by show aI S 41 _ = _; rfl)
            · have hq40 : 0 ≤ aI S 40 m.toNatClampNeg + i ∧ aI S 40 m.toNatClampNeg + i < 60 := by rw [r40]; rw [r39] at *; exact ⟨by lia, by lia⟩
              apply hB
              dsimp only [rgo, rfd, Brun, Nat.beq, rwp, rst, lv_args, rlk, rs1, rs2, rdl, rky, rct, rcs, rcd, rno, rsw, Value.category, List.filter, List.take, List.drop, List.reverse, List.reverseAux, List.cons_append, List.nil_append, Option.toList, Int.toNat, Int.reduceToNat, if_pos, if_neg, reduceIte, ↓reduceIte, Nat.reduceAdd, Nat.reduceEqDiff, Nat.reduceBEq, beq_self_eq_true, Bool.not_true, Bool.not_false, Bool.and_true, Bool.and_false, Bool.true_and, Bool.false_and, gI_sI, gI_sL, gI_sA, gI_sM, gL_sI, gL_sL, gL_sA, gL_sM, aI_sI, aI_sL, aI_sA, aI_sM, aL_sI, aL_sL, aL_sA, aL_sM, Brun_0, Brun_4, Brun_12, Brun_17, Brun_24, Brun_26, Brun_33, Brun_36, Brun_103, Brun_113, Brun_115, Brun_125, Brun_167, Brun_177, Brun_184, Brun_195, Brun_203, Brun_212, Brun_217, Brun_226, Brun_230, Brun_234, oi_0, oi_1, oi_10, oi_2, oi_20000, oi_m1, oi_m2, P_begin, P_cast, P_count1, P_isGood, P_links, P_work]; try dsimp only
              refine ⟨rfl, rfl, rfl, (in_40 (by lia) (by lia)), rfl, rfl, rfl, (in_40 (by lia) (by lia)), rfl, (in_44 hq40.1 (by lia)), rfl, rfl, (in_124 (by lia) (by lia)), rfl, (by decide), (trivial), fun w2 τ2 hq2 => ?_⟩
              obtain ⟨r2, rfl, e2⟩ := hq2
              obtain rfl := e2.symm
              dsimp only [Option.toList, List.cons_append, List.nil_append, Nat.beq, gI_sI, gI_sL, gI_sA, gI_sM, gL_sI, gL_sL, gL_sA, gL_sM, aI_sI, aI_sL, aI_sA, aI_sM, aL_sI, aL_sL, aL_sA, aL_sM]
              refine ⟨rfl, (in_130 hq40.1 (by lia)), ?_⟩
              refine hW 115 [(0, .ref 1000), (1, .int m), (2, .int limit), (3, .int (i + 1))] _ _ _ (by simp [rdl, rky]) (?_)
              rw [sM_sM]
              refine loop _ ?_ (i + 1) _ rfl ⟨by lia, by lia⟩
              exact mlt4 hk (by lia) (by lia)
        apply hB
        dsimp only [rgo, rfd, Brun, Nat.beq, rwp, rst, lv_args, rlk, rs1, rs2, rdl, rky, rct, rcs, rcd, rno, rsw, Value.category, List.filter, List.take, List.drop, List.reverse, List.reverseAux, List.cons_append, List.nil_append, Option.toList, Int.toNat, Int.reduceToNat, if_pos, if_neg, reduceIte, ↓reduceIte, Nat.reduceAdd, Nat.reduceEqDiff, Nat.reduceBEq, beq_self_eq_true, Bool.not_true, Bool.not_false, Bool.and_true, Bool.and_false, Bool.true_and, Bool.false_and, gI_sI, gI_sL, gI_sA, gI_sM, gL_sI, gL_sL, gL_sA, gL_sM, aI_sI, aI_sL, aI_sA, aI_sM, aL_sI, aL_sL, aL_sA, aL_sM, Brun_0, Brun_4, Brun_12, Brun_17, Brun_24, Brun_26, Brun_33, Brun_36, Brun_103, Brun_113, Brun_115, Brun_125, Brun_167, Brun_177, Brun_184, Brun_195, Brun_203, Brun_212, Brun_217, Brun_226, Brun_230, Brun_234, oi_0, oi_1, oi_10, oi_2, oi_20000, oi_m1, oi_m2, P_begin, P_cast, P_count1, P_isGood, P_links, P_work]; try dsimp only
        refine hW 115 [(0, .ref 1000), (1, .int m), (2, .int limit), (3, .int 0)] _ _ _ (by simp [rdl, rky]) ?_
        have e : S = sM S 130 (aL S 130) := sM_id.symm
        rw [e]
        exact loop _ 0 _ rfl ⟨by decide, by decide⟩
      apply hB
      dsimp only [rgo, rfd, Brun, Nat.beq, rwp, rst, lv_args, rlk, rs1, rs2, rdl, rky, rct, rcs, rcd, rno, rsw, Value.category, List.filter, List.take, List.drop, List.reverse, List.reverseAux, List.cons_append, List.nil_append, Option.toList, Int.toNat, Int.reduceToNat, if_pos, if_neg, reduceIte, ↓reduceIte, Nat.reduceAdd, Nat.reduceEqDiff, Nat.reduceBEq, beq_self_eq_true, Bool.not_true, Bool.not_false, Bool.and_true, Bool.and_false, Bool.true_and, Bool.false_and, gI_sI, gI_sL, gI_sA, gI_sM, gL_sI, gL_sL, gL_sA, gL_sM, aI_sI, aI_sL, aI_sA, aI_sM, aL_sI, aL_sL, aL_sA, aL_sM, Brun_0, Brun_4, Brun_12, Brun_17, Brun_24, Brun_26, Brun_33, Brun_36, Brun_103, Brun_113, Brun_115, Brun_125, Brun_167, Brun_177, Brun_184, Brun_195, Brun_203, Brun_212, Brun_217, Brun_226, Brun_230, Brun_234, oi_0, oi_1, oi_10, oi_2, oi_20000, oi_m1, oi_m2, P_begin, P_cast, P_count1, P_isGood, P_links, P_work]; try dsimp only
      refine ⟨fun h1 => ?_, fun h1 => ?_⟩
      · apply hB
        dsimp only [rgo, rfd, Brun, Nat.beq, rwp, rst, lv_args, rlk, rs1, rs2, rdl, rky, rct, rcs, rcd, rno, rsw, Value.category, List.filter, List.take, List.drop, List.reverse, List.reverseAux, List.cons_append, List.nil_append, Option.toList, Int.toNat, Int.reduceToNat, if_pos, if_neg, reduceIte, ↓reduceIte, Nat.reduceAdd, Nat.reduceEqDiff, Nat.reduceBEq, beq_self_eq_true, Bool.not_true, Bool.not_false, Bool.and_true, Bool.and_false, Bool.true_and, Bool.false_and, gI_sI, gI_sL, gI_sA, gI_sM, gL_sI, gL_sL, gL_sA, gL_sM, aI_sI, aI_sL, aI_sA, aI_sM, aL_sI, aL_sL, aL_sA, aL_sM, Brun_0, Brun_4, Brun_12, Brun_17, Brun_24, Brun_26, Brun_33, Brun_36, Brun_103, Brun_113, Brun_115, Brun_125, Brun_167, Brun_177, Brun_184, Brun_195, Brun_203, Brun_212, Brun_217, Brun_226, Brun_230, Brun_234, oi_0, oi_1, oi_10, oi_2, oi_20000, oi_m1, oi_m2, P_begin, P_cast, P_count1, P_isGood, P_links, P_work]; try dsimp only
        refine ⟨trivial, ?_⟩
        exact ⟨_, rfl, Or.inl rfl⟩
      · apply hB
        dsimp only [rgo, rfd, Brun, Nat.beq, rwp, rst, lv_args, rlk, rs1, rs2, rdl, rky, rct, rcs, rcd, rno, rsw, Value.category, List.filter, List.take, List.drop, List.reverse, List.reverseAux, List.cons_append, List.nil_append, Option.toList, Int.toNat, Int.reduceToNat, if_pos, if_neg, reduceIte, ↓reduceIte, Nat.reduceAdd, Nat.reduceEqDiff, Nat.reduceBEq, beq_self_eq_true, Bool.not_true, Bool.not_false, Bool.and_true, Bool.and_false, Bool.true_and, Bool.false_and, gI_sI, gI_sL, gI_sA, gI_sM, gL_sI, gL_sL, gL_sA, gL_sM, aI_sI, aI_sL, aI_sA, aI_sM, aL_sI, aL_sL, aL_sA, aL_sM, Brun_0, Brun_4, Brun_12, Brun_17, Brun_24, Brun_26, Brun_33, Brun_36, Brun_103, Brun_113, Brun_115, Brun_125, Brun_167, Brun_177, Brun_184, Brun_195, Brun_203, Brun_212, Brun_217, Brun_226, Brun_230, Brun_234, oi_0, oi_1, oi_10, oi_2, oi_20000, oi_m1, oi_m2, P_begin, P_cast, P_count1, P_isGood, P_links, P_work]; try dsimp only
        refine ⟨rfl, fun h2 => ?_, fun h2 => ?_⟩
        · apply hB
          dsimp only [rgo, rfd, Brun, Nat.beq, rwp, rst, lv_args, rlk, rs1, rs2, rdl, rky, rct, rcs, rcd, rno, rsw, Value.category, List.filter, List.take, List.drop, List.reverse, List.reverseAux, List.cons_append, List.nil_append, Option.toList, Int.toNat, Int.reduceToNat, if_pos, if_neg, reduceIte, ↓reduceIte, Nat.reduceAdd, Nat.reduceEqDiff, Nat.reduceBEq, beq_self_eq_true, Bool.not_true, Bool.not_false, Bool.and_true, Bool.and_false, Bool.true_and, Bool.false_and, gI_sI, gI_sL, gI_sA, gI_sM, gL_sI, gL_sL, gL_sA, gL_sM, aI_sI, aI_sL, aI_sA, aI_sM, aL_sI, aL_sL, aL_sA, aL_sM, Brun_0, Brun_4, Brun_12, Brun_17, Brun_24, Brun_26, Brun_33, Brun_36, Brun_103, Brun_113, Brun_115, Brun_125, Brun_167, Brun_177, Brun_184, Brun_195, Brun_203, Brun_212, Brun_217, Brun_226, Brun_230, Brun_234, oi_0, oi_1, oi_10, oi_2, oi_20000, oi_m1, oi_m2, P_begin, P_cast, P_count1, P_isGood, P_links, P_work]; try dsimp only
          refine ⟨trivial, ?_⟩
          exact ⟨_, rfl, Or.inl rfl⟩
        · apply hB
          dsimp only [rgo, rfd, Brun, Nat.beq, rwp, rst, lv_args, rlk, rs1, rs2, rdl, rky, rct, rcs, rcd, rno, rsw, Value.category, List.filter, List.take, List.drop, List.reverse, List.reverseAux, List.cons_append, List.nil_append, Option.toList, Int.toNat, Int.reduceToNat, if_pos, if_neg, reduceIte, ↓reduceIte, Nat.reduceAdd, Nat.reduceEqDiff, Nat.reduceBEq, beq_self_eq_true, Bool.not_true, Bool.not_false, Bool.and_true, Bool.and_false, Bool.true_and, Bool.false_and, gI_sI, gI_sL, gI_sA, gI_sM, gL_sI, gL_sL, gL_sA, gL_sM, aI_sI, aI_sL, aI_sA, aI_sM, aL_sI, aL_sL, aL_sA, aL_sM, Brun_0, Brun_4, Brun_12, Brun_17, Brun_24, Brun_26, Brun_33, Brun_36, Brun_103, Brun_113, Brun_115, Brun_125, Brun_167, Brun_177, Brun_184, Brun_195, Brun_203, Brun_212, Brun_217, Brun_226, Brun_230, Brun_234, oi_0, oi_1, oi_10, oi_2, oi_20000, oi_m1, oi_m2, P_begin, P_cast, P_count1, P_isGood, P_links, P_work]; try dsimp only
          refine ⟨fun h3 => ?_, fun h3 => ?_⟩
          · apply hB
            dsimp only [rgo, rfd, Brun, Nat.beq, rwp, rst, lv_args, rlk, rs1, rs2, rdl, rky, rct, rcs, rcd, rno, rsw, Value.category, List.filter, List.take, List.drop, List.reverse, List.reverseAux, List.cons_append, List.nil_append, Option.toList, Int.toNat, Int.reduceToNat, if_pos, if_neg, reduceIte, ↓reduceIte, Nat.reduceAdd, Nat.reduceEqDiff, Nat.reduceBEq, beq_self_eq_true, Bool.not_true, Bool.not_false, Bool.and_true, Bool.and_false, Bool.true_and, Bool.false_and, gI_sI, gI_sL, gI_sA, gI_sM, gL_sI, gL_sL, gL_sA, gL_sM, aI_sI, aI_sL, aI_sA, aI_sM, aL_sI, aL_sL, aL_sA, aL_sM, Brun_0, Brun_4, Brun_12, Brun_17, Brun_24, Brun_26, Brun_33, Brun_36, Brun_103, Brun_113, Brun_115, Brun_125, Brun_167, Brun_177, Brun_184, Brun_195, Brun_203, Brun_212, Brun_217, Brun_226, Brun_230, Brun_234, oi_0, oi_1, oi_10, oi_2, oi_20000, oi_m1, oi_m2, P_begin, P_cast, P_count1, P_isGood, P_links, P_work]; try dsimp only
            refine ⟨trivial, ?_⟩
            exact ⟨_, rfl, Or.inl rfl⟩
          · apply hB
            dsimp only [rgo, rfd, Brun, Nat.beq, rwp, rst, lv_args, rlk, rs1, rs2, rdl, rky, rct, rcs, rcd, rno, rsw, Value.category, List.filter, List.take, List.drop, List.reverse, List.reverseAux, List.cons_append, List.nil_append, Option.toList, Int.toNat, Int.reduceToNat, if_pos, if_neg, reduceIte, ↓reduceIte, Nat.reduceAdd, Nat.reduceEqDiff, Nat.reduceBEq, beq_self_eq_true, Bool.not_true, Bool.not_false, Bool.and_true, Bool.and_false, Bool.true_and, Bool.false_and, gI_sI, gI_sL, gI_sA, gI_sM, gL_sI, gL_sL, gL_sA, gL_sM, aI_sI, aI_sL, aI_sA, aI_sM, aL_sI, aL_sL, aL_sA, aL_sM, Brun_0, Brun_4, Brun_12, Brun_17, Brun_24, Brun_26, Brun_33, Brun_36, Brun_103, Brun_113, Brun_115, Brun_125, Brun_167, Brun_177, Brun_184, Brun_195, Brun_203, Brun_212, Brun_217, Brun_226, Brun_230, Brun_234, oi_0, oi_1, oi_10, oi_2, oi_20000, oi_m1, oi_m2, P_begin, P_cast, P_count1, P_isGood, P_links, P_work]; try dsimp only
            refine ⟨fun h4 => ?_, fun h4 => ?_⟩
            · apply hB
              dsimp only [rgo, rfd, Brun, Nat.beq, rwp, rst, lv_args, rlk, rs1, rs2, rdl, rky, rct, rcs, rcd, rno, rsw, Value.category, List.filter, List.take, List.drop, List.reverse, List.reverseAux, List.cons_append, List.nil_append, Option.toList, Int.toNat, Int.reduceToNat, if_pos, if_neg, reduceIte, ↓reduceIte, Nat.reduceAdd, Nat.reduceEqDiff, Nat.reduceBEq, beq_self_eq_true, Bool.not_true, Bool.not_false, Bool.and_true, Bool.and_false, Bool.true_and, Bool.false_and, gI_sI, gI_sL, gI_sA, gI_sM, gL_sI, gL_sL, gL_sA, gL_sM, aI_sI, aI_sL, aI_sA, aI_sM, aL_sI, aL_sL, aL_sA, aL_sM, Brun_0, Brun_4, Brun_12, Brun_17, Brun_24, Brun_26, Brun_33, Brun_36, Brun_103, Brun_113, Brun_115, Brun_125, Brun_167, Brun_177, Brun_184, Brun_195, Brun_203, Brun_212, Brun_217, Brun_226, Brun_230, Brun_234, oi_0, oi_1, oi_10, oi_2, oi_20000, oi_m1, oi_m2, P_begin, P_cast, P_count1, P_isGood, P_links, P_work]; try dsimp only
              refine ⟨rfl, (by decide), (hIG), fun w5 τ5 hq5 => ?_⟩
              obtain ⟨r5, rfl, hr5, hjd5, hfg5⟩ := hq5
              rcases hr5 with rfl | ⟨rfl, he5⟩
              · dsimp only [Option.toList, List.cons_append, List.nil_append, Nat.beq, gI_sI, gI_sL, gI_sA, gI_sM, gL_sI, gL_sL, gL_sA, gL_sM, aI_sI, aI_sL, aI_sA, aI_sM, aL_sI, aL_sL, aL_sA, aL_sM]
                refine ⟨fun h6 => absurd h6 (by decide), fun h6 => ?_⟩
                clear h6
                apply hB
                dsimp only [rgo, rfd, Brun, Nat.beq, rwp, rst, lv_args, rlk, rs1, rs2, rdl, rky, rct, rcs, rcd, rno, rsw, Value.category, List.filter, List.take, List.drop, List.reverse, List.reverseAux, List.cons_append, List.nil_append, Option.toList, Int.toNat, Int.reduceToNat, if_pos, if_neg, reduceIte, ↓reduceIte, Nat.reduceAdd, Nat.reduceEqDiff, Nat.reduceBEq, beq_self_eq_true, Bool.not_true, Bool.not_false, Bool.and_true, Bool.and_false, Bool.true_and, Bool.false_and, gI_sI, gI_sL, gI_sA, gI_sM, gL_sI, gL_sL, gL_sA, gL_sM, aI_sI, aI_sL, aI_sA, aI_sM, aL_sI, aL_sL, aL_sA, aL_sM, Brun_0, Brun_4, Brun_12, Brun_17, Brun_24, Brun_26, Brun_33, Brun_36, Brun_103, Brun_113, Brun_115, Brun_125, Brun_167, Brun_177, Brun_184, Brun_195, Brun_203, Brun_212, Brun_217, Brun_226, Brun_230, Brun_234, oi_0, oi_1, oi_10, oi_2, oi_20000, oi_m1, oi_m2, P_begin, P_cast, P_count1, P_isGood, P_links, P_work]; try dsimp only
                refine ⟨trivial, ?_⟩
                exact ⟨_, rfl, Or.inr ⟨hjd5, hfg5.o, by rw [hfg5.1 148 rfl]; exact hto.1, by rw [hfg5.1 148 rfl]; exact hto.2⟩⟩
              · dsimp only [Option.toList, List.cons_append, List.nil_append, Nat.beq, gI_sI, gI_sL, gI_sA, gI_sM, gL_sI, gL_sL, gL_sA, gL_sM, aI_sI, aI_sL, aI_sA, aI_sM, aL_sI, aL_sL, aL_sA, aL_sM]
                refine ⟨fun h7 => ?_, fun h7 => absurd h7 (by decide)⟩
                clear h7
                apply hB
                dsimp only [rgo, rfd, Brun, Nat.beq, rwp, rst, lv_args, rlk, rs1, rs2, rdl, rky, rct, rcs, rcd, rno, rsw, Value.category, List.filter, List.take, List.drop, List.reverse, List.reverseAux, List.cons_append, List.nil_append, Option.toList, Int.toNat, Int.reduceToNat, if_pos, if_neg, reduceIte, ↓reduceIte, Nat.reduceAdd, Nat.reduceEqDiff, Nat.reduceBEq, beq_self_eq_true, Bool.not_true, Bool.not_false, Bool.and_true, Bool.and_false, Bool.true_and, Bool.false_and, gI_sI, gI_sL, gI_sA, gI_sM, gL_sI, gL_sL, gL_sA, gL_sM, aI_sI, aI_sL, aI_sA, aI_sM, aL_sI, aL_sL, aL_sA, aL_sM, Brun_0, Brun_4, Brun_12, Brun_17, Brun_24, Brun_26, Brun_33, Brun_36, Brun_103, Brun_113, Brun_115, Brun_125, Brun_167, Brun_177, Brun_184, Brun_195, Brun_203, Brun_212, Brun_217, Brun_226, Brun_230, Brun_234, oi_0, oi_1, oi_10, oi_2, oi_20000, oi_m1, oi_m2, P_begin, P_cast, P_count1, P_isGood, P_links, P_work]; try dsimp only
                refine ⟨rfl, (by decide), (hjd5.1), fun w8 τ8 hq8 => ?_⟩
                obtain ⟨rfl, hlq8⟩ := hq8
                dsimp only [Option.toList, List.cons_append, List.nil_append, Nat.beq, gI_sI, gI_sL, gI_sA, gI_sM, gL_sI, gL_sL, gL_sA, gL_sM, aI_sI, aI_sL, aI_sA, aI_sM, aL_sI, aL_sL, aL_sA, aL_sM]
                refine ⟨rfl, Or.inr rfl, rfl, rfl, rfl, rfl, rfl, rfl, rfl, rfl, rfl, rfl, rfl, (by decide), (trivial), fun w9 τ9 hq9 => ?_⟩
                obtain ⟨r9, rfl, hr9⟩ := hq9
                obtain ⟨rfl, hs9, rfl⟩ := hr9.resolve_left (fun q => absurd (show (0 : Int32) = limit from q.2.1) (by lia))
                dsimp only [Option.toList, List.cons_append, List.nil_append, Nat.beq, gI_sI, gI_sL, gI_sA, gI_sM, gL_sI, gL_sL, gL_sA, gL_sM, aI_sI, aI_sL, aI_sA, aI_sM, aL_sI, aL_sL, aL_sA, aL_sM]
                refine ⟨fun h10 => absurd h10 (by decide), fun h10 => ?_⟩
                clear h10
                apply hB
                dsimp only [rgo, rfd, Brun, Nat.beq, rwp, rst, lv_args, rlk, rs1, rs2, rdl, rky, rct, rcs, rcd, rno, rsw, Value.category, List.filter, List.take, List.drop, List.reverse, List.reverseAux, List.cons_append, List.nil_append, Option.toList, Int.toNat, Int.reduceToNat, if_pos, if_neg, reduceIte, ↓reduceIte, Nat.reduceAdd, Nat.reduceEqDiff, Nat.reduceBEq, beq_self_eq_true, Bool.not_true, Bool.not_false, Bool.and_true, Bool.and_false, Bool.true_and, Bool.false_and, gI_sI, gI_sL, gI_sA, gI_sM, gL_sI, gL_sL, gL_sA, gL_sM, aI_sI, aI_sL, aI_sA, aI_sM, aL_sI, aL_sL, aL_sA, aL_sM, Brun_0, Brun_4, Brun_12, Brun_17, Brun_24, Brun_26, Brun_33, Brun_36, Brun_103, Brun_113, Brun_115, Brun_125, Brun_167, Brun_177, Brun_184, Brun_195, Brun_203, Brun_212, Brun_217, Brun_226, Brun_230, Brun_234, oi_0, oi_1, oi_10, oi_2, oi_20000, oi_m1, oi_m2, P_begin, P_cast, P_count1, P_isGood, P_links, P_work]; try dsimp only
                refine ⟨rfl, (by decide), (⟨show (0 : Int32) ≤ 0 by decide, show (0 : Int32) ≤ 30 by decide⟩), fun w11 τ11 hq11 => ?_⟩
                obtain ⟨r11, rfl, hr11⟩ := hq11
                obtain ⟨rfl, hs11, rfl⟩ := hr11.resolve_left (fun q => absurd (show (0 : Int32) = 30 from q.2.1) (by decide))
                dsimp only [Option.toList, List.cons_append, List.nil_append, Nat.beq, gI_sI, gI_sL, gI_sA, gI_sM, gL_sI, gL_sL, gL_sA, gL_sM, aI_sI, aI_sL, aI_sA, aI_sM, aL_sI, aL_sL, aL_sA, aL_sM]
                refine ⟨fun h12 => absurd h12 (by decide), fun h12 => ?_⟩
                clear h12
                exact hW 113 [(0, .ref 1000), (1, .int m), (2, .int limit)] _ _ _ (by simp [rdl, rky]) (t113 τ5 τ8 _ hjd5 hfg5 he5 hlq8 ⟨by lia, by lia⟩ ⟨by lia, by lia⟩ rfl)
            · apply hB
              dsimp only [rgo, rfd, Brun, Nat.beq, rwp, rst, lv_args, rlk, rs1, rs2, rdl, rky, rct, rcs, rcd, rno, rsw, Value.category, List.filter, List.take, List.drop, List.reverse, List.reverseAux, List.cons_append, List.nil_append, Option.toList, Int.toNat, Int.reduceToNat, if_pos, if_neg, reduceIte, ↓reduceIte, Nat.reduceAdd, Nat.reduceEqDiff, Nat.reduceBEq, beq_self_eq_true, Bool.not_true, Bool.not_false, Bool.and_true, Bool.and_false, Bool.true_and, Bool.false_and, gI_sI, gI_sL, gI_sA, gI_sM, gL_sI, gL_sL, gL_sA, gL_sM, aI_sI, aI_sL, aI_sA, aI_sM, aL_sI, aL_sL, aL_sA, aL_sM, Brun_0, Brun_4, Brun_12, Brun_17, Brun_24, Brun_26, Brun_33, Brun_36, Brun_103, Brun_113, Brun_115, Brun_125, Brun_167, Brun_177, Brun_184, Brun_195, Brun_203, Brun_212, Brun_217, Brun_226, Brun_230, Brun_234, oi_0, oi_1, oi_10, oi_2, oi_20000, oi_m1, oi_m2, P_begin, P_cast, P_count1, P_isGood, P_links, P_work]; try dsimp only
              refine ⟨trivial, ?_⟩
              exact ⟨_, rfl, Or.inl rfl⟩
    next => exact hP.elim

/-! what each call keeps -/
def iFn (k : Nat) : Bool := k == 1 || k == 120 || k == 121 || k == 123
def gFn (k : Nat) : Bool := false
def aFn (k : Nat) : Bool := k == 0 || k == 122
def lFn (k : Nat) : Bool := k == 124
def Fn (σ τ : RS) : Prop := (∀ k, iFn k = false → gI τ k = gI σ k) ∧ (∀ k, gFn k = false → gL τ k = gL σ k) ∧ (∀ k, aFn k = false → aI τ k = aI σ k) ∧ ∀ k, lFn k = false → aL τ k = aL σ k
theorem Fn.rf {σ : RS} : Fn σ σ := ⟨fun _ _ => rfl, fun _ _ => rfl, fun _ _ => rfl, fun _ _ => rfl⟩
theorem Fn.tr {σ τ υ : RS} (h1 : Fn σ τ) (h2 : Fn τ υ) : Fn σ υ := ⟨fun k hk => (h2.1 k hk).trans (h1.1 k hk), fun k hk => (h2.2.1 k hk).trans (h1.2.1 k hk), fun k hk => (h2.2.2.1 k hk).trans (h1.2.2.1 k hk), fun k hk => (h2.2.2.2 k hk).trans (h1.2.2.2 k hk)⟩
theorem Fn.i {σ τ : RS} (h : Fn σ τ) {k : Nat} {v : Int32} (hk : iFn k = true) : Fn σ (sI τ k v) := ⟨fun j hj => by
  rw [gI_sI, nb_ne (fun q => by subst q; rw [hk] at hj; cases hj)]
  exact h.1 j hj, h.2.1, h.2.2.1, h.2.2.2⟩
theorem Fn.g {σ τ : RS} (h : Fn σ τ) {k : Nat} {v : Int64} (hk : gFn k = true) : Fn σ (sL τ k v) := ⟨h.1, fun j hj => by
  rw [gL_sL, nb_ne (fun q => by subst q; rw [hk] at hj; cases hj)]
  exact h.2.1 j hj, h.2.2.1, h.2.2.2⟩
theorem Fn.a {σ τ : RS} (h : Fn σ τ) {k : Nat} {f : Nat → Int32} (hk : aFn k = true) : Fn σ (sA τ k f) := ⟨h.1, h.2.1, fun j hj => by
  rw [aI_sA, nb_ne (fun q => by subst q; rw [hk] at hj; cases hj)]
  exact h.2.2.1 j hj, h.2.2.2⟩
theorem Fn.m {σ τ : RS} (h : Fn σ τ) {k : Nat} {f : Nat → Int64} (hk : lFn k = true) : Fn σ (sM τ k f) := ⟨h.1, h.2.1, h.2.2.1, fun j hj => by
  rw [aL_sM, nb_ne (fun q => by subst q; rw [hk] at hj; cases hj)]
  exact h.2.2.2 j hj⟩
theorem PK.fn {σ τ : RS} (h : PK σ) (hf : Fn σ τ) : PK τ := by
  obtain ⟨f, k, j, hp⟩ := h
  have h1 := hp.1.1
  have e14 : gI (sI (sA τ 59 f) 62 0) 14 = gI (sI (sA σ 59 f) 62 0) 14 := hf.1 14 rfl
  refine ⟨f, k, j, ?_⟩
  rw [hf.1 36 rfl]
  exact hp.mv (σ' := sI (sA τ 59 f) 62 0) k j ⟨by rw [e14]; exact Int.le_refl _, by rw [e14]; exact h1.2⟩ ⟨hp.1.2.1.2.2, by rw [e14]; omega⟩ ⟨hp.1.2.2.2.2.2.2, by rw [e14]; omega⟩ True.intro (hf.1 17 rfl) (hf.1 49 rfl) rfl (hf.1 42 rfl) (hf.1 36 rfl) (hf.2.2.1 63 rfl) (hf.2.2.1 64 rfl) (hf.2.2.1 65 rfl) (hf.2.2.1 43 rfl) (hf.2.2.1 37 rfl) (hf.2.2.1 39 rfl) (hf.2.2.1 40 rfl) (hf.2.2.1 41 rfl) (hf.1 18 rfl) (hf.2.2.1 19 rfl) (hf.2.2.1 20 rfl) (hf.2.2.1 21 rfl) (hf.2.2.1 22 rfl) (hf.2.2.1 23 rfl) (hf.2.2.1 24 rfl) (hf.2.2.1 50 rfl) (hf.2.2.1 51 rfl) (hf.2.2.1 52 rfl) (hf.2.2.1 53 rfl) (hf.2.2.1 54 rfl) (hf.2.2.1 55 rfl) (hf.2.2.1 56 rfl) (hf.2.2.1 57 rfl) (hf.2.2.1 58 rfl) rfl (hf.2.2.1 60 rfl) (hf.2.2.1 61 rfl) (hf.2.2.1 3 rfl) (hf.2.2.1 6 rfl) (hgz := fun z => z.same (hf.2.2.1 6 rfl) (hf.2.2.1 38 rfl) (hf.2.2.1 44 rfl))
theorem JD.fn {σ τ : RS} (h : JD σ) (hf : Fn σ τ) : JD τ := by
  obtain ⟨h1, ⟨h2, h3, h4⟩, h5, h6⟩ := h
  have r19 := hf.2.2.1 19 rfl
  have r20 := hf.2.2.1 20 rfl
  have r21 := hf.2.2.1 21 rfl
  have r22 := hf.2.2.1 22 rfl
  have r59 := hf.2.2.1 59 rfl
  have r80 := hf.2.2.1 80 rfl
  have r81 := hf.2.2.1 81 rfl
  have r82 := hf.2.2.1 82 rfl
  have r83 := hf.2.2.1 83 rfl
  have r38 := hf.2.2.1 38 rfl
  have r39 := hf.2.2.1 39 rfl
  have i18 := hf.1 18 rfl
  have i36 := hf.1 36 rfl
  have i42 := hf.1 42 rfl
  have i49 := hf.1 49 rfl
  refine ⟨h1.fn hf, ⟨by rw [hf.1 68 rfl]; exact h2, by rw [hf.1 91 rfl]; exact h3, by rw [hf.1 74 rfl]; exact h4⟩, by rw [i49, r59, r19, r20, i18]; exact h5, fun q => ?_⟩
  rw [i18, r19, r20, r21, r81]
  obtain ⟨g1, g2⟩ := h6 (by rw [← hf.1 66 rfl]; exact q)
  refine ⟨fun i hi => ?_, g2⟩
  obtain ⟨a1, a2, a3, a4, a5⟩ := g1 i hi
  unfold EC
  rw [r19, r20, r21, r22, r80, r81, r82, r83, i42]
  exact ⟨a1, a2, fun z => ⟨(a3 z).1.fr i36 r39, (a3 z).2.fr r38⟩, a4, a5⟩
theorem PD.fn {σ τ : RS} (h : PD σ) (hf : Fn σ τ) : PD τ := by
  obtain ⟨k, j, hp⟩ := h
  have h1 := hp.1.1
  have e14 : gI (sI τ 62 0) 14 = gI (sI σ 62 0) 14 := hf.1 14 rfl
  refine ⟨k, j, ?_⟩
  rw [hf.1 36 rfl]
  exact hp.mv (σ' := sI τ 62 0) k j ⟨by rw [e14]; exact Int.le_refl _, by rw [e14]; exact h1.2⟩ ⟨hp.1.2.1.2.2, by rw [e14]; omega⟩ ⟨hp.1.2.2.2.2.2.2, by rw [e14]; omega⟩ True.intro (hf.1 17 rfl) (hf.1 49 rfl) rfl (hf.1 42 rfl) (hf.1 36 rfl) (hf.2.2.1 63 rfl) (hf.2.2.1 64 rfl) (hf.2.2.1 65 rfl) (hf.2.2.1 43 rfl) (hf.2.2.1 37 rfl) (hf.2.2.1 39 rfl) (hf.2.2.1 40 rfl) (hf.2.2.1 41 rfl) (hf.1 18 rfl) (hf.2.2.1 19 rfl) (hf.2.2.1 20 rfl) (hf.2.2.1 21 rfl) (hf.2.2.1 22 rfl) (hf.2.2.1 23 rfl) (hf.2.2.1 24 rfl) (hf.2.2.1 50 rfl) (hf.2.2.1 51 rfl) (hf.2.2.1 52 rfl) (hf.2.2.1 53 rfl) (hf.2.2.1 54 rfl) (hf.2.2.1 55 rfl) (hf.2.2.1 56 rfl) (hf.2.2.1 57 rfl) (hf.2.2.1 58 rfl) (hf.2.2.1 59 rfl) (hf.2.2.1 60 rfl) (hf.2.2.1 61 rfl) (hf.2.2.1 3 rfl) (hf.2.2.1 6 rfl) (hgz := fun z => z.same (hf.2.2.1 6 rfl) (hf.2.2.1 38 rfl) (hf.2.2.1 44 rfl))
theorem IV.fn {σ τ : RS} (h : IV σ) (hf : Fn σ τ) (hb : Yb (aI τ 0)) (h1 : 0 ≤ gI τ 1 ∧ gI τ 1 ≤ 2500) (h2 : 0 ≤ gI τ 123 ∧ gI τ 123 ≤ 40) : IV τ := by
  obtain ⟨⟨⟨a1, a2⟩, a3, ⟨-, a5⟩, ⟨-, a7⟩, ⟨-, a9⟩, a10⟩, hi⟩ := h
  refine ⟨⟨⟨by rw [hf.1 91 rfl]; exact a1, by rw [hf.1 2 rfl]; exact a2⟩, a3.same (hf.2.2.1 6 rfl) (hf.2.2.1 38 rfl) (hf.2.2.1 44 rfl), ⟨hb, by rw [hf.2.2.1 118 rfl]; exact a5⟩, ⟨h1, by rw [hf.1 119 rfl]; exact a7⟩, ⟨h2, by rw [hf.1 148 rfl]; exact a9⟩, by rw [hf.1 119 rfl, hf.2.2.1 118 rfl]; exact a10⟩, ?_⟩
  exact hi.elim (fun q => Or.inl ⟨by rw [hf.1 68 rfl]; exact q.1, q.2.fn hf⟩) (fun q => Or.inr (q.fn hf))
theorem IV.fg {σ τ : RS} (h : IV σ) (hf : Fg σ τ) (hj : JD τ) : IV τ := ⟨h.1.fg hf hj.2.1.2.1, Or.inr hj⟩
theorem IV.fo {σ τ : RS} (h : IV σ) (hf : Fo σ τ) (hj : JD τ) (h8 : 0 ≤ gI τ 148 ∧ gI τ 148 ≤ 200) : IV τ := by
  obtain ⟨⟨⟨-, a2⟩, a3, a4, a5, ⟨a6, -⟩, a7⟩, -⟩ := h
  refine ⟨⟨⟨hj.2.1.2.1, by rw [hf.1 2 rfl]; exact a2⟩, a3.same (hf.2.2.1 6 rfl) (hf.2.2.1 38 rfl) (hf.2.2.1 44 rfl), ?_, ?_, ⟨by rw [hf.1 123 rfl]; exact a6, h8⟩, ?_⟩, Or.inr hj⟩
  · rw [hf.2.2.1 0 rfl, hf.2.2.1 118 rfl]; exact a4
  · rw [hf.1 1 rfl, hf.1 119 rfl]; exact a5
  · rw [hf.1 119 rfl, hf.2.2.1 118 rfl]; exact a7
def N3 (σ : RS) : Prop := (0 ≤ gI σ 42 ∧ gI σ 42 ≤ 60) ∧ (0 ≤ gI σ 36 ∧ gI σ 36 ≤ 10) ∧ ∀ m, m < nT (gI σ 36) → (0 ≤ aI σ 39 m ∧ aI σ 39 m ≤ 6) ∧ (0 ≤ aI σ 40 m ∧ aI σ 40 m + aI σ 39 m ≤ gI σ 42 ∧ aI σ 40 m ≤ gI σ 42)
theorem PK.n3 {σ : RS} (h : PK σ) : N3 σ := by
  obtain ⟨f, k, j, hp⟩ := h
  have n := hp.nums
  refine ⟨n.2.2.2.2.2.2.1, n.2.2.2.2.2.2.2, fun m hm => ?_⟩
  have q := hp.2.2.2.2.2.2.2.2.1.2 m hm
  exact ⟨q.2.1, q.2.2.1⟩
theorem IV.n3 {σ : RS} (h : IV σ) : N3 σ := h.2.elim (fun q => q.2.k.n3) (fun q => q.1.n3)
theorem RMet.mono {l : Launch} {lev μ : Nat} {P P' : RP} {Q Q' : RQ} (h : RMet l lev μ P Q) (hP : ∀ As σ, P' As σ → P As σ) (hQ : ∀ As σ w τ, P' As σ → Q As σ w τ → Q' As σ w τ) : RMet l lev μ P' Q' := by
  obtain ⟨r, h1, h2⟩ := h
  refine ⟨r, h1, fun D h ad cA σ sz As hp => ?_⟩
  refine MetFree.mono (h2 D h ad cA σ sz As (hP As σ hp)) (fun _ _ q => q) (fun _ _ _ _ _ q => q) (fun a st o t _ q => ?_)
  obtain ⟨⟨⟨w, τ, q1, q2, q3⟩, q4⟩, q5⟩ := q
  exact ⟨⟨⟨w, τ, q1, hQ As σ w τ hp q2, q3⟩, q4⟩, q5⟩
theorem yb_and (x : Int32) : 0 ≤ x &&& 255 ∧ x &&& 255 < 256 := by
  obtain ⟨j, hj, e⟩ := pk_andE x (m := 255) 8 (by decide)
  rw [e]
  have h1 : j < 2 ^ 31 := by omega
  refine ⟨nI_pos' h1, ?_⟩
  have := nI_lt (a := j) (b := 256) (by omega) (by omega)
  exact this
theorem nT_ad {x : Int32} (h0 : 0 ≤ x) (h1 : x ≤ 2500) (j : Nat) (hj : j ≤ 30) : nT (x + Int32.ofNat j) = nT x + j := by
  have a : (0 : Int32).toInt ≤ x.toInt := Int32.le_iff_toInt_le.mp h0
  have b : x.toInt ≤ (2500 : Int32).toInt := Int32.le_iff_toInt_le.mp h1
  have e0 : (0 : Int32).toInt = 0 := rfl
  have e25 : (2500 : Int32).toInt = 2500 := rfl
  have ej : (Int32.ofNat j).toInt = j := (by decide : ∀ j : Fin 31, (Int32.ofNat j.1).toInt = (j.1 : Int)) ⟨j, by omega⟩
  have e : (x + Int32.ofNat j).toInt = x.toInt + j := addC (by rw [ej]) (by omega) (by omega)
  show (x + Int32.ofNat j).toInt.toNat = x.toInt.toNat + j
  omega
/-- and the text that is kept -/
def KpA (σ τ : RS) : Prop := KpQ σ τ ∧ gI τ 119 = gI σ 119 ∧ aI τ 118 = aI σ 118
theorem KpA.rf {σ : RS} : KpA σ σ := ⟨KpQ.rf, rfl, rfl⟩
theorem KpA.tr {σ τ υ : RS} (h : KpA σ τ) (g : KpA τ υ) : KpA σ υ := ⟨h.1.tr g.1, g.2.1.trans h.2.1, g.2.2.trans h.2.2⟩
theorem KpA.fg {σ τ : RS} (h : Fg σ τ) : KpA σ τ := ⟨KpQ.fg h, h.1 119 rfl, h.2.2.1 118 rfl⟩
theorem KpA.fn {σ τ : RS} (h : Fn σ τ) : KpA σ τ := ⟨⟨⟨h.1 2 rfl, h.1 36 rfl, h.1 42 rfl⟩, fun k hk => by
  rcases el_q hk with rfl | rfl | rfl | rfl | rfl | rfl | rfl | rfl | rfl | rfl | rfl | rfl <;> exact h.2.2.1 _ rfl⟩, h.1 119 rfl, h.2.2.1 118 rfl⟩
theorem KpA.fo {σ τ : RS} (h : Fo σ τ) : KpA σ τ := ⟨⟨⟨h.1 2 rfl, h.1 36 rfl, h.1 42 rfl⟩, fun k hk => by
  rcases el_q hk with rfl | rfl | rfl | rfl | rfl | rfl | rfl | rfl | rfl | rfl | rfl | rfl <;> exact h.2.2.1 _ rfl⟩, h.1 119 rfl, h.2.2.1 118 rfl⟩
theorem F8.fn {σ τ : RS} (h : Fn σ τ) : F8 σ τ := F8.mk (fun k a b => h.1 k (by
  unfold iFn
  simp only [Bool.or_eq_false_iff, beq_eq_false_iff_ne, ne_eq]
  omega)) (fun k a b => h.2.2.1 k (by
  unfold aFn
  simp only [Bool.or_eq_false_iff, beq_eq_false_iff_ne, ne_eq]
  omega)) (fun k a => h.2.2.2 k (by
  unfold lFn
  simp only [beq_eq_false_iff_ne, ne_eq]
  omega))
theorem yb_upd {f : Nat → Int32} {k : Nat} {x : Int32} (h : Yb f) : Yb (upd f k (x &&& 255)) := by
  intro i
  by_cases q : i = k
  · subst q; rw [upd_eq]; exact yb_and x
  · rw [upd_ne q]; exact h i
theorem Int32.le_or_lt_z (x : Int32) : 0 < x ∨ ¬ 0 < x := Decidable.em _
def P_lay2 : RP := fun As σ => match As with
  | [.int v] => (0 ≤ (gI σ 1) ∧ (gI σ 1) ≤ 2496) ∧ Yb (aI σ 0)
  | _ => False
def Q_lay2 : RQ := fun As σ w τ => match As with
  | [.int v] => w = none ∧ Fy σ τ ∧ (gI τ 1) = (gI σ 1) + 4 ∧ Yb (aI τ 0) ∧ aI τ 0 = apk (aI σ 0) (nT (gI σ 1)) v 4
  | _ => False
set_option maxRecDepth 100000 in
set_option maxHeartbeats 4000000 in
theorem m_lay2 (l : Launch) : RMet l 1 1 P_lay2 Q_lay2 := by
  refine RMet.by Blay [] rolay okBlay ct0 ?_ ?_
  · intro As σ hP
    unfold P_lay2 at hP
    split at hP
    next => exact Nat.le_of_ble_eq_true rfl
    next => exact hP.elim
  · intro As σ hP G hB hW
    unfold P_lay2 at hP
    split at hP
    next v => 
      unfold Q_lay2 at hB
      dsimp only at hB
      have s4 : ∀ τ : RS, Fy σ τ → gI τ 1 = gI σ 1 + 4 → Yb (aI τ 0) → aI τ 0 = apk (aI σ 0) (nT (gI σ 1)) v 4 → G 3 [(0, .ref 1000), (1, .int v), (2, .int (-8))] [] τ := by
        intro τ hF hv hy hz
        apply hB
        dsimp only [rgo, rfd, Blay, Nat.beq, rwp, rst, lv_args, rlk, rs1, rs2, rdl, rky, rct, rcs, rcd, rno, rsw, Value.category, List.filter, List.take, List.drop, List.reverse, List.reverseAux, List.cons_append, List.nil_append, Option.toList, Int.toNat, Int.reduceToNat, if_pos, if_neg, reduceIte, ↓reduceIte, Nat.reduceAdd, Nat.reduceEqDiff, Nat.reduceBEq, beq_self_eq_true, Bool.not_true, Bool.not_false, Bool.and_true, Bool.and_false, Bool.true_and, Bool.false_and, gI_sI, gI_sL, gI_sA, gI_sM, gL_sI, gL_sL, gL_sA, gL_sM, aI_sI, aI_sL, aI_sA, aI_sM, aL_sI, aL_sL, aL_sA, aL_sM, Blay_0, Blay_3, Blay_7, Blay_39, oi_1, oi_24, oi_255, oi_m8]; try dsimp only
        refine ⟨fun h1 => ?_, fun h1 => absurd h1 (by decide)⟩
        clear h1
        apply hB
        dsimp only [rgo, rfd, Blay, Nat.beq, rwp, rst, lv_args, rlk, rs1, rs2, rdl, rky, rct, rcs, rcd, rno, rsw, Value.category, List.filter, List.take, List.drop, List.reverse, List.reverseAux, List.cons_append, List.nil_append, Option.toList, Int.toNat, Int.reduceToNat, if_pos, if_neg, reduceIte, ↓reduceIte, Nat.reduceAdd, Nat.reduceEqDiff, Nat.reduceBEq, beq_self_eq_true, Bool.not_true, Bool.not_false, Bool.and_true, Bool.and_false, Bool.true_and, Bool.false_and, gI_sI, gI_sL, gI_sA, gI_sM, gL_sI, gL_sL, gL_sA, gL_sM, aI_sI, aI_sL, aI_sA, aI_sM, aL_sI, aL_sL, aL_sA, aL_sM, Blay_0, Blay_3, Blay_7, Blay_39, oi_1, oi_24, oi_255, oi_m8]; try dsimp only
        exact ⟨rfl, hF, hv, hy, hz⟩
      have s3 : ∀ τ : RS, Fy σ τ → gI τ 1 = gI σ 1 + 3 → Yb (aI τ 0) → aI τ 0 = apk (aI σ 0) (nT (gI σ 1)) v 3 → G 3 [(0, .ref 1000), (1, .int v), (2, .int (0))] [] τ := by
        intro τ hF hv hy hz
        apply hB
        dsimp only [rgo, rfd, Blay, Nat.beq, rwp, rst, lv_args, rlk, rs1, rs2, rdl, rky, rct, rcs, rcd, rno, rsw, Value.category, List.filter, List.take, List.drop, List.reverse, List.reverseAux, List.cons_append, List.nil_append, Option.toList, Int.toNat, Int.reduceToNat, if_pos, if_neg, reduceIte, ↓reduceIte, Nat.reduceAdd, Nat.reduceEqDiff, Nat.reduceBEq, beq_self_eq_true, Bool.not_true, Bool.not_false, Bool.and_true, Bool.and_false, Bool.true_and, Bool.false_and, gI_sI, gI_sL, gI_sA, gI_sM, gL_sI, gL_sL, gL_sA, gL_sM, aI_sI, aI_sL, aI_sA, aI_sM, aL_sI, aL_sL, aL_sA, aL_sM, Blay_0, Blay_3, Blay_7, Blay_39, oi_1, oi_24, oi_255, oi_m8]; try dsimp only
        refine ⟨fun h1 => absurd h1 (by decide), fun h1 => ?_⟩
        clear h1
        apply hB
        dsimp only [rgo, rfd, Blay, Nat.beq, rwp, rst, lv_args, rlk, rs1, rs2, rdl, rky, rct, rcs, rcd, rno, rsw, Value.category, List.filter, List.take, List.drop, List.reverse, List.reverseAux, List.cons_append, List.nil_append, Option.toList, Int.toNat, Int.reduceToNat, if_pos, if_neg, reduceIte, ↓reduceIte, Nat.reduceAdd, Nat.reduceEqDiff, Nat.reduceBEq, beq_self_eq_true, Bool.not_true, Bool.not_false, Bool.and_true, Bool.and_false, Bool.true_and, Bool.false_and, gI_sI, gI_sL, gI_sA, gI_sM, gL_sI, gL_sL, gL_sA, gL_sM, aI_sI, aI_sL, aI_sA, aI_sM, aL_sI, aL_sL, aL_sA, aL_sM, Blay_0, Blay_3, Blay_7, Blay_39, oi_1, oi_24, oi_255, oi_m8]; try dsimp only
        refine ⟨rfl, rfl, rfl, (in_0 (by lia) (by lia)), rfl, rfl, ?_⟩
        exact hW 3 [(0, .ref 1000), (1, .int v), (2, .int (-8))] _ _ _ (by simp) (s4 _ hF.s (by show gI τ 1 + 1 = gI σ 1 + 4; lia) (yb_upd hy) (by show upd (aI τ 0) (gI τ 1).toNatClampNeg _ = upd (apk (aI σ 0) (nT (gI σ 1)) v 3) (nT (gI σ 1) + 3) (byV v 3); rw [hz, show (gI τ 1).toNatClampNeg = nT (gI σ 1) + 3 from (congrArg nT hv).trans (nT_ad hP.1.1 (by lia) 3 (by omega)), show byV v 3 = (v >>> ((0 : Int32) &&& 31)) &&& 255 from by unfold byV; rw [show Int32.ofInt (24 - 8 * ((3 : Nat) : Int)) = (0 : Int32) by decide]] <;> rfl))
      have s2 : ∀ τ : RS, Fy σ τ → gI τ 1 = gI σ 1 + 2 → Yb (aI τ 0) → aI τ 0 = apk (aI σ 0) (nT (gI σ 1)) v 2 → G 3 [(0, .ref 1000), (1, .int v), (2, .int (8))] [] τ := by
        intro τ hF hv hy hz
        apply hB
        dsimp only [rgo, rfd, Blay, Nat.beq, rwp, rst, lv_args, rlk, rs1, rs2, rdl, rky, rct, rcs, rcd, rno, rsw, Value.category, List.filter, List.take, List.drop, List.reverse, List.reverseAux, List.cons_append, List.nil_append, Option.toList, Int.toNat, Int.reduceToNat, if_pos, if_neg, reduceIte, ↓reduceIte, Nat.reduceAdd, Nat.reduceEqDiff, Nat.reduceBEq, beq_self_eq_true, Bool.not_true, Bool.not_false, Bool.and_true, Bool.and_false, Bool.true_and, Bool.false_and, gI_sI, gI_sL, gI_sA, gI_sM, gL_sI, gL_sL, gL_sA, gL_sM, aI_sI, aI_sL, aI_sA, aI_sM, aL_sI, aL_sL, aL_sA, aL_sM, Blay_0, Blay_3, Blay_7, Blay_39, oi_1, oi_24, oi_255, oi_m8]; try dsimp only
        refine ⟨fun h1 => absurd h1 (by decide), fun h1 => ?_⟩
        clear h1
        apply hB
        dsimp only [rgo, rfd, Blay, Nat.beq, rwp, rst, lv_args, rlk, rs1, rs2, rdl, rky, rct, rcs, rcd, rno, rsw, Value.category, List.filter, List.take, List.drop, List.reverse, List.reverseAux, List.cons_append, List.nil_append, Option.toList, Int.toNat, Int.reduceToNat, if_pos, if_neg, reduceIte, ↓reduceIte, Nat.reduceAdd, Nat.reduceEqDiff, Nat.reduceBEq, beq_self_eq_true, Bool.not_true, Bool.not_false, Bool.and_true, Bool.and_false, Bool.true_and, Bool.false_and, gI_sI, gI_sL, gI_sA, gI_sM, gL_sI, gL_sL, gL_sA, gL_sM, aI_sI, aI_sL, aI_sA, aI_sM, aL_sI, aL_sL, aL_sA, aL_sM, Blay_0, Blay_3, Blay_7, Blay_39, oi_1, oi_24, oi_255, oi_m8]; try dsimp only
        refine ⟨rfl, rfl, rfl, (in_0 (by lia) (by lia)), rfl, rfl, ?_⟩
        exact hW 3 [(0, .ref 1000), (1, .int v), (2, .int (0))] _ _ _ (by simp) (s3 _ hF.s (by show gI τ 1 + 1 = gI σ 1 + 3; lia) (yb_upd hy) (by show upd (aI τ 0) (gI τ 1).toNatClampNeg _ = upd (apk (aI σ 0) (nT (gI σ 1)) v 2) (nT (gI σ 1) + 2) (byV v 2); rw [hz, show (gI τ 1).toNatClampNeg = nT (gI σ 1) + 2 from (congrArg nT hv).trans (nT_ad hP.1.1 (by lia) 2 (by omega)), show byV v 2 = (v >>> ((8 : Int32) &&& 31)) &&& 255 from by unfold byV; rw [show Int32.ofInt (24 - 8 * ((2 : Nat) : Int)) = (8 : Int32) by decide]] <;> rfl))
      have s1 : ∀ τ : RS, Fy σ τ → gI τ 1 = gI σ 1 + 1 → Yb (aI τ 0) → aI τ 0 = apk (aI σ 0) (nT (gI σ 1)) v 1 → G 3 [(0, .ref 1000), (1, .int v), (2, .int (16))] [] τ := by
        intro τ hF hv hy hz
        apply hB
        dsimp only [rgo, rfd, Blay, Nat.beq, rwp, rst, lv_args, rlk, rs1, rs2, rdl, rky, rct, rcs, rcd, rno, rsw, Value.category, List.filter, List.take, List.drop, List.reverse, List.reverseAux, List.cons_append, List.nil_append, Option.toList, Int.toNat, Int.reduceToNat, if_pos, if_neg, reduceIte, ↓reduceIte, Nat.reduceAdd, Nat.reduceEqDiff, Nat.reduceBEq, beq_self_eq_true, Bool.not_true, Bool.not_false, Bool.and_true, Bool.and_false, Bool.true_and, Bool.false_and, gI_sI, gI_sL, gI_sA, gI_sM, gL_sI, gL_sL, gL_sA, gL_sM, aI_sI, aI_sL, aI_sA, aI_sM, aL_sI, aL_sL, aL_sA, aL_sM, Blay_0, Blay_3, Blay_7, Blay_39, oi_1, oi_24, oi_255, oi_m8]; try dsimp only
        refine ⟨fun h1 => absurd h1 (by decide), fun h1 => ?_⟩
        clear h1
        apply hB
        dsimp only [rgo, rfd, Blay, Nat.beq, rwp, rst, lv_args, rlk, rs1, rs2, rdl, rky, rct, rcs, rcd, rno, rsw, Value.category, List.filter, List.take, List.drop, List.reverse, List.reverseAux, List.cons_append, List.nil_append, Option.toList, Int.toNat, Int.reduceToNat, if_pos, if_neg, reduceIte, ↓reduceIte, Nat.reduceAdd, Nat.reduceEqDiff, Nat.reduceBEq, beq_self_eq_true, Bool.not_true, Bool.not_false, Bool.and_true, Bool.and_false, Bool.true_and, Bool.false_and, gI_sI, gI_sL, gI_sA, gI_sM, gL_sI, gL_sL, gL_sA, gL_sM, aI_sI, aI_sL, aI_sA, aI_sM, aL_sI, aL_sL, aL_sA, aL_sM, Blay_0, Blay_3, Blay_7, Blay_39, oi_1, oi_24, oi_255, oi_m8]; try dsimp only
        refine ⟨rfl, rfl, rfl, (in_0 (by lia) (by lia)), rfl, rfl, ?_⟩
        exact hW 3 [(0, .ref 1000), (1, .int v), (2, .int (8))] _ _ _ (by simp) (s2 _ hF.s (by show gI τ 1 + 1 = gI σ 1 + 2; lia) (yb_upd hy) (by show upd (aI τ 0) (gI τ 1).toNatClampNeg _ = upd (apk (aI σ 0) (nT (gI σ 1)) v 1) (nT (gI σ 1) + 1) (byV v 1); rw [hz, show (gI τ 1).toNatClampNeg = nT (gI σ 1) + 1 from (congrArg nT hv).trans (nT_ad hP.1.1 (by lia) 1 (by omega)), show byV v 1 = (v >>> ((16 : Int32) &&& 31)) &&& 255 from by unfold byV; rw [show Int32.ofInt (24 - 8 * ((1 : Nat) : Int)) = (16 : Int32) by decide]] <;> rfl))
      have s0 : ∀ τ : RS, Fy σ τ → gI τ 1 = gI σ 1 + 0 → Yb (aI τ 0) → aI τ 0 = apk (aI σ 0) (nT (gI σ 1)) v 0 → G 3 [(0, .ref 1000), (1, .int v), (2, .int (24))] [] τ := by
        intro τ hF hv hy hz
        apply hB
        dsimp only [rgo, rfd, Blay, Nat.beq, rwp, rst, lv_args, rlk, rs1, rs2, rdl, rky, rct, rcs, rcd, rno, rsw, Value.category, List.filter, List.take, List.drop, List.reverse, List.reverseAux, List.cons_append, List.nil_append, Option.toList, Int.toNat, Int.reduceToNat, if_pos, if_neg, reduceIte, ↓reduceIte, Nat.reduceAdd, Nat.reduceEqDiff, Nat.reduceBEq, beq_self_eq_true, Bool.not_true, Bool.not_false, Bool.and_true, Bool.and_false, Bool.true_and, Bool.false_and, gI_sI, gI_sL, gI_sA, gI_sM, gL_sI, gL_sL, gL_sA, gL_sM, aI_sI, aI_sL, aI_sA, aI_sM, aL_sI, aL_sL, aL_sA, aL_sM, Blay_0, Blay_3, Blay_7, Blay_39, oi_1, oi_24, oi_255, oi_m8]; try dsimp only
        refine ⟨fun h1 => absurd h1 (by decide), fun h1 => ?_⟩
        clear h1
        apply hB
        dsimp only [rgo, rfd, Blay, Nat.beq, rwp, rst, lv_args, rlk, rs1, rs2, rdl, rky, rct, rcs, rcd, rno, rsw, Value.category, List.filter, List.take, List.drop, List.reverse, List.reverseAux, List.cons_append, List.nil_append, Option.toList, Int.toNat, Int.reduceToNat, if_pos, if_neg, reduceIte, ↓reduceIte, Nat.reduceAdd, Nat.reduceEqDiff, Nat.reduceBEq, beq_self_eq_true, Bool.not_true, Bool.not_false, Bool.and_true, Bool.and_false, Bool.true_and, Bool.false_and, gI_sI, gI_sL, gI_sA, gI_sM, gL_sI, gL_sL, gL_sA, gL_sM, aI_sI, aI_sL, aI_sA, aI_sM, aL_sI, aL_sL, aL_sA, aL_sM, Blay_0, Blay_3, Blay_7, Blay_39, oi_1, oi_24, oi_255, oi_m8]; try dsimp only
        refine ⟨rfl, rfl, rfl, (in_0 (by lia) (by lia)), rfl, rfl, ?_⟩
        exact hW 3 [(0, .ref 1000), (1, .int v), (2, .int (16))] _ _ _ (by simp) (s1 _ hF.s (by show gI τ 1 + 1 = gI σ 1 + 1; lia) (yb_upd hy) (by show upd (aI τ 0) (gI τ 1).toNatClampNeg _ = upd (apk (aI σ 0) (nT (gI σ 1)) v 0) (nT (gI σ 1) + 0) (byV v 0); rw [hz, show (gI τ 1).toNatClampNeg = nT (gI σ 1) + 0 from (congrArg nT hv).trans (nT_ad hP.1.1 (by lia) 0 (by omega)), show byV v 0 = (v >>> ((24 : Int32) &&& 31)) &&& 255 from by unfold byV; rw [show Int32.ofInt (24 - 8 * ((0 : Nat) : Int)) = (24 : Int32) by decide]] <;> rfl))
      apply hB
      dsimp only [rgo, rfd, Blay, Nat.beq, rwp, rst, lv_args, rlk, rs1, rs2, rdl, rky, rct, rcs, rcd, rno, rsw, Value.category, List.filter, List.take, List.drop, List.reverse, List.reverseAux, List.cons_append, List.nil_append, Option.toList, Int.toNat, Int.reduceToNat, if_pos, if_neg, reduceIte, ↓reduceIte, Nat.reduceAdd, Nat.reduceEqDiff, Nat.reduceBEq, beq_self_eq_true, Bool.not_true, Bool.not_false, Bool.and_true, Bool.and_false, Bool.true_and, Bool.false_and, gI_sI, gI_sL, gI_sA, gI_sM, gL_sI, gL_sL, gL_sA, gL_sM, aI_sI, aI_sL, aI_sA, aI_sM, aL_sI, aL_sL, aL_sA, aL_sM, Blay_0, Blay_3, Blay_7, Blay_39, oi_1, oi_24, oi_255, oi_m8]; try dsimp only
      exact hW 3 [(0, .ref 1000), (1, .int v), (2, .int 24)] _ _ _ (by simp) (s0 σ Fy.rf (by lia) hP.2 rfl)
    next => exact hP.elim
def P_feed2 : RP := fun As σ => match As with
  | [.int a, .int b, .int c, .int d, .int e] => (0 ≤ (gI σ 1) ∧ (gI σ 1) ≤ 2500) ∧ Yb (aI σ 0)
  | _ => False
def Q_feed2 : RQ := fun As σ w τ => match As with
  | [.int a, .int b, .int c, .int d, .int e] => (2500 < (gI σ 1) + 20 ∧ w = some (.int (-3)) ∧ τ = σ) ∨ ((gI σ 1) + 20 ≤ 2500 ∧ w = some (.int (gI τ 1)) ∧ gI τ 1 = gI σ 1 + 20 ∧ Fy σ τ ∧ (0 ≤ gI τ 1 ∧ gI τ 1 ≤ 2500) ∧ Yb (aI τ 0) ∧ aI τ 0 = fdk (aI σ 0) (nT (gI σ 1)) a b c d e)
  | _ => False
set_option maxRecDepth 100000 in
set_option maxHeartbeats 4000000 in
theorem m_feed2 (l : Launch) : RMet l 2 0 P_feed2 Q_feed2 := by
  refine RMet.by Bfeed [(1, P_lay2, Q_lay2)] rofeed okBfeed (ctc (m_lay2 l) (by decide) ct0) ?_ ?_
  · intro As σ hP
    unfold P_feed2 at hP
    split at hP
    next => exact Nat.le_of_ble_eq_true rfl
    next => exact hP.elim
  · intro As σ hP G hB hW
    unfold P_feed2 at hP
    split at hP
    next a b c d e => 
      unfold Q_feed2 at hB
      dsimp only at hB
      have hp := hP
      apply hB
      dsimp only [rgo, rfd, Bfeed, Nat.beq, rwp, rst, lv_args, rlk, rs1, rs2, rdl, rky, rct, rcs, rcd, rno, rsw, Value.category, List.filter, List.take, List.drop, List.reverse, List.reverseAux, List.cons_append, List.nil_append, Option.toList, Int.toNat, Int.reduceToNat, if_pos, if_neg, reduceIte, ↓reduceIte, Nat.reduceAdd, Nat.reduceEqDiff, Nat.reduceBEq, beq_self_eq_true, Bool.not_true, Bool.not_false, Bool.and_true, Bool.and_false, Bool.true_and, Bool.false_and, gI_sI, gI_sL, gI_sA, gI_sM, gL_sI, gL_sL, gL_sA, gL_sM, aI_sI, aI_sL, aI_sA, aI_sM, aL_sI, aL_sL, aL_sA, aL_sM, Bfeed_0, Bfeed_13, Bfeed_16, oi_20, oi_2500, oi_m3, P_lay2]; try dsimp only
      refine ⟨rfl, fun h1 => ?_, fun h1 => ?_⟩
      · apply hB
        dsimp only [rgo, rfd, Bfeed, Nat.beq, rwp, rst, lv_args, rlk, rs1, rs2, rdl, rky, rct, rcs, rcd, rno, rsw, Value.category, List.filter, List.take, List.drop, List.reverse, List.reverseAux, List.cons_append, List.nil_append, Option.toList, Int.toNat, Int.reduceToNat, if_pos, if_neg, reduceIte, ↓reduceIte, Nat.reduceAdd, Nat.reduceEqDiff, Nat.reduceBEq, beq_self_eq_true, Bool.not_true, Bool.not_false, Bool.and_true, Bool.and_false, Bool.true_and, Bool.false_and, gI_sI, gI_sL, gI_sA, gI_sM, gL_sI, gL_sL, gL_sA, gL_sM, aI_sI, aI_sL, aI_sA, aI_sM, aL_sI, aL_sL, aL_sA, aL_sM, Bfeed_0, Bfeed_13, Bfeed_16, oi_20, oi_2500, oi_m3, P_lay2]; try dsimp only
        refine ⟨rfl, (by decide), (⟨⟨by lia, by lia⟩, hP.2⟩), fun w2 τ2 hq2 => ?_⟩
        obtain ⟨rfl, hy2, hv2, hb2, hz2⟩ := hq2
        dsimp only [Option.toList, List.cons_append, List.nil_append, Nat.beq, gI_sI, gI_sL, gI_sA, gI_sM, gL_sI, gL_sL, gL_sA, gL_sM, aI_sI, aI_sL, aI_sA, aI_sM, aL_sI, aL_sL, aL_sA, aL_sM]
        refine ⟨rfl, (by decide), (⟨⟨by lia, by lia⟩, hb2⟩), fun w3 τ3 hq3 => ?_⟩
        obtain ⟨rfl, hy3, hv3, hb3, hz3⟩ := hq3
        dsimp only [Option.toList, List.cons_append, List.nil_append, Nat.beq, gI_sI, gI_sL, gI_sA, gI_sM, gL_sI, gL_sL, gL_sA, gL_sM, aI_sI, aI_sL, aI_sA, aI_sM, aL_sI, aL_sL, aL_sA, aL_sM]
        refine ⟨rfl, (by decide), (⟨⟨by lia, by lia⟩, hb3⟩), fun w4 τ4 hq4 => ?_⟩
        obtain ⟨rfl, hy4, hv4, hb4, hz4⟩ := hq4
        dsimp only [Option.toList, List.cons_append, List.nil_append, Nat.beq, gI_sI, gI_sL, gI_sA, gI_sM, gL_sI, gL_sL, gL_sA, gL_sM, aI_sI, aI_sL, aI_sA, aI_sM, aL_sI, aL_sL, aL_sA, aL_sM]
        refine ⟨rfl, (by decide), (⟨⟨by lia, by lia⟩, hb4⟩), fun w5 τ5 hq5 => ?_⟩
        obtain ⟨rfl, hy5, hv5, hb5, hz5⟩ := hq5
        dsimp only [Option.toList, List.cons_append, List.nil_append, Nat.beq, gI_sI, gI_sL, gI_sA, gI_sM, gL_sI, gL_sL, gL_sA, gL_sM, aI_sI, aI_sL, aI_sA, aI_sM, aL_sI, aL_sL, aL_sA, aL_sM]
        refine ⟨rfl, (by decide), (⟨⟨by lia, by lia⟩, hb5⟩), fun w6 τ6 hq6 => ?_⟩
        obtain ⟨rfl, hy6, hv6, hb6, hz6⟩ := hq6
        dsimp only [Option.toList, List.cons_append, List.nil_append, Nat.beq, gI_sI, gI_sL, gI_sA, gI_sM, gL_sI, gL_sL, gL_sA, gL_sM, aI_sI, aI_sL, aI_sA, aI_sM, aL_sI, aL_sL, aL_sA, aL_sM]
        refine ⟨rfl, trivial, ?_⟩
        have hvv : gI τ6 1 = gI σ 1 + 20 := by lia
        exact Or.inr ⟨by lia, rfl, hvv, hy2.tr (hy3.tr (hy4.tr (hy5.tr hy6))), ⟨by lia, by lia⟩, hb6, by rw [hz6, hz5, hz4, hz3, hz2, show nT (gI τ2 1) = nT (gI σ 1) + 4 from (congrArg nT (show gI τ2 1 = gI σ 1 + 4 by lia)).trans (nT_ad hp.1.1 hp.1.2 4 (by omega)), show nT (gI τ3 1) = nT (gI σ 1) + 8 from (congrArg nT (show gI τ3 1 = gI σ 1 + 8 by lia)).trans (nT_ad hp.1.1 hp.1.2 8 (by omega)), show nT (gI τ4 1) = nT (gI σ 1) + 12 from (congrArg nT (show gI τ4 1 = gI σ 1 + 12 by lia)).trans (nT_ad hp.1.1 hp.1.2 12 (by omega)), show nT (gI τ5 1) = nT (gI σ 1) + 16 from (congrArg nT (show gI τ5 1 = gI σ 1 + 16 by lia)).trans (nT_ad hp.1.1 hp.1.2 16 (by omega))]⟩
      · apply hB
        dsimp only [rgo, rfd, Bfeed, Nat.beq, rwp, rst, lv_args, rlk, rs1, rs2, rdl, rky, rct, rcs, rcd, rno, rsw, Value.category, List.filter, List.take, List.drop, List.reverse, List.reverseAux, List.cons_append, List.nil_append, Option.toList, Int.toNat, Int.reduceToNat, if_pos, if_neg, reduceIte, ↓reduceIte, Nat.reduceAdd, Nat.reduceEqDiff, Nat.reduceBEq, beq_self_eq_true, Bool.not_true, Bool.not_false, Bool.and_true, Bool.and_false, Bool.true_and, Bool.false_and, gI_sI, gI_sL, gI_sA, gI_sM, gL_sI, gL_sL, gL_sA, gL_sM, aI_sI, aI_sL, aI_sA, aI_sM, aL_sI, aL_sL, aL_sA, aL_sM, Bfeed_0, Bfeed_13, Bfeed_16, oi_20, oi_2500, oi_m3, P_lay2]; try dsimp only
        refine ⟨trivial, ?_⟩
        exact Or.inl ⟨by lia, rfl, rfl⟩
    next => exact hP.elim
def P_variable3 : RP := fun As σ => match As with
  | [.int k, .int what] => N3 σ
  | _ => False
def Q_variable3 : RQ := fun As σ w τ => match As with
  | [.int k, .int what] => ∃ r : Int32, w = some (.int r) ∧ τ = σ
  | _ => False
set_option maxRecDepth 100000 in
set_option maxHeartbeats 4000000 in
theorem m_variable3 (l : Launch) : RMet l 1 132 P_variable3 Q_variable3 := by
  refine RMet.by Bvariable_ [] rovariable_ okBvariable_ ct0 ?_ ?_
  · intro As σ hP
    unfold P_variable3 at hP
    split at hP
    next => exact Nat.le_of_ble_eq_true rfl
    next => exact hP.elim
  · intro As σ hP G hB hW
    unfold P_variable3 at hP
    split at hP
    next k what => 
      unfold Q_variable3 at hB
      dsimp only at hB
      obtain ⟨n42, -⟩ := hP
      apply hB
      dsimp only [rgo, rfd, Bvariable_, Nat.beq, rwp, rst, lv_args, rlk, rs1, rs2, rdl, rky, rct, rcs, rcd, rno, rsw, Value.category, List.filter, List.take, List.drop, List.reverse, List.reverseAux, List.cons_append, List.nil_append, Option.toList, Int.toNat, Int.reduceToNat, if_pos, if_neg, reduceIte, ↓reduceIte, Nat.reduceAdd, Nat.reduceEqDiff, Nat.reduceBEq, beq_self_eq_true, Bool.not_true, Bool.not_false, Bool.and_true, Bool.and_false, Bool.true_and, Bool.false_and, gI_sI, gI_sL, gI_sA, gI_sM, gL_sI, gL_sL, gL_sA, gL_sM, aI_sI, aI_sL, aI_sA, aI_sM, aL_sI, aL_sL, aL_sA, aL_sM, Bvariable__0, Bvariable__4, Bvariable__12, Bvariable__14, Bvariable__18, Bvariable__27, Bvariable__32, Bvariable__41, Bvariable__46, Bvariable__55, Bvariable__59, Bvariable__63, Bvariable__68, Bvariable__77, Bvariable__78, oi_0, oi_1, oi_2, oi_3, oi_m1]; try dsimp only
      refine ⟨fun h1 => ?_, fun h1 => ?_⟩
      · apply hB
        dsimp only [rgo, rfd, Bvariable_, Nat.beq, rwp, rst, lv_args, rlk, rs1, rs2, rdl, rky, rct, rcs, rcd, rno, rsw, Value.category, List.filter, List.take, List.drop, List.reverse, List.reverseAux, List.cons_append, List.nil_append, Option.toList, Int.toNat, Int.reduceToNat, if_pos, if_neg, reduceIte, ↓reduceIte, Nat.reduceAdd, Nat.reduceEqDiff, Nat.reduceBEq, beq_self_eq_true, Bool.not_true, Bool.not_false, Bool.and_true, Bool.and_false, Bool.true_and, Bool.false_and, gI_sI, gI_sL, gI_sA, gI_sM, gL_sI, gL_sL, gL_sA, gL_sM, aI_sI, aI_sL, aI_sA, aI_sM, aL_sI, aL_sL, aL_sA, aL_sM, Bvariable__0, Bvariable__4, Bvariable__12, Bvariable__14, Bvariable__18, Bvariable__27, Bvariable__32, Bvariable__41, Bvariable__46, Bvariable__55, Bvariable__59, Bvariable__63, Bvariable__68, Bvariable__77, Bvariable__78, oi_0, oi_1, oi_2, oi_3, oi_m1]; try dsimp only
        refine ⟨trivial, ?_⟩
        exact ⟨_, rfl, rfl⟩
      · apply hB
        dsimp only [rgo, rfd, Bvariable_, Nat.beq, rwp, rst, lv_args, rlk, rs1, rs2, rdl, rky, rct, rcs, rcd, rno, rsw, Value.category, List.filter, List.take, List.drop, List.reverse, List.reverseAux, List.cons_append, List.nil_append, Option.toList, Int.toNat, Int.reduceToNat, if_pos, if_neg, reduceIte, ↓reduceIte, Nat.reduceAdd, Nat.reduceEqDiff, Nat.reduceBEq, beq_self_eq_true, Bool.not_true, Bool.not_false, Bool.and_true, Bool.and_false, Bool.true_and, Bool.false_and, gI_sI, gI_sL, gI_sA, gI_sM, gL_sI, gL_sL, gL_sA, gL_sM, aI_sI, aI_sL, aI_sA, aI_sM, aL_sI, aL_sL, aL_sA, aL_sM, Bvariable__0, Bvariable__4, Bvariable__12, Bvariable__14, Bvariable__18, Bvariable__27, Bvariable__32, Bvariable__41, Bvariable__46, Bvariable__55, Bvariable__59, Bvariable__63, Bvariable__68, Bvariable__77, Bvariable__78, oi_0, oi_1, oi_2, oi_3, oi_m1]; try dsimp only
        refine ⟨rfl, fun h2 => ?_, fun h2 => ?_⟩
        · apply hB
          dsimp only [rgo, rfd, Bvariable_, Nat.beq, rwp, rst, lv_args, rlk, rs1, rs2, rdl, rky, rct, rcs, rcd, rno, rsw, Value.category, List.filter, List.take, List.drop, List.reverse, List.reverseAux, List.cons_append, List.nil_append, Option.toList, Int.toNat, Int.reduceToNat, if_pos, if_neg, reduceIte, ↓reduceIte, Nat.reduceAdd, Nat.reduceEqDiff, Nat.reduceBEq, beq_self_eq_true, Bool.not_true, Bool.not_false, Bool.and_true, Bool.and_false, Bool.true_and, Bool.false_and, gI_sI, gI_sL, gI_sA, gI_sM, gL_sI, gL_sL, gL_sA, gL_sM, aI_sI, aI_sL, aI_sA, aI_sM, aL_sI, aL_sL, aL_sA, aL_sM, Bvariable__0, Bvariable__4, Bvariable__12, Bvariable__14, Bvariable__18, Bvariable__27, Bvariable__32, Bvariable__41, Bvariable__46, Bvariable__55, Bvariable__59, Bvariable__63, Bvariable__68, Bvariable__77, Bvariable__78, oi_0, oi_1, oi_2, oi_3, oi_m1]; try dsimp only
          refine ⟨fun h3 => ?_, fun h3 => ?_⟩
          · apply hB
            dsimp only [rgo, rfd, Bvariable_, Nat.beq, rwp, rst, lv_args, rlk, rs1, rs2, rdl, rky, rct, rcs, rcd, rno, rsw, Value.category, List.filter, List.take, List.drop, List.reverse, List.reverseAux, List.cons_append, List.nil_append, Option.toList, Int.toNat, Int.reduceToNat, if_pos, if_neg, reduceIte, ↓reduceIte, Nat.reduceAdd, Nat.reduceEqDiff, Nat.reduceBEq, beq_self_eq_true, Bool.not_true, Bool.not_false, Bool.and_true, Bool.and_false, Bool.true_and, Bool.false_and, gI_sI, gI_sL, gI_sA, gI_sM, gL_sI, gL_sL, gL_sA, gL_sM, aI_sI, aI_sL, aI_sA, aI_sM, aL_sI, aL_sL, aL_sA, aL_sM, Bvariable__0, Bvariable__4, Bvariable__12, Bvariable__14, Bvariable__18, Bvariable__27, Bvariable__32, Bvariable__41, Bvariable__46, Bvariable__55, Bvariable__59, Bvariable__63, Bvariable__68, Bvariable__77, Bvariable__78, oi_0, oi_1, oi_2, oi_3, oi_m1]; try dsimp only
            refine ⟨fun h4 => ?_, fun h4 => ?_⟩
            · apply hB
              dsimp only [rgo, rfd, Bvariable_, Nat.beq, rwp, rst, lv_args, rlk, rs1, rs2, rdl, rky, rct, rcs, rcd, rno, rsw, Value.category, List.filter, List.take, List.drop, List.reverse, List.reverseAux, List.cons_append, List.nil_append, Option.toList, Int.toNat, Int.reduceToNat, if_pos, if_neg, reduceIte, ↓reduceIte, Nat.reduceAdd, Nat.reduceEqDiff, Nat.reduceBEq, beq_self_eq_true, Bool.not_true, Bool.not_false, Bool.and_true, Bool.and_false, Bool.true_and, Bool.false_and, gI_sI, gI_sL, gI_sA, gI_sM, gL_sI, gL_sL, gL_sA, gL_sM, aI_sI, aI_sL, aI_sA, aI_sM, aL_sI, aL_sL, aL_sA, aL_sM, Bvariable__0, Bvariable__4, Bvariable__12, Bvariable__14, Bvariable__18, Bvariable__27, Bvariable__32, Bvariable__41, Bvariable__46, Bvariable__55, Bvariable__59, Bvariable__63, Bvariable__68, Bvariable__77, Bvariable__78, oi_0, oi_1, oi_2, oi_3, oi_m1]; try dsimp only
              refine ⟨fun h5 => ?_, fun h5 => ?_⟩
              · apply hB
                dsimp only [rgo, rfd, Bvariable_, Nat.beq, rwp, rst, lv_args, rlk, rs1, rs2, rdl, rky, rct, rcs, rcd, rno, rsw, Value.category, List.filter, List.take, List.drop, List.reverse, List.reverseAux, List.cons_append, List.nil_append, Option.toList, Int.toNat, Int.reduceToNat, if_pos, if_neg, reduceIte, ↓reduceIte, Nat.reduceAdd, Nat.reduceEqDiff, Nat.reduceBEq, beq_self_eq_true, Bool.not_true, Bool.not_false, Bool.and_true, Bool.and_false, Bool.true_and, Bool.false_and, gI_sI, gI_sL, gI_sA, gI_sM, gL_sI, gL_sL, gL_sA, gL_sM, aI_sI, aI_sL, aI_sA, aI_sM, aL_sI, aL_sL, aL_sA, aL_sM, Bvariable__0, Bvariable__4, Bvariable__12, Bvariable__14, Bvariable__18, Bvariable__27, Bvariable__32, Bvariable__41, Bvariable__46, Bvariable__55, Bvariable__59, Bvariable__63, Bvariable__68, Bvariable__77, Bvariable__78, oi_0, oi_1, oi_2, oi_3, oi_m1]; try dsimp only
                refine ⟨fun h6 => ?_, fun h6 => ?_⟩
                · apply hB
                  dsimp only [rgo, rfd, Bvariable_, Nat.beq, rwp, rst, lv_args, rlk, rs1, rs2, rdl, rky, rct, rcs, rcd, rno, rsw, Value.category, List.filter, List.take, List.drop, List.reverse, List.reverseAux, List.cons_append, List.nil_append, Option.toList, Int.toNat, Int.reduceToNat, if_pos, if_neg, reduceIte, ↓reduceIte, Nat.reduceAdd, Nat.reduceEqDiff, Nat.reduceBEq, beq_self_eq_true, Bool.not_true, Bool.not_false, Bool.and_true, Bool.and_false, Bool.true_and, Bool.false_and, gI_sI, gI_sL, gI_sA, gI_sM, gL_sI, gL_sL, gL_sA, gL_sM, aI_sI, aI_sL, aI_sA, aI_sM, aL_sI, aL_sL, aL_sA, aL_sM, Bvariable__0, Bvariable__4, Bvariable__12, Bvariable__14, Bvariable__18, Bvariable__27, Bvariable__32, Bvariable__41, Bvariable__46, Bvariable__55, Bvariable__59, Bvariable__63, Bvariable__68, Bvariable__77, Bvariable__78, oi_0, oi_1, oi_2, oi_3, oi_m1]; try dsimp only
                  apply hB
                  dsimp only [rgo, rfd, Bvariable_, Nat.beq, rwp, rst, lv_args, rlk, rs1, rs2, rdl, rky, rct, rcs, rcd, rno, rsw, Value.category, List.filter, List.take, List.drop, List.reverse, List.reverseAux, List.cons_append, List.nil_append, Option.toList, Int.toNat, Int.reduceToNat, if_pos, if_neg, reduceIte, ↓reduceIte, Nat.reduceAdd, Nat.reduceEqDiff, Nat.reduceBEq, beq_self_eq_true, Bool.not_true, Bool.not_false, Bool.and_true, Bool.and_false, Bool.true_and, Bool.false_and, gI_sI, gI_sL, gI_sA, gI_sM, gL_sI, gL_sL, gL_sA, gL_sM, aI_sI, aI_sL, aI_sA, aI_sM, aL_sI, aL_sL, aL_sA, aL_sM, Bvariable__0, Bvariable__4, Bvariable__12, Bvariable__14, Bvariable__18, Bvariable__27, Bvariable__32, Bvariable__41, Bvariable__46, Bvariable__55, Bvariable__59, Bvariable__63, Bvariable__68, Bvariable__77, Bvariable__78, oi_0, oi_1, oi_2, oi_3, oi_m1]; try dsimp only
                  refine ⟨trivial, ?_⟩
                  exact ⟨_, rfl, rfl⟩
                · apply hB
                  dsimp only [rgo, rfd, Bvariable_, Nat.beq, rwp, rst, lv_args, rlk, rs1, rs2, rdl, rky, rct, rcs, rcd, rno, rsw, Value.category, List.filter, List.take, List.drop, List.reverse, List.reverseAux, List.cons_append, List.nil_append, Option.toList, Int.toNat, Int.reduceToNat, if_pos, if_neg, reduceIte, ↓reduceIte, Nat.reduceAdd, Nat.reduceEqDiff, Nat.reduceBEq, beq_self_eq_true, Bool.not_true, Bool.not_false, Bool.and_true, Bool.and_false, Bool.true_and, Bool.false_and, gI_sI, gI_sL, gI_sA, gI_sM, gL_sI, gL_sL, gL_sA, gL_sM, aI_sI, aI_sL, aI_sA, aI_sM, aL_sI, aL_sL, aL_sA, aL_sM, Bvariable__0, Bvariable__4, Bvariable__12, Bvariable__14, Bvariable__18, Bvariable__27, Bvariable__32, Bvariable__41, Bvariable__46, Bvariable__55, Bvariable__59, Bvariable__63, Bvariable__68, Bvariable__77, Bvariable__78, oi_0, oi_1, oi_2, oi_3, oi_m1]; try dsimp only
                  refine ⟨rfl, rfl, (in_46 (by lia) (by lia)), ?_⟩
                  apply hB
                  dsimp only [rgo, rfd, Bvariable_, Nat.beq, rwp, rst, lv_args, rlk, rs1, rs2, rdl, rky, rct, rcs, rcd, rno, rsw, Value.category, List.filter, List.take, List.drop, List.reverse, List.reverseAux, List.cons_append, List.nil_append, Option.toList, Int.toNat, Int.reduceToNat, if_pos, if_neg, reduceIte, ↓reduceIte, Nat.reduceAdd, Nat.reduceEqDiff, Nat.reduceBEq, beq_self_eq_true, Bool.not_true, Bool.not_false, Bool.and_true, Bool.and_false, Bool.true_and, Bool.false_and, gI_sI, gI_sL, gI_sA, gI_sM, gL_sI, gL_sL, gL_sA, gL_sM, aI_sI, aI_sL, aI_sA, aI_sM, aL_sI, aL_sL, aL_sA, aL_sM, Bvariable__0, Bvariable__4, Bvariable__12, Bvariable__14, Bvariable__18, Bvariable__27, Bvariable__32, Bvariable__41, Bvariable__46, Bvariable__55, Bvariable__59, Bvariable__63, Bvariable__68, Bvariable__77, Bvariable__78, oi_0, oi_1, oi_2, oi_3, oi_m1]; try dsimp only
                  refine ⟨trivial, ?_⟩
                  exact ⟨_, rfl, rfl⟩
              · apply hB
                dsimp only [rgo, rfd, Bvariable_, Nat.beq, rwp, rst, lv_args, rlk, rs1, rs2, rdl, rky, rct, rcs, rcd, rno, rsw, Value.category, List.filter, List.take, List.drop, List.reverse, List.reverseAux, List.cons_append, List.nil_append, Option.toList, Int.toNat, Int.reduceToNat, if_pos, if_neg, reduceIte, ↓reduceIte, Nat.reduceAdd, Nat.reduceEqDiff, Nat.reduceBEq, beq_self_eq_true, Bool.not_true, Bool.not_false, Bool.and_true, Bool.and_false, Bool.true_and, Bool.false_and, gI_sI, gI_sL, gI_sA, gI_sM, gL_sI, gL_sL, gL_sA, gL_sM, aI_sI, aI_sL, aI_sA, aI_sM, aL_sI, aL_sL, aL_sA, aL_sM, Bvariable__0, Bvariable__4, Bvariable__12, Bvariable__14, Bvariable__18, Bvariable__27, Bvariable__32, Bvariable__41, Bvariable__46, Bvariable__55, Bvariable__59, Bvariable__63, Bvariable__68, Bvariable__77, Bvariable__78, oi_0, oi_1, oi_2, oi_3, oi_m1]; try dsimp only
                refine ⟨rfl, rfl, (in_45 (by lia) (by lia)), fun h7 => ?_, fun h7 => ?_⟩
                · apply hB
                  dsimp only [rgo, rfd, Bvariable_, Nat.beq, rwp, rst, lv_args, rlk, rs1, rs2, rdl, rky, rct, rcs, rcd, rno, rsw, Value.category, List.filter, List.take, List.drop, List.reverse, List.reverseAux, List.cons_append, List.nil_append, Option.toList, Int.toNat, Int.reduceToNat, if_pos, if_neg, reduceIte, ↓reduceIte, Nat.reduceAdd, Nat.reduceEqDiff, Nat.reduceBEq, beq_self_eq_true, Bool.not_true, Bool.not_false, Bool.and_true, Bool.and_false, Bool.true_and, Bool.false_and, gI_sI, gI_sL, gI_sA, gI_sM, gL_sI, gL_sL, gL_sA, gL_sM, aI_sI, aI_sL, aI_sA, aI_sM, aL_sI, aL_sL, aL_sA, aL_sM, Bvariable__0, Bvariable__4, Bvariable__12, Bvariable__14, Bvariable__18, Bvariable__27, Bvariable__32, Bvariable__41, Bvariable__46, Bvariable__55, Bvariable__59, Bvariable__63, Bvariable__68, Bvariable__77, Bvariable__78, oi_0, oi_1, oi_2, oi_3, oi_m1]; try dsimp only
                  apply hB
                  dsimp only [rgo, rfd, Bvariable_, Nat.beq, rwp, rst, lv_args, rlk, rs1, rs2, rdl, rky, rct, rcs, rcd, rno, rsw, Value.category, List.filter, List.take, List.drop, List.reverse, List.reverseAux, List.cons_append, List.nil_append, Option.toList, Int.toNat, Int.reduceToNat, if_pos, if_neg, reduceIte, ↓reduceIte, Nat.reduceAdd, Nat.reduceEqDiff, Nat.reduceBEq, beq_self_eq_true, Bool.not_true, Bool.not_false, Bool.and_true, Bool.and_false, Bool.true_and, Bool.false_and, gI_sI, gI_sL, gI_sA, gI_sM, gL_sI, gL_sL, gL_sA, gL_sM, aI_sI, aI_sL, aI_sA, aI_sM, aL_sI, aL_sL, aL_sA, aL_sM, Bvariable__0, Bvariable__4, Bvariable__12, Bvariable__14, Bvariable__18, Bvariable__27, Bvariable__32, Bvariable__41, Bvariable__46, Bvariable__55, Bvariable__59, Bvariable__63, Bvariable__68, Bvariable__77, Bvariable__78, oi_0, oi_1, oi_2, oi_3, oi_m1]; try dsimp only
                  refine ⟨trivial, ?_⟩
                  exact ⟨_, rfl, rfl⟩
                · apply hB
                  dsimp only [rgo, rfd, Bvariable_, Nat.beq, rwp, rst, lv_args, rlk, rs1, rs2, rdl, rky, rct, rcs, rcd, rno, rsw, Value.category, List.filter, List.take, List.drop, List.reverse, List.reverseAux, List.cons_append, List.nil_append, Option.toList, Int.toNat, Int.reduceToNat, if_pos, if_neg, reduceIte, ↓reduceIte, Nat.reduceAdd, Nat.reduceEqDiff, Nat.reduceBEq, beq_self_eq_true, Bool.not_true, Bool.not_false, Bool.and_true, Bool.and_false, Bool.true_and, Bool.false_and, gI_sI, gI_sL, gI_sA, gI_sM, gL_sI, gL_sL, gL_sA, gL_sM, aI_sI, aI_sL, aI_sA, aI_sM, aL_sI, aL_sL, aL_sA, aL_sM, Bvariable__0, Bvariable__4, Bvariable__12, Bvariable__14, Bvariable__18, Bvariable__27, Bvariable__32, Bvariable__41, Bvariable__46, Bvariable__55, Bvariable__59, Bvariable__63, Bvariable__68, Bvariable__77, Bvariable__78, oi_0, oi_1, oi_2, oi_3, oi_m1]; try dsimp only
                  apply hB
                  dsimp only [rgo, rfd, Bvariable_, Nat.beq, rwp, rst, lv_args, rlk, rs1, rs2, rdl, rky, rct, rcs, rcd, rno, rsw, Value.category, List.filter, List.take, List.drop, List.reverse, List.reverseAux, List.cons_append, List.nil_append, Option.toList, Int.toNat, Int.reduceToNat, if_pos, if_neg, reduceIte, ↓reduceIte, Nat.reduceAdd, Nat.reduceEqDiff, Nat.reduceBEq, beq_self_eq_true, Bool.not_true, Bool.not_false, Bool.and_true, Bool.and_false, Bool.true_and, Bool.false_and, gI_sI, gI_sL, gI_sA, gI_sM, gL_sI, gL_sL, gL_sA, gL_sM, aI_sI, aI_sL, aI_sA, aI_sM, aL_sI, aL_sL, aL_sA, aL_sM, Bvariable__0, Bvariable__4, Bvariable__12, Bvariable__14, Bvariable__18, Bvariable__27, Bvariable__32, Bvariable__41, Bvariable__46, Bvariable__55, Bvariable__59, Bvariable__63, Bvariable__68, Bvariable__77, Bvariable__78, oi_0, oi_1, oi_2, oi_3, oi_m1]; try dsimp only
                  refine ⟨trivial, ?_⟩
                  exact ⟨_, rfl, rfl⟩
            · apply hB
              dsimp only [rgo, rfd, Bvariable_, Nat.beq, rwp, rst, lv_args, rlk, rs1, rs2, rdl, rky, rct, rcs, rcd, rno, rsw, Value.category, List.filter, List.take, List.drop, List.reverse, List.reverseAux, List.cons_append, List.nil_append, Option.toList, Int.toNat, Int.reduceToNat, if_pos, if_neg, reduceIte, ↓reduceIte, Nat.reduceAdd, Nat.reduceEqDiff, Nat.reduceBEq, beq_self_eq_true, Bool.not_true, Bool.not_false, Bool.and_true, Bool.and_false, Bool.true_and, Bool.false_and, gI_sI, gI_sL, gI_sA, gI_sM, gL_sI, gL_sL, gL_sA, gL_sM, aI_sI, aI_sL, aI_sA, aI_sM, aL_sI, aL_sL, aL_sA, aL_sM, Bvariable__0, Bvariable__4, Bvariable__12, Bvariable__14, Bvariable__18, Bvariable__27, Bvariable__32, Bvariable__41, Bvariable__46, Bvariable__55, Bvariable__59, Bvariable__63, Bvariable__68, Bvariable__77, Bvariable__78, oi_0, oi_1, oi_2, oi_3, oi_m1]; try dsimp only
              refine ⟨rfl, rfl, (in_44 (by lia) (by lia)), ?_⟩
              apply hB
              dsimp only [rgo, rfd, Bvariable_, Nat.beq, rwp, rst, lv_args, rlk, rs1, rs2, rdl, rky, rct, rcs, rcd, rno, rsw, Value.category, List.filter, List.take, List.drop, List.reverse, List.reverseAux, List.cons_append, List.nil_append, Option.toList, Int.toNat, Int.reduceToNat, if_pos, if_neg, reduceIte, ↓reduceIte, Nat.reduceAdd, Nat.reduceEqDiff, Nat.reduceBEq, beq_self_eq_true, Bool.not_true, Bool.not_false, Bool.and_true, Bool.and_false, Bool.true_and, Bool.false_and, gI_sI, gI_sL, gI_sA, gI_sM, gL_sI, gL_sL, gL_sA, gL_sM, aI_sI, aI_sL, aI_sA, aI_sM, aL_sI, aL_sL, aL_sA, aL_sM, Bvariable__0, Bvariable__4, Bvariable__12, Bvariable__14, Bvariable__18, Bvariable__27, Bvariable__32, Bvariable__41, Bvariable__46, Bvariable__55, Bvariable__59, Bvariable__63, Bvariable__68, Bvariable__77, Bvariable__78, oi_0, oi_1, oi_2, oi_3, oi_m1]; try dsimp only
              refine ⟨trivial, ?_⟩
              exact ⟨_, rfl, rfl⟩
          · apply hB
            dsimp only [rgo, rfd, Bvariable_, Nat.beq, rwp, rst, lv_args, rlk, rs1, rs2, rdl, rky, rct, rcs, rcd, rno, rsw, Value.category, List.filter, List.take, List.drop, List.reverse, List.reverseAux, List.cons_append, List.nil_append, Option.toList, Int.toNat, Int.reduceToNat, if_pos, if_neg, reduceIte, ↓reduceIte, Nat.reduceAdd, Nat.reduceEqDiff, Nat.reduceBEq, beq_self_eq_true, Bool.not_true, Bool.not_false, Bool.and_true, Bool.and_false, Bool.true_and, Bool.false_and, gI_sI, gI_sL, gI_sA, gI_sM, gL_sI, gL_sL, gL_sA, gL_sM, aI_sI, aI_sL, aI_sA, aI_sM, aL_sI, aL_sL, aL_sA, aL_sM, Bvariable__0, Bvariable__4, Bvariable__12, Bvariable__14, Bvariable__18, Bvariable__27, Bvariable__32, Bvariable__41, Bvariable__46, Bvariable__55, Bvariable__59, Bvariable__63, Bvariable__68, Bvariable__77, Bvariable__78, oi_0, oi_1, oi_2, oi_3, oi_m1]; try dsimp only
            refine ⟨rfl, rfl, (in_43 (by lia) (by lia)), ?_⟩
            apply hB
            dsimp only [rgo, rfd, Bvariable_, Nat.beq, rwp, rst, lv_args, rlk, rs1, rs2, rdl, rky, rct, rcs, rcd, rno, rsw, Value.category, List.filter, List.take, List.drop, List.reverse, List.reverseAux, List.cons_append, List.nil_append, Option.toList, Int.toNat, Int.reduceToNat, if_pos, if_neg, reduceIte, ↓reduceIte, Nat.reduceAdd, Nat.reduceEqDiff, Nat.reduceBEq, beq_self_eq_true, Bool.not_true, Bool.not_false, Bool.and_true, Bool.and_false, Bool.true_and, Bool.false_and, gI_sI, gI_sL, gI_sA, gI_sM, gL_sI, gL_sL, gL_sA, gL_sM, aI_sI, aI_sL, aI_sA, aI_sM, aL_sI, aL_sL, aL_sA, aL_sM, Bvariable__0, Bvariable__4, Bvariable__12, Bvariable__14, Bvariable__18, Bvariable__27, Bvariable__32, Bvariable__41, Bvariable__46, Bvariable__55, Bvariable__59, Bvariable__63, Bvariable__68, Bvariable__77, Bvariable__78, oi_0, oi_1, oi_2, oi_3, oi_m1]; try dsimp only
            refine ⟨trivial, ?_⟩
            exact ⟨_, rfl, rfl⟩
        · apply hB
          dsimp only [rgo, rfd, Bvariable_, Nat.beq, rwp, rst, lv_args, rlk, rs1, rs2, rdl, rky, rct, rcs, rcd, rno, rsw, Value.category, List.filter, List.take, List.drop, List.reverse, List.reverseAux, List.cons_append, List.nil_append, Option.toList, Int.toNat, Int.reduceToNat, if_pos, if_neg, reduceIte, ↓reduceIte, Nat.reduceAdd, Nat.reduceEqDiff, Nat.reduceBEq, beq_self_eq_true, Bool.not_true, Bool.not_false, Bool.and_true, Bool.and_false, Bool.true_and, Bool.false_and, gI_sI, gI_sL, gI_sA, gI_sM, gL_sI, gL_sL, gL_sA, gL_sM, aI_sI, aI_sL, aI_sA, aI_sM, aL_sI, aL_sL, aL_sA, aL_sM, Bvariable__0, Bvariable__4, Bvariable__12, Bvariable__14, Bvariable__18, Bvariable__27, Bvariable__32, Bvariable__41, Bvariable__46, Bvariable__55, Bvariable__59, Bvariable__63, Bvariable__68, Bvariable__77, Bvariable__78, oi_0, oi_1, oi_2, oi_3, oi_m1]; try dsimp only
          refine ⟨trivial, ?_⟩
          exact ⟨_, rfl, rfl⟩
    next => exact hP.elim
def P_method3 : RP := fun As σ => match As with
  | [.int k, .int what] => N3 σ
  | _ => False
def Q_method3 : RQ := fun As σ w τ => match As with
  | [.int k, .int what] => ∃ r : Int32, w = some (.int r) ∧ τ = σ ∧ (((k < 0 ∨ gI σ 36 ≤ k) ∧ r = -1) ∨ ((0 ≤ k ∧ k < gI σ 36) ∧ (((10 ≤ what ∧ what < 10 + aI σ 39 k.toNatClampNeg) ∧ r = aI σ 44 (nT (aI σ 40 k.toNatClampNeg + what - 10))) ∨ (¬ (10 ≤ what ∧ what < 10 + aI σ 39 k.toNatClampNeg) ∧ ((what = 0 ∧ r = aI σ 37 k.toNatClampNeg) ∨ (what = 1 ∧ r = aI σ 38 k.toNatClampNeg) ∨ (what = 2 ∧ r = aI σ 39 k.toNatClampNeg) ∨ ((¬ what = 0 ∧ ¬ what = 1 ∧ ¬ what = 2) ∧ r = -1))))))
  | _ => False
set_option maxRecDepth 100000 in
set_option maxHeartbeats 4000000 in
theorem m_method3 (l : Launch) : RMet l 1 131 P_method3 Q_method3 := by
  refine RMet.by Bmethod_ [] romethod_ okBmethod_ ct0 ?_ ?_
  · intro As σ hP
    unfold P_method3 at hP
    split at hP
    next => exact Nat.le_of_ble_eq_true rfl
    next => exact hP.elim
  · intro As σ hP G hB hW
    unfold P_method3 at hP
    split at hP
    next k what => 
      unfold Q_method3 at hB
      dsimp only at hB
      obtain ⟨n42, n36, hmt0⟩ := hP
      have hmt : 0 ≤ k → k < gI σ 36 → (0 ≤ aI σ 39 k.toNatClampNeg ∧ aI σ 39 k.toNatClampNeg ≤ 6) ∧ (0 ≤ aI σ 40 k.toNatClampNeg ∧ aI σ 40 k.toNatClampNeg + aI σ 39 k.toNatClampNeg ≤ gI σ 42 ∧ aI σ 40 k.toNatClampNeg ≤ gI σ 42) := fun h0 h1 => hmt0 (nT k) (nT_lt h0 h1)
      apply hB
      dsimp only [rgo, rfd, Bmethod_, Nat.beq, rwp, rst, lv_args, rlk, rs1, rs2, rdl, rky, rct, rcs, rcd, rno, rsw, Value.category, List.filter, List.take, List.drop, List.reverse, List.reverseAux, List.cons_append, List.nil_append, Option.toList, Int.toNat, Int.reduceToNat, if_pos, if_neg, reduceIte, ↓reduceIte, Nat.reduceAdd, Nat.reduceEqDiff, Nat.reduceBEq, beq_self_eq_true, Bool.not_true, Bool.not_false, Bool.and_true, Bool.and_false, Bool.true_and, Bool.false_and, gI_sI, gI_sL, gI_sA, gI_sM, gL_sI, gL_sL, gL_sA, gL_sM, aI_sI, aI_sL, aI_sA, aI_sM, aL_sI, aL_sL, aL_sA, aL_sM, Bmethod__0, Bmethod__4, Bmethod__12, Bmethod__14, Bmethod__20, Bmethod__33, Bmethod__50, Bmethod__54, Bmethod__63, Bmethod__68, Bmethod__77, Bmethod__82, Bmethod__91, Bmethod__92, oi_1, oi_10, oi_2, oi_m1]; try dsimp only
      refine ⟨fun h1 => ?_, fun h1 => ?_⟩
      · apply hB
        dsimp only [rgo, rfd, Bmethod_, Nat.beq, rwp, rst, lv_args, rlk, rs1, rs2, rdl, rky, rct, rcs, rcd, rno, rsw, Value.category, List.filter, List.take, List.drop, List.reverse, List.reverseAux, List.cons_append, List.nil_append, Option.toList, Int.toNat, Int.reduceToNat, if_pos, if_neg, reduceIte, ↓reduceIte, Nat.reduceAdd, Nat.reduceEqDiff, Nat.reduceBEq, beq_self_eq_true, Bool.not_true, Bool.not_false, Bool.and_true, Bool.and_false, Bool.true_and, Bool.false_and, gI_sI, gI_sL, gI_sA, gI_sM, gL_sI, gL_sL, gL_sA, gL_sM, aI_sI, aI_sL, aI_sA, aI_sM, aL_sI, aL_sL, aL_sA, aL_sM, Bmethod__0, Bmethod__4, Bmethod__12, Bmethod__14, Bmethod__20, Bmethod__33, Bmethod__50, Bmethod__54, Bmethod__63, Bmethod__68, Bmethod__77, Bmethod__82, Bmethod__91, Bmethod__92, oi_1, oi_10, oi_2, oi_m1]; try dsimp only
        refine ⟨trivial, ?_⟩
        exact ⟨_, rfl, rfl, (by first | exact Or.inl ⟨by lia, rfl⟩ | exact Or.inr ⟨⟨by lia, by lia⟩, Or.inl ⟨⟨by lia, by lia⟩, rfl⟩⟩ | exact Or.inr ⟨⟨by lia, by lia⟩, Or.inr ⟨by lia, Or.inl ⟨by lia, rfl⟩⟩⟩ | exact Or.inr ⟨⟨by lia, by lia⟩, Or.inr ⟨by lia, Or.inr (Or.inl ⟨by lia, rfl⟩)⟩⟩ | exact Or.inr ⟨⟨by lia, by lia⟩, Or.inr ⟨by lia, Or.inr (Or.inr (Or.inl ⟨by lia, rfl⟩))⟩⟩ | exact Or.inr ⟨⟨by lia, by lia⟩, Or.inr ⟨by lia, Or.inr (Or.inr (Or.inr ⟨⟨by lia, by lia, by lia⟩, rfl⟩))⟩⟩)⟩
      · apply hB
        dsimp only [rgo, rfd, Bmethod_, Nat.beq, rwp, rst, lv_args, rlk, rs1, rs2, rdl, rky, rct, rcs, rcd, rno, rsw, Value.category, List.filter, List.take, List.drop, List.reverse, List.reverseAux, List.cons_append, List.nil_append, Option.toList, Int.toNat, Int.reduceToNat, if_pos, if_neg, reduceIte, ↓reduceIte, Nat.reduceAdd, Nat.reduceEqDiff, Nat.reduceBEq, beq_self_eq_true, Bool.not_true, Bool.not_false, Bool.and_true, Bool.and_false, Bool.true_and, Bool.false_and, gI_sI, gI_sL, gI_sA, gI_sM, gL_sI, gL_sL, gL_sA, gL_sM, aI_sI, aI_sL, aI_sA, aI_sM, aL_sI, aL_sL, aL_sA, aL_sM, Bmethod__0, Bmethod__4, Bmethod__12, Bmethod__14, Bmethod__20, Bmethod__33, Bmethod__50, Bmethod__54, Bmethod__63, Bmethod__68, Bmethod__77, Bmethod__82, Bmethod__91, Bmethod__92, oi_1, oi_10, oi_2, oi_m1]; try dsimp only
        refine ⟨rfl, fun h2 => ?_, fun h2 => ?_⟩
        · have hmk := hmt (by lia) (by lia)
          apply hB
          dsimp only [rgo, rfd, Bmethod_, Nat.beq, rwp, rst, lv_args, rlk, rs1, rs2, rdl, rky, rct, rcs, rcd, rno, rsw, Value.category, List.filter, List.take, List.drop, List.reverse, List.reverseAux, List.cons_append, List.nil_append, Option.toList, Int.toNat, Int.reduceToNat, if_pos, if_neg, reduceIte, ↓reduceIte, Nat.reduceAdd, Nat.reduceEqDiff, Nat.reduceBEq, beq_self_eq_true, Bool.not_true, Bool.not_false, Bool.and_true, Bool.and_false, Bool.true_and, Bool.false_and, gI_sI, gI_sL, gI_sA, gI_sM, gL_sI, gL_sL, gL_sA, gL_sM, aI_sI, aI_sL, aI_sA, aI_sM, aL_sI, aL_sL, aL_sA, aL_sM, Bmethod__0, Bmethod__4, Bmethod__12, Bmethod__14, Bmethod__20, Bmethod__33, Bmethod__50, Bmethod__54, Bmethod__63, Bmethod__68, Bmethod__77, Bmethod__82, Bmethod__91, Bmethod__92, oi_1, oi_10, oi_2, oi_m1]; try dsimp only
          refine ⟨fun h3 => ?_, fun h3 => ?_⟩
          · apply hB
            dsimp only [rgo, rfd, Bmethod_, Nat.beq, rwp, rst, lv_args, rlk, rs1, rs2, rdl, rky, rct, rcs, rcd, rno, rsw, Value.category, List.filter, List.take, List.drop, List.reverse, List.reverseAux, List.cons_append, List.nil_append, Option.toList, Int.toNat, Int.reduceToNat, if_pos, if_neg, reduceIte, ↓reduceIte, Nat.reduceAdd, Nat.reduceEqDiff, Nat.reduceBEq, beq_self_eq_true, Bool.not_true, Bool.not_false, Bool.and_true, Bool.and_false, Bool.true_and, Bool.false_and, gI_sI, gI_sL, gI_sA, gI_sM, gL_sI, gL_sL, gL_sA, gL_sM, aI_sI, aI_sL, aI_sA, aI_sM, aL_sI, aL_sL, aL_sA, aL_sM, Bmethod__0, Bmethod__4, Bmethod__12, Bmethod__14, Bmethod__20, Bmethod__33, Bmethod__50, Bmethod__54, Bmethod__63, Bmethod__68, Bmethod__77, Bmethod__82, Bmethod__91, Bmethod__92, oi_1, oi_10, oi_2, oi_m1]; try dsimp only
            refine ⟨fun h4 => ?_, fun h4 => ?_⟩
            · apply hB
              dsimp only [rgo, rfd, Bmethod_, Nat.beq, rwp, rst, lv_args, rlk, rs1, rs2, rdl, rky, rct, rcs, rcd, rno, rsw, Value.category, List.filter, List.take, List.drop, List.reverse, List.reverseAux, List.cons_append, List.nil_append, Option.toList, Int.toNat, Int.reduceToNat, if_pos, if_neg, reduceIte, ↓reduceIte, Nat.reduceAdd, Nat.reduceEqDiff, Nat.reduceBEq, beq_self_eq_true, Bool.not_true, Bool.not_false, Bool.and_true, Bool.and_false, Bool.true_and, Bool.false_and, gI_sI, gI_sL, gI_sA, gI_sM, gL_sI, gL_sL, gL_sA, gL_sM, aI_sI, aI_sL, aI_sA, aI_sM, aL_sI, aL_sL, aL_sA, aL_sM, Bmethod__0, Bmethod__4, Bmethod__12, Bmethod__14, Bmethod__20, Bmethod__33, Bmethod__50, Bmethod__54, Bmethod__63, Bmethod__68, Bmethod__77, Bmethod__82, Bmethod__91, Bmethod__92, oi_1, oi_10, oi_2, oi_m1]; try dsimp only
              refine ⟨fun h5 => ?_, fun h5 => ?_⟩
              · apply hB
                dsimp only [rgo, rfd, Bmethod_, Nat.beq, rwp, rst, lv_args, rlk, rs1, rs2, rdl, rky, rct, rcs, rcd, rno, rsw, Value.category, List.filter, List.take, List.drop, List.reverse, List.reverseAux, List.cons_append, List.nil_append, Option.toList, Int.toNat, Int.reduceToNat, if_pos, if_neg, reduceIte, ↓reduceIte, Nat.reduceAdd, Nat.reduceEqDiff, Nat.reduceBEq, beq_self_eq_true, Bool.not_true, Bool.not_false, Bool.and_true, Bool.and_false, Bool.true_and, Bool.false_and, gI_sI, gI_sL, gI_sA, gI_sM, gL_sI, gL_sL, gL_sA, gL_sM, aI_sI, aI_sL, aI_sA, aI_sM, aL_sI, aL_sL, aL_sA, aL_sM, Bmethod__0, Bmethod__4, Bmethod__12, Bmethod__14, Bmethod__20, Bmethod__33, Bmethod__50, Bmethod__54, Bmethod__63, Bmethod__68, Bmethod__77, Bmethod__82, Bmethod__91, Bmethod__92, oi_1, oi_10, oi_2, oi_m1]; try dsimp only
                refine ⟨fun h6 => ?_, fun h6 => ?_⟩
                · apply hB
                  dsimp only [rgo, rfd, Bmethod_, Nat.beq, rwp, rst, lv_args, rlk, rs1, rs2, rdl, rky, rct, rcs, rcd, rno, rsw, Value.category, List.filter, List.take, List.drop, List.reverse, List.reverseAux, List.cons_append, List.nil_append, Option.toList, Int.toNat, Int.reduceToNat, if_pos, if_neg, reduceIte, ↓reduceIte, Nat.reduceAdd, Nat.reduceEqDiff, Nat.reduceBEq, beq_self_eq_true, Bool.not_true, Bool.not_false, Bool.and_true, Bool.and_false, Bool.true_and, Bool.false_and, gI_sI, gI_sL, gI_sA, gI_sM, gL_sI, gL_sL, gL_sA, gL_sM, aI_sI, aI_sL, aI_sA, aI_sM, aL_sI, aL_sL, aL_sA, aL_sM, Bmethod__0, Bmethod__4, Bmethod__12, Bmethod__14, Bmethod__20, Bmethod__33, Bmethod__50, Bmethod__54, Bmethod__63, Bmethod__68, Bmethod__77, Bmethod__82, Bmethod__91, Bmethod__92, oi_1, oi_10, oi_2, oi_m1]; try dsimp only
                  apply hB
                  dsimp only [rgo, rfd, Bmethod_, Nat.beq, rwp, rst, lv_args, rlk, rs1, rs2, rdl, rky, rct, rcs, rcd, rno, rsw, Value.category, List.filter, List.take, List.drop, List.reverse, List.reverseAux, List.cons_append, List.nil_append, Option.toList, Int.toNat, Int.reduceToNat, if_pos, if_neg, reduceIte, ↓reduceIte, Nat.reduceAdd, Nat.reduceEqDiff, Nat.reduceBEq, beq_self_eq_true, Bool.not_true, Bool.not_false, Bool.and_true, Bool.and_false, Bool.true_and, Bool.false_and, gI_sI, gI_sL, gI_sA, gI_sM, gL_sI, gL_sL, gL_sA, gL_sM, aI_sI, aI_sL, aI_sA, aI_sM, aL_sI, aL_sL, aL_sA, aL_sM, Bmethod__0, Bmethod__4, Bmethod__12, Bmethod__14, Bmethod__20, Bmethod__33, Bmethod__50, Bmethod__54, Bmethod__63, Bmethod__68, Bmethod__77, Bmethod__82, Bmethod__91, Bmethod__92, oi_1, oi_10, oi_2, oi_m1]; try dsimp only
                  refine ⟨trivial, ?_⟩
                  exact ⟨_, rfl, rfl, (by first | exact Or.inl ⟨by lia, rfl⟩ | exact Or.inr ⟨⟨by lia, by lia⟩, Or.inl ⟨⟨by lia, by lia⟩, rfl⟩⟩ | exact Or.inr ⟨⟨by lia, by lia⟩, Or.inr ⟨by lia, Or.inl ⟨by lia, rfl⟩⟩⟩ | exact Or.inr ⟨⟨by lia, by lia⟩, Or.inr ⟨by lia, Or.inr (Or.inl ⟨by lia, rfl⟩)⟩⟩ | exact Or.inr ⟨⟨by lia, by lia⟩, Or.inr ⟨by lia, Or.inr (Or.inr (Or.inl ⟨by lia, rfl⟩))⟩⟩ | exact Or.inr ⟨⟨by lia, by lia⟩, Or.inr ⟨by lia, Or.inr (Or.inr (Or.inr ⟨⟨by lia, by lia, by lia⟩, rfl⟩))⟩⟩)⟩
                · apply hB
                  dsimp only [rgo, rfd, Bmethod_, Nat.beq, rwp, rst, lv_args, rlk, rs1, rs2, rdl, rky, rct, rcs, rcd, rno, rsw, Value.category, List.filter, List.take, List.drop, List.reverse, List.reverseAux, List.cons_append, List.nil_append, Option.toList, Int.toNat, Int.reduceToNat, if_pos, if_neg, reduceIte, ↓reduceIte, Nat.reduceAdd, Nat.reduceEqDiff, Nat.reduceBEq, beq_self_eq_true, Bool.not_true, Bool.not_false, Bool.and_true, Bool.and_false, Bool.true_and, Bool.false_and, gI_sI, gI_sL, gI_sA, gI_sM, gL_sI, gL_sL, gL_sA, gL_sM, aI_sI, aI_sL, aI_sA, aI_sM, aL_sI, aL_sL, aL_sA, aL_sM, Bmethod__0, Bmethod__4, Bmethod__12, Bmethod__14, Bmethod__20, Bmethod__33, Bmethod__50, Bmethod__54, Bmethod__63, Bmethod__68, Bmethod__77, Bmethod__82, Bmethod__91, Bmethod__92, oi_1, oi_10, oi_2, oi_m1]; try dsimp only
                  refine ⟨rfl, rfl, (in_39 (by lia) (by lia)), ?_⟩
                  apply hB
                  dsimp only [rgo, rfd, Bmethod_, Nat.beq, rwp, rst, lv_args, rlk, rs1, rs2, rdl, rky, rct, rcs, rcd, rno, rsw, Value.category, List.filter, List.take, List.drop, List.reverse, List.reverseAux, List.cons_append, List.nil_append, Option.toList, Int.toNat, Int.reduceToNat, if_pos, if_neg, reduceIte, ↓reduceIte, Nat.reduceAdd, Nat.reduceEqDiff, Nat.reduceBEq, beq_self_eq_true, Bool.not_true, Bool.not_false, Bool.and_true, Bool.and_false, Bool.true_and, Bool.false_and, gI_sI, gI_sL, gI_sA, gI_sM, gL_sI, gL_sL, gL_sA, gL_sM, aI_sI, aI_sL, aI_sA, aI_sM, aL_sI, aL_sL, aL_sA, aL_sM, Bmethod__0, Bmethod__4, Bmethod__12, Bmethod__14, Bmethod__20, Bmethod__33, Bmethod__50, Bmethod__54, Bmethod__63, Bmethod__68, Bmethod__77, Bmethod__82, Bmethod__91, Bmethod__92, oi_1, oi_10, oi_2, oi_m1]; try dsimp only
                  refine ⟨trivial, ?_⟩
                  exact ⟨_, rfl, rfl, (by first | exact Or.inl ⟨by lia, rfl⟩ | exact Or.inr ⟨⟨by lia, by lia⟩, Or.inl ⟨⟨by lia, by lia⟩, rfl⟩⟩ | exact Or.inr ⟨⟨by lia, by lia⟩, Or.inr ⟨by lia, Or.inl ⟨by lia, rfl⟩⟩⟩ | exact Or.inr ⟨⟨by lia, by lia⟩, Or.inr ⟨by lia, Or.inr (Or.inl ⟨by lia, rfl⟩)⟩⟩ | exact Or.inr ⟨⟨by lia, by lia⟩, Or.inr ⟨by lia, Or.inr (Or.inr (Or.inl ⟨by lia, rfl⟩))⟩⟩ | exact Or.inr ⟨⟨by lia, by lia⟩, Or.inr ⟨by lia, Or.inr (Or.inr (Or.inr ⟨⟨by lia, by lia, by lia⟩, rfl⟩))⟩⟩)⟩
              · apply hB
                dsimp only [rgo, rfd, Bmethod_, Nat.beq, rwp, rst, lv_args, rlk, rs1, rs2, rdl, rky, rct, rcs, rcd, rno, rsw, Value.category, List.filter, List.take, List.drop, List.reverse, List.reverseAux, List.cons_append, List.nil_append, Option.toList, Int.toNat, Int.reduceToNat, if_pos, if_neg, reduceIte, ↓reduceIte, Nat.reduceAdd, Nat.reduceEqDiff, Nat.reduceBEq, beq_self_eq_true, Bool.not_true, Bool.not_false, Bool.and_true, Bool.and_false, Bool.true_and, Bool.false_and, gI_sI, gI_sL, gI_sA, gI_sM, gL_sI, gL_sL, gL_sA, gL_sM, aI_sI, aI_sL, aI_sA, aI_sM, aL_sI, aL_sL, aL_sA, aL_sM, Bmethod__0, Bmethod__4, Bmethod__12, Bmethod__14, Bmethod__20, Bmethod__33, Bmethod__50, Bmethod__54, Bmethod__63, Bmethod__68, Bmethod__77, Bmethod__82, Bmethod__91, Bmethod__92, oi_1, oi_10, oi_2, oi_m1]; try dsimp only
                refine ⟨rfl, rfl, (in_38 (by lia) (by lia)), ?_⟩
                apply hB
                dsimp only [rgo, rfd, Bmethod_, Nat.beq, rwp, rst, lv_args, rlk, rs1, rs2, rdl, rky, rct, rcs, rcd, rno, rsw, Value.category, List.filter, List.take, List.drop, List.reverse, List.reverseAux, List.cons_append, List.nil_append, Option.toList, Int.toNat, Int.reduceToNat, if_pos, if_neg, reduceIte, ↓reduceIte, Nat.reduceAdd, Nat.reduceEqDiff, Nat.reduceBEq, beq_self_eq_true, Bool.not_true, Bool.not_false, Bool.and_true, Bool.and_false, Bool.true_and, Bool.false_and, gI_sI, gI_sL, gI_sA, gI_sM, gL_sI, gL_sL, gL_sA, gL_sM, aI_sI, aI_sL, aI_sA, aI_sM, aL_sI, aL_sL, aL_sA, aL_sM, Bmethod__0, Bmethod__4, Bmethod__12, Bmethod__14, Bmethod__20, Bmethod__33, Bmethod__50, Bmethod__54, Bmethod__63, Bmethod__68, Bmethod__77, Bmethod__82, Bmethod__91, Bmethod__92, oi_1, oi_10, oi_2, oi_m1]; try dsimp only
                refine ⟨trivial, ?_⟩
                exact ⟨_, rfl, rfl, (by first | exact Or.inl ⟨by lia, rfl⟩ | exact Or.inr ⟨⟨by lia, by lia⟩, Or.inl ⟨⟨by lia, by lia⟩, rfl⟩⟩ | exact Or.inr ⟨⟨by lia, by lia⟩, Or.inr ⟨by lia, Or.inl ⟨by lia, rfl⟩⟩⟩ | exact Or.inr ⟨⟨by lia, by lia⟩, Or.inr ⟨by lia, Or.inr (Or.inl ⟨by lia, rfl⟩)⟩⟩ | exact Or.inr ⟨⟨by lia, by lia⟩, Or.inr ⟨by lia, Or.inr (Or.inr (Or.inl ⟨by lia, rfl⟩))⟩⟩ | exact Or.inr ⟨⟨by lia, by lia⟩, Or.inr ⟨by lia, Or.inr (Or.inr (Or.inr ⟨⟨by lia, by lia, by lia⟩, rfl⟩))⟩⟩)⟩
            · apply hB
              dsimp only [rgo, rfd, Bmethod_, Nat.beq, rwp, rst, lv_args, rlk, rs1, rs2, rdl, rky, rct, rcs, rcd, rno, rsw, Value.category, List.filter, List.take, List.drop, List.reverse, List.reverseAux, List.cons_append, List.nil_append, Option.toList, Int.toNat, Int.reduceToNat, if_pos, if_neg, reduceIte, ↓reduceIte, Nat.reduceAdd, Nat.reduceEqDiff, Nat.reduceBEq, beq_self_eq_true, Bool.not_true, Bool.not_false, Bool.and_true, Bool.and_false, Bool.true_and, Bool.false_and, gI_sI, gI_sL, gI_sA, gI_sM, gL_sI, gL_sL, gL_sA, gL_sM, aI_sI, aI_sL, aI_sA, aI_sM, aL_sI, aL_sL, aL_sA, aL_sM, Bmethod__0, Bmethod__4, Bmethod__12, Bmethod__14, Bmethod__20, Bmethod__33, Bmethod__50, Bmethod__54, Bmethod__63, Bmethod__68, Bmethod__77, Bmethod__82, Bmethod__91, Bmethod__92, oi_1, oi_10, oi_2, oi_m1]; try dsimp only
              refine ⟨rfl, rfl, (in_37 (by lia) (by lia)), ?_⟩
              apply hB
              dsimp only [rgo, rfd, Bmethod_, Nat.beq, rwp, rst, lv_args, rlk, rs1, rs2, rdl, rky, rct, rcs, rcd, rno, rsw, Value.category, List.filter, List.take, List.drop, List.reverse, List.reverseAux, List.cons_append, List.nil_append, Option.toList, Int.toNat, Int.reduceToNat, if_pos, if_neg, reduceIte, ↓reduceIte, Nat.reduceAdd, Nat.reduceEqDiff, Nat.reduceBEq, beq_self_eq_true, Bool.not_true, Bool.not_false, Bool.and_true, Bool.and_false, Bool.true_and, Bool.false_and, gI_sI, gI_sL, gI_sA, gI_sM, gL_sI, gL_sL, gL_sA, gL_sM, aI_sI, aI_sL, aI_sA, aI_sM, aL_sI, aL_sL, aL_sA, aL_sM, Bmethod__0, Bmethod__4, Bmethod__12, Bmethod__14, Bmethod__20, Bmethod__33, Bmethod__50, Bmethod__54, Bmethod__63, Bmethod__68, Bmethod__77, Bmethod__82, Bmethod__91, Bmethod__92, oi_1, oi_10, oi_2, oi_m1]; try dsimp only
              refine ⟨trivial, ?_⟩
              exact ⟨_, rfl, rfl, (by first | exact Or.inl ⟨by lia, rfl⟩ | exact Or.inr ⟨⟨by lia, by lia⟩, Or.inl ⟨⟨by lia, by lia⟩, rfl⟩⟩ | exact Or.inr ⟨⟨by lia, by lia⟩, Or.inr ⟨by lia, Or.inl ⟨by lia, rfl⟩⟩⟩ | exact Or.inr ⟨⟨by lia, by lia⟩, Or.inr ⟨by lia, Or.inr (Or.inl ⟨by lia, rfl⟩)⟩⟩ | exact Or.inr ⟨⟨by lia, by lia⟩, Or.inr ⟨by lia, Or.inr (Or.inr (Or.inl ⟨by lia, rfl⟩))⟩⟩ | exact Or.inr ⟨⟨by lia, by lia⟩, Or.inr ⟨by lia, Or.inr (Or.inr (Or.inr ⟨⟨by lia, by lia, by lia⟩, rfl⟩))⟩⟩)⟩
          · apply hB
            dsimp only [rgo, rfd, Bmethod_, Nat.beq, rwp, rst, lv_args, rlk, rs1, rs2, rdl, rky, rct, rcs, rcd, rno, rsw, Value.category, List.filter, List.take, List.drop, List.reverse, List.reverseAux, List.cons_append, List.nil_append, Option.toList, Int.toNat, Int.reduceToNat, if_pos, if_neg, reduceIte, ↓reduceIte, Nat.reduceAdd, Nat.reduceEqDiff, Nat.reduceBEq, beq_self_eq_true, Bool.not_true, Bool.not_false, Bool.and_true, Bool.and_false, Bool.true_and, Bool.false_and, gI_sI, gI_sL, gI_sA, gI_sM, gL_sI, gL_sL, gL_sA, gL_sM, aI_sI, aI_sL, aI_sA, aI_sM, aL_sI, aL_sL, aL_sA, aL_sM, Bmethod__0, Bmethod__4, Bmethod__12, Bmethod__14, Bmethod__20, Bmethod__33, Bmethod__50, Bmethod__54, Bmethod__63, Bmethod__68, Bmethod__77, Bmethod__82, Bmethod__91, Bmethod__92, oi_1, oi_10, oi_2, oi_m1]; try dsimp only
            refine ⟨rfl, rfl, (in_39 (by lia) (by lia)), fun h7 => ?_, fun h7 => ?_⟩
            · apply hB
              dsimp only [rgo, rfd, Bmethod_, Nat.beq, rwp, rst, lv_args, rlk, rs1, rs2, rdl, rky, rct, rcs, rcd, rno, rsw, Value.category, List.filter, List.take, List.drop, List.reverse, List.reverseAux, List.cons_append, List.nil_append, Option.toList, Int.toNat, Int.reduceToNat, if_pos, if_neg, reduceIte, ↓reduceIte, Nat.reduceAdd, Nat.reduceEqDiff, Nat.reduceBEq, beq_self_eq_true, Bool.not_true, Bool.not_false, Bool.and_true, Bool.and_false, Bool.true_and, Bool.false_and, gI_sI, gI_sL, gI_sA, gI_sM, gL_sI, gL_sL, gL_sA, gL_sM, aI_sI, aI_sL, aI_sA, aI_sM, aL_sI, aL_sL, aL_sA, aL_sM, Bmethod__0, Bmethod__4, Bmethod__12, Bmethod__14, Bmethod__20, Bmethod__33, Bmethod__50, Bmethod__54, Bmethod__63, Bmethod__68, Bmethod__77, Bmethod__82, Bmethod__91, Bmethod__92, oi_1, oi_10, oi_2, oi_m1]; try dsimp only
              refine ⟨fun h8 => ?_, fun h8 => ?_⟩
              · apply hB
                dsimp only [rgo, rfd, Bmethod_, Nat.beq, rwp, rst, lv_args, rlk, rs1, rs2, rdl, rky, rct, rcs, rcd, rno, rsw, Value.category, List.filter, List.take, List.drop, List.reverse, List.reverseAux, List.cons_append, List.nil_append, Option.toList, Int.toNat, Int.reduceToNat, if_pos, if_neg, reduceIte, ↓reduceIte, Nat.reduceAdd, Nat.reduceEqDiff, Nat.reduceBEq, beq_self_eq_true, Bool.not_true, Bool.not_false, Bool.and_true, Bool.and_false, Bool.true_and, Bool.false_and, gI_sI, gI_sL, gI_sA, gI_sM, gL_sI, gL_sL, gL_sA, gL_sM, aI_sI, aI_sL, aI_sA, aI_sM, aL_sI, aL_sL, aL_sA, aL_sM, Bmethod__0, Bmethod__4, Bmethod__12, Bmethod__14, Bmethod__20, Bmethod__33, Bmethod__50, Bmethod__54, Bmethod__63, Bmethod__68, Bmethod__77, Bmethod__82, Bmethod__91, Bmethod__92, oi_1, oi_10, oi_2, oi_m1]; try dsimp only
                refine ⟨fun h9 => ?_, fun h9 => ?_⟩
                · apply hB
                  dsimp only [rgo, rfd, Bmethod_, Nat.beq, rwp, rst, lv_args, rlk, rs1, rs2, rdl, rky, rct, rcs, rcd, rno, rsw, Value.category, List.filter, List.take, List.drop, List.reverse, List.reverseAux, List.cons_append, List.nil_append, Option.toList, Int.toNat, Int.reduceToNat, if_pos, if_neg, reduceIte, ↓reduceIte, Nat.reduceAdd, Nat.reduceEqDiff, Nat.reduceBEq, beq_self_eq_true, Bool.not_true, Bool.not_false, Bool.and_true, Bool.and_false, Bool.true_and, Bool.false_and, gI_sI, gI_sL, gI_sA, gI_sM, gL_sI, gL_sL, gL_sA, gL_sM, aI_sI, aI_sL, aI_sA, aI_sM, aL_sI, aL_sL, aL_sA, aL_sM, Bmethod__0, Bmethod__4, Bmethod__12, Bmethod__14, Bmethod__20, Bmethod__33, Bmethod__50, Bmethod__54, Bmethod__63, Bmethod__68, Bmethod__77, Bmethod__82, Bmethod__91, Bmethod__92, oi_1, oi_10, oi_2, oi_m1]; try dsimp only
                  refine ⟨fun h10 => ?_, fun h10 => ?_⟩
                  · apply hB
                    dsimp only [rgo, rfd, Bmethod_, Nat.beq, rwp, rst, lv_args, rlk, rs1, rs2, rdl, rky, rct, rcs, rcd, rno, rsw, Value.category, List.filter, List.take, List.drop, List.reverse, List.reverseAux, List.cons_append, List.nil_append, Option.toList, Int.toNat, Int.reduceToNat, if_pos, if_neg, reduceIte, ↓reduceIte, Nat.reduceAdd, Nat.reduceEqDiff, Nat.reduceBEq, beq_self_eq_true, Bool.not_true, Bool.not_false, Bool.and_true, Bool.and_false, Bool.true_and, Bool.false_and, gI_sI, gI_sL, gI_sA, gI_sM, gL_sI, gL_sL, gL_sA, gL_sM, aI_sI, aI_sL, aI_sA, aI_sM, aL_sI, aL_sL, aL_sA, aL_sM, Bmethod__0, Bmethod__4, Bmethod__12, Bmethod__14, Bmethod__20, Bmethod__33, Bmethod__50, Bmethod__54, Bmethod__63, Bmethod__68, Bmethod__77, Bmethod__82, Bmethod__91, Bmethod__92, oi_1, oi_10, oi_2, oi_m1]; try dsimp only
                    apply hB
                    dsimp only [rgo, rfd, Bmethod_, Nat.beq, rwp, rst, lv_args, rlk, rs1, rs2, rdl, rky, rct, rcs, rcd, rno, rsw, Value.category, List.filter, List.take, List.drop, List.reverse, List.reverseAux, List.cons_append, List.nil_append, Option.toList, Int.toNat, Int.reduceToNat, if_pos, if_neg, reduceIte, ↓reduceIte, Nat.reduceAdd, Nat.reduceEqDiff, Nat.reduceBEq, beq_self_eq_true, Bool.not_true, Bool.not_false, Bool.and_true, Bool.and_false, Bool.true_and, Bool.false_and, gI_sI, gI_sL, gI_sA, gI_sM, gL_sI, gL_sL, gL_sA, gL_sM, aI_sI, aI_sL, aI_sA, aI_sM, aL_sI, aL_sL, aL_sA, aL_sM, Bmethod__0, Bmethod__4, Bmethod__12, Bmethod__14, Bmethod__20, Bmethod__33, Bmethod__50, Bmethod__54, Bmethod__63, Bmethod__68, Bmethod__77, Bmethod__82, Bmethod__91, Bmethod__92, oi_1, oi_10, oi_2, oi_m1]; try dsimp only
                    refine ⟨trivial, ?_⟩
                    exact ⟨_, rfl, rfl, (by first | exact Or.inl ⟨by lia, rfl⟩ | exact Or.inr ⟨⟨by lia, by lia⟩, Or.inl ⟨⟨by lia, by lia⟩, rfl⟩⟩ | exact Or.inr ⟨⟨by lia, by lia⟩, Or.inr ⟨by lia, Or.inl ⟨by lia, rfl⟩⟩⟩ | exact Or.inr ⟨⟨by lia, by lia⟩, Or.inr ⟨by lia, Or.inr (Or.inl ⟨by lia, rfl⟩)⟩⟩ | exact Or.inr ⟨⟨by lia, by lia⟩, Or.inr ⟨by lia, Or.inr (Or.inr (Or.inl ⟨by lia, rfl⟩))⟩⟩ | exact Or.inr ⟨⟨by lia, by lia⟩, Or.inr ⟨by lia, Or.inr (Or.inr (Or.inr ⟨⟨by lia, by lia, by lia⟩, rfl⟩))⟩⟩)⟩
                  · apply hB
                    dsimp only [rgo, rfd, Bmethod_, Nat.beq, rwp, rst, lv_args, rlk, rs1, rs2, rdl, rky, rct, rcs, rcd, rno, rsw, Value.category, List.filter, List.take, List.drop, List.reverse, List.reverseAux, List.cons_append, List.nil_append, Option.toList, Int.toNat, Int.reduceToNat, if_pos, if_neg, reduceIte, ↓reduceIte, Nat.reduceAdd, Nat.reduceEqDiff, Nat.reduceBEq, beq_self_eq_true, Bool.not_true, Bool.not_false, Bool.and_true, Bool.and_false, Bool.true_and, Bool.false_and, gI_sI, gI_sL, gI_sA, gI_sM, gL_sI, gL_sL, gL_sA, gL_sM, aI_sI, aI_sL, aI_sA, aI_sM, aL_sI, aL_sL, aL_sA, aL_sM, Bmethod__0, Bmethod__4, Bmethod__12, Bmethod__14, Bmethod__20, Bmethod__33, Bmethod__50, Bmethod__54, Bmethod__63, Bmethod__68, Bmethod__77, Bmethod__82, Bmethod__91, Bmethod__92, oi_1, oi_10, oi_2, oi_m1]; try dsimp only
                    refine ⟨rfl, rfl, (in_39 (by lia) (by lia)), ?_⟩
                    apply hB
                    dsimp only [rgo, rfd, Bmethod_, Nat.beq, rwp, rst, lv_args, rlk, rs1, rs2, rdl, rky, rct, rcs, rcd, rno, rsw, Value.category, List.filter, List.take, List.drop, List.reverse, List.reverseAux, List.cons_append, List.nil_append, Option.toList, Int.toNat, Int.reduceToNat, if_pos, if_neg, reduceIte, ↓reduceIte, Nat.reduceAdd, Nat.reduceEqDiff, Nat.reduceBEq, beq_self_eq_true, Bool.not_true, Bool.not_false, Bool.and_true, Bool.and_false, Bool.true_and, Bool.false_and, gI_sI, gI_sL, gI_sA, gI_sM, gL_sI, gL_sL, gL_sA, gL_sM, aI_sI, aI_sL, aI_sA, aI_sM, aL_sI, aL_sL, aL_sA, aL_sM, Bmethod__0, Bmethod__4, Bmethod__12, Bmethod__14, Bmethod__20, Bmethod__33, Bmethod__50, Bmethod__54, Bmethod__63, Bmethod__68, Bmethod__77, Bmethod__82, Bmethod__91, Bmethod__92, oi_1, oi_10, oi_2, oi_m1]; try dsimp only
                    refine ⟨trivial, ?_⟩
                    exact ⟨_, rfl, rfl, (by first | exact Or.inl ⟨by lia, rfl⟩ | exact Or.inr ⟨⟨by lia, by lia⟩, Or.inl ⟨⟨by lia, by lia⟩, rfl⟩⟩ | exact Or.inr ⟨⟨by lia, by lia⟩, Or.inr ⟨by lia, Or.inl ⟨by lia, rfl⟩⟩⟩ | exact Or.inr ⟨⟨by lia, by lia⟩, Or.inr ⟨by lia, Or.inr (Or.inl ⟨by lia, rfl⟩)⟩⟩ | exact Or.inr ⟨⟨by lia, by lia⟩, Or.inr ⟨by lia, Or.inr (Or.inr (Or.inl ⟨by lia, rfl⟩))⟩⟩ | exact Or.inr ⟨⟨by lia, by lia⟩, Or.inr ⟨by lia, Or.inr (Or.inr (Or.inr ⟨⟨by lia, by lia, by lia⟩, rfl⟩))⟩⟩)⟩
                · apply hB
                  dsimp only [rgo, rfd, Bmethod_, Nat.beq, rwp, rst, lv_args, rlk, rs1, rs2, rdl, rky, rct, rcs, rcd, rno, rsw, Value.category, List.filter, List.take, List.drop, List.reverse, List.reverseAux, List.cons_append, List.nil_append, Option.toList, Int.toNat, Int.reduceToNat, if_pos, if_neg, reduceIte, ↓reduceIte, Nat.reduceAdd, Nat.reduceEqDiff, Nat.reduceBEq, beq_self_eq_true, Bool.not_true, Bool.not_false, Bool.and_true, Bool.and_false, Bool.true_and, Bool.false_and, gI_sI, gI_sL, gI_sA, gI_sM, gL_sI, gL_sL, gL_sA, gL_sM, aI_sI, aI_sL, aI_sA, aI_sM, aL_sI, aL_sL, aL_sA, aL_sM, Bmethod__0, Bmethod__4, Bmethod__12, Bmethod__14, Bmethod__20, Bmethod__33, Bmethod__50, Bmethod__54, Bmethod__63, Bmethod__68, Bmethod__77, Bmethod__82, Bmethod__91, Bmethod__92, oi_1, oi_10, oi_2, oi_m1]; try dsimp only
                  refine ⟨rfl, rfl, (in_38 (by lia) (by lia)), ?_⟩
                  apply hB
                  dsimp only [rgo, rfd, Bmethod_, Nat.beq, rwp, rst, lv_args, rlk, rs1, rs2, rdl, rky, rct, rcs, rcd, rno, rsw, Value.category, List.filter, List.take, List.drop, List.reverse, List.reverseAux, List.cons_append, List.nil_append, Option.toList, Int.toNat, Int.reduceToNat, if_pos, if_neg, reduceIte, ↓reduceIte, Nat.reduceAdd, Nat.reduceEqDiff, Nat.reduceBEq, beq_self_eq_true, Bool.not_true, Bool.not_false, Bool.and_true, Bool.and_false, Bool.true_and, Bool.false_and, gI_sI, gI_sL, gI_sA, gI_sM, gL_sI, gL_sL, gL_sA, gL_sM, aI_sI, aI_sL, aI_sA, aI_sM, aL_sI, aL_sL, aL_sA, aL_sM, Bmethod__0, Bmethod__4, Bmethod__12, Bmethod__14, Bmethod__20, Bmethod__33, Bmethod__50, Bmethod__54, Bmethod__63, Bmethod__68, Bmethod__77, Bmethod__82, Bmethod__91, Bmethod__92, oi_1, oi_10, oi_2, oi_m1]; try dsimp only
                  refine ⟨trivial, ?_⟩
                  exact ⟨_, rfl, rfl, (by first | exact Or.inl ⟨by lia, rfl⟩ | exact Or.inr ⟨⟨by lia, by lia⟩, Or.inl ⟨⟨by lia, by lia⟩, rfl⟩⟩ | exact Or.inr ⟨⟨by lia, by lia⟩, Or.inr ⟨by lia, Or.inl ⟨by lia, rfl⟩⟩⟩ | exact Or.inr ⟨⟨by lia, by lia⟩, Or.inr ⟨by lia, Or.inr (Or.inl ⟨by lia, rfl⟩)⟩⟩ | exact Or.inr ⟨⟨by lia, by lia⟩, Or.inr ⟨by lia, Or.inr (Or.inr (Or.inl ⟨by lia, rfl⟩))⟩⟩ | exact Or.inr ⟨⟨by lia, by lia⟩, Or.inr ⟨by lia, Or.inr (Or.inr (Or.inr ⟨⟨by lia, by lia, by lia⟩, rfl⟩))⟩⟩)⟩
              · apply hB
                dsimp only [rgo, rfd, Bmethod_, Nat.beq, rwp, rst, lv_args, rlk, rs1, rs2, rdl, rky, rct, rcs, rcd, rno, rsw, Value.category, List.filter, List.take, List.drop, List.reverse, List.reverseAux, List.cons_append, List.nil_append, Option.toList, Int.toNat, Int.reduceToNat, if_pos, if_neg, reduceIte, ↓reduceIte, Nat.reduceAdd, Nat.reduceEqDiff, Nat.reduceBEq, beq_self_eq_true, Bool.not_true, Bool.not_false, Bool.and_true, Bool.and_false, Bool.true_and, Bool.false_and, gI_sI, gI_sL, gI_sA, gI_sM, gL_sI, gL_sL, gL_sA, gL_sM, aI_sI, aI_sL, aI_sA, aI_sM, aL_sI, aL_sL, aL_sA, aL_sM, Bmethod__0, Bmethod__4, Bmethod__12, Bmethod__14, Bmethod__20, Bmethod__33, Bmethod__50, Bmethod__54, Bmethod__63, Bmethod__68, Bmethod__77, Bmethod__82, Bmethod__91, Bmethod__92, oi_1, oi_10, oi_2, oi_m1]; try dsimp only
                refine ⟨rfl, rfl, (in_37 (by lia) (by lia)), ?_⟩
                apply hB
                dsimp only [rgo, rfd, Bmethod_, Nat.beq, rwp, rst, lv_args, rlk, rs1, rs2, rdl, rky, rct, rcs, rcd, rno, rsw, Value.category, List.filter, List.take, List.drop, List.reverse, List.reverseAux, List.cons_append, List.nil_append, Option.toList, Int.toNat, Int.reduceToNat, if_pos, if_neg, reduceIte, ↓reduceIte, Nat.reduceAdd, Nat.reduceEqDiff, Nat.reduceBEq, beq_self_eq_true, Bool.not_true, Bool.not_false, Bool.and_true, Bool.and_false, Bool.true_and, Bool.false_and, gI_sI, gI_sL, gI_sA, gI_sM, gL_sI, gL_sL, gL_sA, gL_sM, aI_sI, aI_sL, aI_sA, aI_sM, aL_sI, aL_sL, aL_sA, aL_sM, Bmethod__0, Bmethod__4, Bmethod__12, Bmethod__14, Bmethod__20, Bmethod__33, Bmethod__50, Bmethod__54, Bmethod__63, Bmethod__68, Bmethod__77, Bmethod__82, Bmethod__91, Bmethod__92, oi_1, oi_10, oi_2, oi_m1]; try dsimp only
                refine ⟨trivial, ?_⟩
                exact ⟨_, rfl, rfl, (by first | exact Or.inl ⟨by lia, rfl⟩ | exact Or.inr ⟨⟨by lia, by lia⟩, Or.inl ⟨⟨by lia, by lia⟩, rfl⟩⟩ | exact Or.inr ⟨⟨by lia, by lia⟩, Or.inr ⟨by lia, Or.inl ⟨by lia, rfl⟩⟩⟩ | exact Or.inr ⟨⟨by lia, by lia⟩, Or.inr ⟨by lia, Or.inr (Or.inl ⟨by lia, rfl⟩)⟩⟩ | exact Or.inr ⟨⟨by lia, by lia⟩, Or.inr ⟨by lia, Or.inr (Or.inr (Or.inl ⟨by lia, rfl⟩))⟩⟩ | exact Or.inr ⟨⟨by lia, by lia⟩, Or.inr ⟨by lia, Or.inr (Or.inr (Or.inr ⟨⟨by lia, by lia, by lia⟩, rfl⟩))⟩⟩)⟩
            · apply hB
              dsimp only [rgo, rfd, Bmethod_, Nat.beq, rwp, rst, lv_args, rlk, rs1, rs2, rdl, rky, rct, rcs, rcd, rno, rsw, Value.category, List.filter, List.take, List.drop, List.reverse, List.reverseAux, List.cons_append, List.nil_append, Option.toList, Int.toNat, Int.reduceToNat, if_pos, if_neg, reduceIte, ↓reduceIte, Nat.reduceAdd, Nat.reduceEqDiff, Nat.reduceBEq, beq_self_eq_true, Bool.not_true, Bool.not_false, Bool.and_true, Bool.and_false, Bool.true_and, Bool.false_and, gI_sI, gI_sL, gI_sA, gI_sM, gL_sI, gL_sL, gL_sA, gL_sM, aI_sI, aI_sL, aI_sA, aI_sM, aL_sI, aL_sL, aL_sA, aL_sM, Bmethod__0, Bmethod__4, Bmethod__12, Bmethod__14, Bmethod__20, Bmethod__33, Bmethod__50, Bmethod__54, Bmethod__63, Bmethod__68, Bmethod__77, Bmethod__82, Bmethod__91, Bmethod__92, oi_1, oi_10, oi_2, oi_m1]; try dsimp only
              refine ⟨rfl, rfl, rfl, (in_40 (by lia) (by lia)), rfl, (in_44 (by lia) (by lia)), trivial, ?_⟩
              exact ⟨_, rfl, rfl, (by first | exact Or.inl ⟨by lia, rfl⟩ | exact Or.inr ⟨⟨by lia, by lia⟩, Or.inl ⟨⟨by lia, by lia⟩, rfl⟩⟩ | exact Or.inr ⟨⟨by lia, by lia⟩, Or.inr ⟨by lia, Or.inl ⟨by lia, rfl⟩⟩⟩ | exact Or.inr ⟨⟨by lia, by lia⟩, Or.inr ⟨by lia, Or.inr (Or.inl ⟨by lia, rfl⟩)⟩⟩ | exact Or.inr ⟨⟨by lia, by lia⟩, Or.inr ⟨by lia, Or.inr (Or.inr (Or.inl ⟨by lia, rfl⟩))⟩⟩ | exact Or.inr ⟨⟨by lia, by lia⟩, Or.inr ⟨by lia, Or.inr (Or.inr (Or.inr ⟨⟨by lia, by lia, by lia⟩, rfl⟩))⟩⟩)⟩
        · apply hB
          dsimp only [rgo, rfd, Bmethod_, Nat.beq, rwp, rst, lv_args, rlk, rs1, rs2, rdl, rky, rct, rcs, rcd, rno, rsw, Value.category, List.filter, List.take, List.drop, List.reverse, List.reverseAux, List.cons_append, List.nil_append, Option.toList, Int.toNat, Int.reduceToNat, if_pos, if_neg, reduceIte, ↓reduceIte, Nat.reduceAdd, Nat.reduceEqDiff, Nat.reduceBEq, beq_self_eq_true, Bool.not_true, Bool.not_false, Bool.and_true, Bool.and_false, Bool.true_and, Bool.false_and, gI_sI, gI_sL, gI_sA, gI_sM, gL_sI, gL_sL, gL_sA, gL_sM, aI_sI, aI_sL, aI_sA, aI_sM, aL_sI, aL_sL, aL_sA, aL_sM, Bmethod__0, Bmethod__4, Bmethod__12, Bmethod__14, Bmethod__20, Bmethod__33, Bmethod__50, Bmethod__54, Bmethod__63, Bmethod__68, Bmethod__77, Bmethod__82, Bmethod__91, Bmethod__92, oi_1, oi_10, oi_2, oi_m1]; try dsimp only
          refine ⟨trivial, ?_⟩
          exact ⟨_, rfl, rfl, (by first | exact Or.inl ⟨by lia, rfl⟩ | exact Or.inr ⟨⟨by lia, by lia⟩, Or.inl ⟨⟨by lia, by lia⟩, rfl⟩⟩ | exact Or.inr ⟨⟨by lia, by lia⟩, Or.inr ⟨by lia, Or.inl ⟨by lia, rfl⟩⟩⟩ | exact Or.inr ⟨⟨by lia, by lia⟩, Or.inr ⟨by lia, Or.inr (Or.inl ⟨by lia, rfl⟩)⟩⟩ | exact Or.inr ⟨⟨by lia, by lia⟩, Or.inr ⟨by lia, Or.inr (Or.inr (Or.inl ⟨by lia, rfl⟩))⟩⟩ | exact Or.inr ⟨⟨by lia, by lia⟩, Or.inr ⟨by lia, Or.inr (Or.inr (Or.inr ⟨⟨by lia, by lia, by lia⟩, rfl⟩))⟩⟩)⟩
    next => exact hP.elim
def Pi_feed : RP := fun As σ => match As with
  | [.int a, .int b, .int c, .int d, .int e] => IV σ
  | _ => False
def Qi_feed : RQ := fun As σ w τ => match As with
  | [.int a, .int b, .int c, .int d, .int e] => ((2500 < gI σ 1 + 20 ∧ w = some (.int (-3)) ∧ gI τ 1 = gI σ 1) ∨ (gI σ 1 + 20 ≤ 2500 ∧ w = some (.int (gI τ 1)) ∧ gI τ 1 = gI σ 1 + 20)) ∧ IV τ ∧ gI τ 123 = gI σ 123 ∧ KpA σ τ ∧ ((2500 < gI σ 1 + 20 ∧ aI τ 0 = aI σ 0) ∨ (gI σ 1 + 20 ≤ 2500 ∧ aI τ 0 = fdk (aI σ 0) (nT (gI σ 1)) a b c d e))
  | _ => False
theorem pi_feed (As : List Value) (σ : RS) (h : Pi_feed As σ) : P_feed2 As σ := by
  unfold Pi_feed at h
  split at h
  next a b c d e => exact ⟨h.1.2.2.2.1.1, h.1.2.2.1.1⟩
  next => exact h.elim
theorem qi_feed (As : List Value) (σ : RS) (w : Option Value) (τ : RS) (h : Pi_feed As σ) (hq : Q_feed2 As σ w τ) : Qi_feed As σ w τ := by
  unfold Pi_feed at h
  split at h
  next a b c d e =>
    unfold Qi_feed
    dsimp only
    rcases hq with ⟨h2, rfl, rfl⟩ | ⟨h2, rfl, hv, hf, h1, hb, hz⟩
    · exact ⟨Or.inl ⟨h2, rfl, rfl⟩, h, rfl, KpA.rf, Or.inl ⟨h2, rfl⟩⟩
    · refine ⟨Or.inr ⟨h2, rfl, hv⟩, h.fn ⟨fun k hk => hf.1 k (fun q => by subst q; cases hk), fun k _ => hf.2.1 k, fun k hk => hf.2.2.1 k (fun q => by subst q; cases hk), fun k _ => hf.2.2.2 k⟩ hb h1 ?_, hf.1 123 (by decide), KpA.fn ⟨fun k hk => hf.1 k (fun q => by subst q; cases hk), fun k _ => hf.2.1 k, fun k hk => hf.2.2.1 k (fun q => by subst q; cases hk), fun k _ => hf.2.2.2 k⟩, Or.inr ⟨h2, hz⟩⟩
      rw [hf.1 123 (by decide)]
      exact h.1.2.2.2.2.1.1
  next => exact h.elim
theorem i_feed (l : Launch) : RMet l 2 0 Pi_feed Qi_feed := RMet.mono (m_feed2 l) pi_feed qi_feed
theorem q8_feed (As : List Value) (σ : RS) (w : Option Value) (τ : RS) (h : Pi_feed As σ) (hq : Q_feed2 As σ w τ) : F8 σ τ := by
  unfold Pi_feed at h
  split at h
  next a b c d e =>
    rcases hq with ⟨h2, rfl, rfl⟩ | ⟨h2, rfl, hv, hf, h1, hb, hz⟩
    · exact F8.rf
    · exact F8.fn ⟨fun k hk => hf.1 k (fun q => by subst q; cases hk), fun k _ => hf.2.1 k, fun k hk => hf.2.2.1 k (fun q => by subst q; cases hk), fun k _ => hf.2.2.2 k⟩
  next => exact h.elim
theorem i8_feed (l : Launch) : RMet l 2 0 Pi_feed (fun As σ w τ => Qi_feed As σ w τ ∧ F8 σ τ) := RMet.mono (m_feed2 l) pi_feed (fun As σ w τ h hq => ⟨qi_feed As σ w τ h hq, q8_feed As σ w τ h hq⟩)
def Pi_cut : RP := fun As σ => match As with
  | [.int n] => IV σ
  | _ => False
def Qi_cut : RQ := fun As σ w τ => match As with
  | [.int n] => (((n < 0 ∨ gI σ 1 < n) ∧ w = some (.int (-1)) ∧ gI τ 1 = gI σ 1) ∨ ((0 ≤ n ∧ n ≤ gI σ 1) ∧ w = some (.int (gI τ 1)) ∧ gI τ 1 = gI σ 1 - n)) ∧ IV τ ∧ gI τ 123 = gI σ 123 ∧ aI τ 0 = aI σ 0 ∧ KpA σ τ
  | _ => False
theorem pi_cut (As : List Value) (σ : RS) (h : Pi_cut As σ) : P_cut As σ := by
  unfold Pi_cut at h
  split at h
  next n => exact h.1.2.2.2.1.1
  next => exact h.elim
theorem qi_cut (As : List Value) (σ : RS) (w : Option Value) (τ : RS) (h : Pi_cut As σ) (hq : Q_cut As σ w τ) : Qi_cut As σ w τ := by
  unfold Pi_cut at h
  split at h
  next n =>
    unfold Qi_cut
    dsimp only
    rcases hq with ⟨h2, rfl, rfl⟩ | ⟨h1, rfl, rfl⟩
    · exact ⟨Or.inl ⟨h2, rfl, rfl⟩, h, rfl, rfl, KpA.rf⟩
    · have hb := h.1.2.2.2.1.1
      exact ⟨Or.inr ⟨h1, rfl, rfl⟩, h.fn (by repeat (first | exact Fn.rf | refine Fn.a ?_ rfl | refine Fn.i ?_ rfl | refine Fn.m ?_ rfl)) h.1.2.2.1.1 ⟨by show 0 ≤ gI σ 1 - n; lia, by show gI σ 1 - n ≤ 2500; lia⟩ h.1.2.2.2.2.1.1, rfl, rfl, KpA.fn (by repeat (first | exact Fn.rf | refine Fn.a ?_ rfl | refine Fn.i ?_ rfl | refine Fn.m ?_ rfl))⟩
  next => exact h.elim
theorem i_cut (l : Launch) : RMet l 1 2 Pi_cut Qi_cut := RMet.mono (m_cut l) pi_cut qi_cut
theorem q8_cut (As : List Value) (σ : RS) (w : Option Value) (τ : RS) (h : Pi_cut As σ) (hq : Q_cut As σ w τ) : F8 σ τ := by
  unfold Pi_cut at h
  split at h
  next n =>
    rcases hq with ⟨h2, rfl, rfl⟩ | ⟨h1, rfl, rfl⟩
    · exact F8.rf
    · exact F8.fn (by repeat (first | exact Fn.rf | refine Fn.a ?_ rfl | refine Fn.i ?_ rfl | refine Fn.m ?_ rfl))
  next => exact h.elim
theorem i8_cut (l : Launch) : RMet l 1 2 Pi_cut (fun As σ w τ => Qi_cut As σ w τ ∧ F8 σ τ) := RMet.mono (m_cut l) pi_cut (fun As σ w τ h hq => ⟨qi_cut As σ w τ h hq, q8_cut As σ w τ h hq⟩)
def Pi_read : RP := fun As σ => match As with
  | [] => IV σ
  | _ => False
def Qi_read : RQ := fun As σ w τ => match As with
  | [] => (∃ r : Int32, w = some (.int r) ∧ RnX σ r τ) ∧ IV τ ∧ (gI τ 1 = 0 ∧ gI τ 123 = gI σ 123)
  | _ => False
theorem pi_read (As : List Value) (σ : RS) (h : Pi_read As σ) : P_read As σ := by
  unfold Pi_read at h
  split at h
  next => exact h
  next => exact h.elim
theorem qi_read (As : List Value) (σ : RS) (w : Option Value) (τ : RS) (h : Pi_read As σ) (hq : Q_read As σ w τ) : Qi_read As σ w τ := by
  unfold Pi_read at h
  split at h
  next =>
    unfold Qi_read
    dsimp only
    obtain ⟨r, rfl, q, q1, q2⟩ := hq
    exact ⟨⟨_, rfl, q2⟩, q, q1⟩
  next => exact h.elim
theorem i_read (l : Launch) : RMet l 14 123 Pi_read Qi_read := RMet.mono (m_read l) pi_read qi_read
def Pi_place : RP := fun As σ => match As with
  | [] => IV σ
  | _ => False
def Qi_place : RQ := fun As σ w τ => match As with
  | [] => (∃ r : Int32, w = some (.int r)) ∧ IV τ ∧ (gI τ 1 = gI σ 1 ∧ gI τ 123 = gI σ 123 ∧ aI τ 0 = aI σ 0 ∧ KpA σ τ)
  | _ => False
theorem pi_place (As : List Value) (σ : RS) (h : Pi_place As σ) : P_place As σ := by
  unfold Pi_place at h
  split at h
  next => exact trivial
  next => exact h.elim
theorem qi_place (As : List Value) (σ : RS) (w : Option Value) (τ : RS) (h : Pi_place As σ) (hq : Q_place As σ w τ) : Qi_place As σ w τ := by
  unfold Pi_place at h
  split at h
  next =>
    unfold Qi_place
    dsimp only
    obtain ⟨rfl, rfl⟩ := hq
    exact ⟨⟨_, rfl⟩, h, rfl, rfl, rfl, KpA.rf⟩
  next => exact h.elim
theorem i_place (l : Launch) : RMet l 1 124 Pi_place Qi_place := RMet.mono (m_place l) pi_place qi_place
theorem q8_place (As : List Value) (σ : RS) (w : Option Value) (τ : RS) (h : Pi_place As σ) (hq : Q_place As σ w τ) : F8 σ τ := by
  unfold Pi_place at h
  split at h
  next =>
    obtain ⟨rfl, rfl⟩ := hq
    exact F8.rf
  next => exact h.elim
theorem i8_place (l : Launch) : RMet l 1 124 Pi_place (fun As σ w τ => Qi_place As σ w τ ∧ F8 σ τ) := RMet.mono (m_place l) pi_place (fun As σ w τ h hq => ⟨qi_place As σ w τ h hq, q8_place As σ w τ h hq⟩)
def Pi_judge : RP := fun As σ => match As with
  | [] => IV σ
  | _ => False
def Qi_judge : RQ := fun As σ w τ => match As with
  | [] => (∃ r : Int32, w = some (.int r)) ∧ IV τ ∧ (gI τ 1 = gI σ 1 ∧ gI τ 123 = gI σ 123 ∧ aI τ 0 = aI σ 0 ∧ KpA σ τ)
  | _ => False
theorem pi_judge (As : List Value) (σ : RS) (h : Pi_judge As σ) : P_judge As σ := by
  unfold Pi_judge at h
  split at h
  next => exact h.g
  next => exact h.elim
theorem qi_judge (As : List Value) (σ : RS) (w : Option Value) (τ : RS) (h : Pi_judge As σ) (hq : Q_judge As σ w τ) : Qi_judge As σ w τ := by
  unfold Pi_judge at h
  split at h
  next =>
    unfold Qi_judge
    dsimp only
    obtain ⟨r, X, b, rfl, hj, hf, rfl⟩ := hq
    have hx := h.fg hf hj
    exact ⟨⟨_, rfl⟩, hx.fn (by repeat (first | exact Fn.rf | refine Fn.a ?_ rfl | refine Fn.i ?_ rfl | refine Fn.m ?_ rfl)) hx.1.2.2.1.1 hx.1.2.2.2.1.1 hx.1.2.2.2.2.1.1, hf.1 1 rfl, hf.1 123 rfl, hf.2.2.1 0 rfl, (KpA.fg hf).tr (KpA.fn (by repeat (first | exact Fn.rf | refine Fn.a ?_ rfl | refine Fn.i ?_ rfl | refine Fn.m ?_ rfl)))⟩
  next => exact h.elim
theorem i_judge (l : Launch) : RMet l 8 126 Pi_judge Qi_judge := RMet.mono (m_judge l) pi_judge qi_judge
theorem i8_judge (l : Launch) : RMet l 8 126 Pi_judge (fun As σ w τ => Qi_judge As σ w τ ∧ EvM 126 As σ w τ) := RMet.mono (e_judge l) pi_judge (fun As σ w τ h hq => ⟨qi_judge As σ w τ h hq.1, hq.2⟩)
def Pi_told : RP := fun As σ => match As with
  | [.int what] => IV σ
  | _ => False
def Qi_told : RQ := fun As σ w τ => match As with
  | [.int what] => (∃ r : Int32, w = some (.int r)) ∧ IV τ ∧ (gI τ 1 = gI σ 1 ∧ gI τ 123 = gI σ 123 ∧ aI τ 0 = aI σ 0 ∧ KpA σ τ)
  | _ => False
theorem pi_told (As : List Value) (σ : RS) (h : Pi_told As σ) : P_told2 As σ := by
  unfold Pi_told at h
  split at h
  next what => exact h.1.1.2
  next => exact h.elim
theorem qi_told (As : List Value) (σ : RS) (w : Option Value) (τ : RS) (h : Pi_told As σ) (hq : Q_told2 As σ w τ) : Qi_told As σ w τ := by
  unfold Pi_told at h
  split at h
  next what =>
    unfold Qi_told
    dsimp only
    obtain ⟨r, rfl, rfl⟩ := hq
    exact ⟨⟨_, rfl⟩, h, rfl, rfl, rfl, KpA.rf⟩
  next => exact h.elim
theorem i_told (l : Launch) : RMet l 2 128 Pi_told Qi_told := RMet.mono (m_told2 l) pi_told qi_told
theorem q8_told (As : List Value) (σ : RS) (w : Option Value) (τ : RS) (h : Pi_told As σ) (hq : Q_told2 As σ w τ) : F8 σ τ := by
  unfold Pi_told at h
  split at h
  next what =>
    obtain ⟨r, rfl, rfl⟩ := hq
    exact F8.rf
  next => exact h.elim
theorem i8_told (l : Launch) : RMet l 2 128 Pi_told (fun As σ w τ => Qi_told As σ w τ ∧ F8 σ τ) := RMet.mono (m_told2 l) pi_told (fun As σ w τ h hq => ⟨qi_told As σ w τ h hq, q8_told As σ w τ h hq⟩)
def Pi_token : RP := fun As σ => match As with
  | [.int i, .int what] => IV σ
  | _ => False
def Qi_token : RQ := fun As σ w τ => match As with
  | [.int i, .int what] => (∃ r : Int32, w = some (.int r)) ∧ IV τ ∧ (gI τ 1 = gI σ 1 ∧ gI τ 123 = gI σ 123 ∧ aI τ 0 = aI σ 0 ∧ KpA σ τ)
  | _ => False
theorem pi_token (As : List Value) (σ : RS) (h : Pi_token As σ) : P_token As σ := by
  unfold Pi_token at h
  split at h
  next i what => exact h.1.1.2
  next => exact h.elim
theorem qi_token (As : List Value) (σ : RS) (w : Option Value) (τ : RS) (h : Pi_token As σ) (hq : Q_token As σ w τ) : Qi_token As σ w τ := by
  unfold Pi_token at h
  split at h
  next i what =>
    unfold Qi_token
    dsimp only
    obtain ⟨r, rfl, rfl⟩ := hq
    exact ⟨⟨_, rfl⟩, h, rfl, rfl, rfl, KpA.rf⟩
  next => exact h.elim
theorem i_token (l : Launch) : RMet l 3 130 Pi_token Qi_token := RMet.mono (m_token l) pi_token qi_token
theorem q8_token (As : List Value) (σ : RS) (w : Option Value) (τ : RS) (h : Pi_token As σ) (hq : Q_token As σ w τ) : F8 σ τ := by
  unfold Pi_token at h
  split at h
  next i what =>
    obtain ⟨r, rfl, rfl⟩ := hq
    exact F8.rf
  next => exact h.elim
theorem i8_token (l : Launch) : RMet l 3 130 Pi_token (fun As σ w τ => Qi_token As σ w τ ∧ F8 σ τ) := RMet.mono (m_token l) pi_token (fun As σ w τ h hq => ⟨qi_token As σ w τ h hq, q8_token As σ w τ h hq⟩)
def Pi_method : RP := fun As σ => match As with
  | [.int k, .int what] => IV σ
  | _ => False
def Qi_method : RQ := fun As σ w τ => match As with
  | [.int k, .int what] => (∃ r : Int32, w = some (.int r) ∧ (((k < 0 ∨ gI σ 36 ≤ k) ∧ r = -1) ∨ ((0 ≤ k ∧ k < gI σ 36) ∧ (((10 ≤ what ∧ what < 10 + aI σ 39 k.toNatClampNeg) ∧ r = aI σ 44 (nT (aI σ 40 k.toNatClampNeg + what - 10))) ∨ (¬ (10 ≤ what ∧ what < 10 + aI σ 39 k.toNatClampNeg) ∧ ((what = 0 ∧ r = aI σ 37 k.toNatClampNeg) ∨ (what = 1 ∧ r = aI σ 38 k.toNatClampNeg) ∨ (what = 2 ∧ r = aI σ 39 k.toNatClampNeg) ∨ ((¬ what = 0 ∧ ¬ what = 1 ∧ ¬ what = 2) ∧ r = -1))))))) ∧ IV τ ∧ (gI τ 1 = gI σ 1 ∧ gI τ 123 = gI σ 123 ∧ aI τ 0 = aI σ 0 ∧ KpA σ τ)
  | _ => False
theorem pi_method (As : List Value) (σ : RS) (h : Pi_method As σ) : P_method3 As σ := by
  unfold Pi_method at h
  split at h
  next k what => exact h.n3
  next => exact h.elim
theorem qi_method (As : List Value) (σ : RS) (w : Option Value) (τ : RS) (h : Pi_method As σ) (hq : Q_method3 As σ w τ) : Qi_method As σ w τ := by
  unfold Pi_method at h
  split at h
  next k what =>
    unfold Qi_method
    dsimp only
    obtain ⟨r, rfl, rfl, h1⟩ := hq
    exact ⟨⟨_, rfl, h1⟩, h, rfl, rfl, rfl, KpA.rf⟩
  next => exact h.elim
theorem i_method (l : Launch) : RMet l 1 131 Pi_method Qi_method := RMet.mono (m_method3 l) pi_method qi_method
theorem q8_method (As : List Value) (σ : RS) (w : Option Value) (τ : RS) (h : Pi_method As σ) (hq : Q_method3 As σ w τ) : F8 σ τ := by
  unfold Pi_method at h
  split at h
  next k what =>
    obtain ⟨r, rfl, rfl, h1⟩ := hq
    exact F8.rf
  next => exact h.elim
theorem i8_method (l : Launch) : RMet l 1 131 Pi_method (fun As σ w τ => Qi_method As σ w τ ∧ F8 σ τ) := RMet.mono (m_method3 l) pi_method (fun As σ w τ h hq => ⟨qi_method As σ w τ h hq, q8_method As σ w τ h hq⟩)
def Pi_variable : RP := fun As σ => match As with
  | [.int k, .int what] => IV σ
  | _ => False
def Qi_variable : RQ := fun As σ w τ => match As with
  | [.int k, .int what] => (∃ r : Int32, w = some (.int r)) ∧ IV τ ∧ (gI τ 1 = gI σ 1 ∧ gI τ 123 = gI σ 123 ∧ aI τ 0 = aI σ 0 ∧ KpA σ τ)
  | _ => False
theorem pi_variable (As : List Value) (σ : RS) (h : Pi_variable As σ) : P_variable3 As σ := by
  unfold Pi_variable at h
  split at h
  next k what => exact h.n3
  next => exact h.elim
theorem qi_variable (As : List Value) (σ : RS) (w : Option Value) (τ : RS) (h : Pi_variable As σ) (hq : Q_variable3 As σ w τ) : Qi_variable As σ w τ := by
  unfold Pi_variable at h
  split at h
  next k what =>
    unfold Qi_variable
    dsimp only
    obtain ⟨r, rfl, rfl⟩ := hq
    exact ⟨⟨_, rfl⟩, h, rfl, rfl, rfl, KpA.rf⟩
  next => exact h.elim
theorem i_variable (l : Launch) : RMet l 1 132 Pi_variable Qi_variable := RMet.mono (m_variable3 l) pi_variable qi_variable
theorem q8_variable (As : List Value) (σ : RS) (w : Option Value) (τ : RS) (h : Pi_variable As σ) (hq : Q_variable3 As σ w τ) : F8 σ τ := by
  unfold Pi_variable at h
  split at h
  next k what =>
    obtain ⟨r, rfl, rfl⟩ := hq
    exact F8.rf
  next => exact h.elim
theorem i8_variable (l : Launch) : RMet l 1 132 Pi_variable (fun As σ w τ => Qi_variable As σ w τ ∧ F8 σ τ) := RMet.mono (m_variable3 l) pi_variable (fun As σ w τ h hq => ⟨qi_variable As σ w τ h hq, q8_variable As σ w τ h hq⟩)
def Pi_means : RP := fun As σ => match As with
  | [.int i] => IV σ
  | _ => False
def Qi_means : RQ := fun As σ w τ => match As with
  | [.int i] => (∃ r : Int32, w = some (.int r)) ∧ IV τ ∧ (gI τ 1 = gI σ 1 ∧ gI τ 123 = gI σ 123 ∧ aI τ 0 = aI σ 0 ∧ KpA σ τ)
  | _ => False
theorem pi_means (As : List Value) (σ : RS) (h : Pi_means As σ) : P_means As σ := by
  unfold Pi_means at h
  split at h
  next i => exact h.g
  next => exact h.elim
theorem qi_means (As : List Value) (σ : RS) (w : Option Value) (τ : RS) (h : Pi_means As σ) (hq : Q_means As σ w τ) : Qi_means As σ w τ := by
  unfold Pi_means at h
  split at h
  next i =>
    unfold Qi_means
    dsimp only
    obtain ⟨r, rfl, rfl | ⟨hj, hf⟩⟩ := hq
    · exact ⟨⟨_, rfl⟩, h, rfl, rfl, rfl, KpA.rf⟩
    · exact ⟨⟨_, rfl⟩, h.fg hf hj, hf.1 1 rfl, hf.1 123 rfl, hf.2.2.1 0 rfl, KpA.fg hf⟩
  next => exact h.elim
theorem i_means (l : Launch) : RMet l 8 133 Pi_means Qi_means := RMet.mono (m_means l) pi_means qi_means
theorem i8_means (l : Launch) : RMet l 8 133 Pi_means (fun As σ w τ => Qi_means As σ w τ ∧ EvM 133 As σ w τ) := RMet.mono (e_means l) pi_means (fun As σ w τ h hq => ⟨qi_means As σ w τ h hq.1, hq.2⟩)
def Pi_type : RP := fun As σ => match As with
  | [.int i, .int k] => IV σ
  | _ => False
def Qi_type : RQ := fun As σ w τ => match As with
  | [.int i, .int k] => (∃ r : Int32, w = some (.int r)) ∧ IV τ ∧ (gI τ 1 = gI σ 1 ∧ gI τ 123 = gI σ 123 ∧ aI τ 0 = aI σ 0 ∧ KpA σ τ)
  | _ => False
theorem pi_type (As : List Value) (σ : RS) (h : Pi_type As σ) : P_type As σ := by
  unfold Pi_type at h
  split at h
  next i k => exact h.g
  next => exact h.elim
theorem qi_type (As : List Value) (σ : RS) (w : Option Value) (τ : RS) (h : Pi_type As σ) (hq : Q_type As σ w τ) : Qi_type As σ w τ := by
  unfold Pi_type at h
  split at h
  next i k =>
    unfold Qi_type
    dsimp only
    obtain ⟨r, rfl, hj, hf⟩ := hq
    exact ⟨⟨_, rfl⟩, h.fg hf hj, hf.1 1 rfl, hf.1 123 rfl, hf.2.2.1 0 rfl, KpA.fg hf⟩
  next => exact h.elim
theorem i_type (l : Launch) : RMet l 8 135 Pi_type Qi_type := RMet.mono (m_type l) pi_type qi_type
theorem i8_type (l : Launch) : RMet l 8 135 Pi_type (fun As σ w τ => Qi_type As σ w τ ∧ EvM 135 As σ w τ) := RMet.mono (e_type l) pi_type (fun As σ w τ h hq => ⟨qi_type As σ w τ h hq.1, hq.2⟩)
def Pi_constant : RP := fun As σ => match As with
  | [.int i, .int k] => IV σ
  | _ => False
def Qi_constant : RQ := fun As σ w τ => match As with
  | [.int i, .int k] => (∃ r : Int64, w = some (.long r)) ∧ IV τ ∧ (gI τ 1 = gI σ 1 ∧ gI τ 123 = gI σ 123 ∧ aI τ 0 = aI σ 0 ∧ KpA σ τ)
  | _ => False
theorem pi_constant (As : List Value) (σ : RS) (h : Pi_constant As σ) : P_constant As σ := by
  unfold Pi_constant at h
  split at h
  next i k => exact h.g
  next => exact h.elim
theorem qi_constant (As : List Value) (σ : RS) (w : Option Value) (τ : RS) (h : Pi_constant As σ) (hq : Q_constant As σ w τ) : Qi_constant As σ w τ := by
  unfold Pi_constant at h
  split at h
  next i k =>
    unfold Qi_constant
    dsimp only
    obtain ⟨r, rfl, hj, hf⟩ := hq
    exact ⟨⟨_, rfl⟩, h.fg hf hj, hf.1 1 rfl, hf.1 123 rfl, hf.2.2.1 0 rfl, KpA.fg hf⟩
  next => exact h.elim
theorem i_constant (l : Launch) : RMet l 8 136 Pi_constant Qi_constant := RMet.mono (m_constant l) pi_constant qi_constant
theorem i8_constant (l : Launch) : RMet l 8 136 Pi_constant (fun As σ w τ => Qi_constant As σ w τ ∧ EvM 136 As σ w τ) := RMet.mono (e_constant l) pi_constant (fun As σ w τ h hq => ⟨qi_constant As σ w τ h hq.1, hq.2⟩)
def Pi_ends : RP := fun As σ => match As with
  | [.int i] => IV σ
  | _ => False
def Qi_ends : RQ := fun As σ w τ => match As with
  | [.int i] => (∃ r : Int32, w = some (.int r)) ∧ IV τ ∧ (gI τ 1 = gI σ 1 ∧ gI τ 123 = gI σ 123 ∧ aI τ 0 = aI σ 0 ∧ KpA σ τ)
  | _ => False
theorem pi_ends (As : List Value) (σ : RS) (h : Pi_ends As σ) : P_ends As σ := by
  unfold Pi_ends at h
  split at h
  next i => exact h.g
  next => exact h.elim
theorem qi_ends (As : List Value) (σ : RS) (w : Option Value) (τ : RS) (h : Pi_ends As σ) (hq : Q_ends As σ w τ) : Qi_ends As σ w τ := by
  unfold Pi_ends at h
  split at h
  next i =>
    unfold Qi_ends
    dsimp only
    obtain ⟨r, rfl, hj, hf⟩ := hq
    exact ⟨⟨_, rfl⟩, h.fg hf hj, hf.1 1 rfl, hf.1 123 rfl, hf.2.2.1 0 rfl, KpA.fg hf⟩
  next => exact h.elim
theorem i_ends (l : Launch) : RMet l 8 137 Pi_ends Qi_ends := RMet.mono (m_ends l) pi_ends qi_ends
theorem i8_ends (l : Launch) : RMet l 8 137 Pi_ends (fun As σ w τ => Qi_ends As σ w τ ∧ EvM 137 As σ w τ) := RMet.mono (e_ends l) pi_ends (fun As σ w τ h hq => ⟨qi_ends As σ w τ h hq.1, hq.2⟩)
def Pi_assigned : RP := fun As σ => match As with
  | [.int i, .int k] => IV σ
  | _ => False
def Qi_assigned : RQ := fun As σ w τ => match As with
  | [.int i, .int k] => (∃ r : Int32, w = some (.int r)) ∧ IV τ ∧ (gI τ 1 = gI σ 1 ∧ gI τ 123 = gI σ 123 ∧ aI τ 0 = aI σ 0 ∧ KpA σ τ)
  | _ => False
theorem pi_assigned (As : List Value) (σ : RS) (h : Pi_assigned As σ) : P_assigned As σ := by
  unfold Pi_assigned at h
  split at h
  next i k => exact h.g
  next => exact h.elim
theorem qi_assigned (As : List Value) (σ : RS) (w : Option Value) (τ : RS) (h : Pi_assigned As σ) (hq : Q_assigned As σ w τ) : Qi_assigned As σ w τ := by
  unfold Pi_assigned at h
  split at h
  next i k =>
    unfold Qi_assigned
    dsimp only
    obtain ⟨r, rfl, hj, hf⟩ := hq
    exact ⟨⟨_, rfl⟩, h.fg hf hj, hf.1 1 rfl, hf.1 123 rfl, hf.2.2.1 0 rfl, KpA.fg hf⟩
  next => exact h.elim
theorem i_assigned (l : Launch) : RMet l 8 138 Pi_assigned Qi_assigned := RMet.mono (m_assigned l) pi_assigned qi_assigned
theorem i8_assigned (l : Launch) : RMet l 8 138 Pi_assigned (fun As σ w τ => Qi_assigned As σ w τ ∧ EvM 138 As σ w τ) := RMet.mono (e_assigned l) pi_assigned (fun As σ w τ h hq => ⟨qi_assigned As σ w τ h hq.1, hq.2⟩)
def Pi_argument : RP := fun As σ => match As with
  | [.int i, .long v] => IV σ
  | _ => False
def Qi_argument : RQ := fun As σ w τ => match As with
  | [.int i, .long v] => (((i < 0 ∨ 5 < i) ∧ w = some (.int (-1))) ∨ ((0 ≤ i ∧ i ≤ 5) ∧ w = some (.int 1))) ∧ IV τ ∧ (gI τ 1 = gI σ 1 ∧ gI τ 123 = gI σ 123 ∧ aI τ 0 = aI σ 0 ∧ KpA σ τ)
  | _ => False
theorem pi_argument (As : List Value) (σ : RS) (h : Pi_argument As σ) : P_argument As σ := by
  unfold Pi_argument at h
  split at h
  next i v => exact trivial
  next => exact h.elim
theorem qi_argument (As : List Value) (σ : RS) (w : Option Value) (τ : RS) (h : Pi_argument As σ) (hq : Q_argument As σ w τ) : Qi_argument As σ w τ := by
  unfold Pi_argument at h
  split at h
  next i v =>
    unfold Qi_argument
    dsimp only
    rcases hq with ⟨h1, rfl, rfl⟩ | ⟨h1, rfl, f, rfl⟩
    · exact ⟨Or.inl ⟨h1, rfl⟩, h, rfl, rfl, rfl, KpA.rf⟩
    · exact ⟨Or.inr ⟨h1, rfl⟩, h.fn (by repeat (first | exact Fn.rf | refine Fn.a ?_ rfl | refine Fn.i ?_ rfl | refine Fn.m ?_ rfl)) h.1.2.2.1.1 h.1.2.2.2.1.1 h.1.2.2.2.2.1.1, rfl, rfl, rfl, KpA.fn (by repeat (first | exact Fn.rf | refine Fn.a ?_ rfl | refine Fn.i ?_ rfl | refine Fn.m ?_ rfl))⟩
  next => exact h.elim
theorem i_argument (l : Launch) : RMet l 1 139 Pi_argument Qi_argument := RMet.mono (m_argument l) pi_argument qi_argument
theorem q8_argument (As : List Value) (σ : RS) (w : Option Value) (τ : RS) (h : Pi_argument As σ) (hq : Q_argument As σ w τ) : F8 σ τ := by
  unfold Pi_argument at h
  split at h
  next i v =>
    rcases hq with ⟨h1, rfl, rfl⟩ | ⟨h1, rfl, f, rfl⟩
    · exact F8.rf
    · exact F8.fn (by repeat (first | exact Fn.rf | refine Fn.a ?_ rfl | refine Fn.i ?_ rfl | refine Fn.m ?_ rfl))
  next => exact h.elim
theorem i8_argument (l : Launch) : RMet l 1 139 Pi_argument (fun As σ w τ => Qi_argument As σ w τ ∧ F8 σ τ) := RMet.mono (m_argument l) pi_argument (fun As σ w τ h hq => ⟨qi_argument As σ w τ h hq, q8_argument As σ w τ h hq⟩)
def Pi_input : RP := fun As σ => match As with
  | [.int v] => IV σ
  | _ => False
def Qi_input : RQ := fun As σ w τ => match As with
  | [.int v] => ((gI σ 123 = 40 ∧ w = some (.int (-3)) ∧ gI τ 123 = gI σ 123) ∨ (gI σ 123 < 40 ∧ w = some (.int (gI τ 123)) ∧ gI τ 123 = gI σ 123 + 1)) ∧ IV τ ∧ gI τ 1 = gI σ 1 ∧ aI τ 0 = aI σ 0 ∧ KpA σ τ
  | _ => False
theorem pi_input (As : List Value) (σ : RS) (h : Pi_input As σ) : P_input As σ := by
  unfold Pi_input at h
  split at h
  next v => exact h.1.2.2.2.2.1.1
  next => exact h.elim
theorem qi_input (As : List Value) (σ : RS) (w : Option Value) (τ : RS) (h : Pi_input As σ) (hq : Q_input As σ w τ) : Qi_input As σ w τ := by
  unfold Pi_input at h
  split at h
  next v =>
    unfold Qi_input
    dsimp only
    rcases hq with ⟨h2, rfl, rfl⟩ | ⟨h1, rfl, f, rfl⟩
    · exact ⟨Or.inl ⟨h2, rfl, rfl⟩, h, rfl, rfl, KpA.rf⟩
    · have hb := h.1.2.2.2.2.1.1
      exact ⟨Or.inr ⟨h1, rfl, rfl⟩, h.fn (by repeat (first | exact Fn.rf | refine Fn.a ?_ rfl | refine Fn.i ?_ rfl | refine Fn.m ?_ rfl)) h.1.2.2.1.1 h.1.2.2.2.1.1 ⟨by show 0 ≤ gI σ 123 + 1; lia, by show gI σ 123 + 1 ≤ 40; lia⟩, rfl, rfl, KpA.fn (by repeat (first | exact Fn.rf | refine Fn.a ?_ rfl | refine Fn.i ?_ rfl | refine Fn.m ?_ rfl))⟩
  next => exact h.elim
theorem i_input (l : Launch) : RMet l 1 140 Pi_input Qi_input := RMet.mono (m_input l) pi_input qi_input
theorem q8_input (As : List Value) (σ : RS) (w : Option Value) (τ : RS) (h : Pi_input As σ) (hq : Q_input As σ w τ) : F8 σ τ := by
  unfold Pi_input at h
  split at h
  next v =>
    rcases hq with ⟨h2, rfl, rfl⟩ | ⟨h1, rfl, f, rfl⟩
    · exact F8.rf
    · exact F8.fn (by repeat (first | exact Fn.rf | refine Fn.a ?_ rfl | refine Fn.i ?_ rfl | refine Fn.m ?_ rfl))
  next => exact h.elim
theorem i8_input (l : Launch) : RMet l 1 140 Pi_input (fun As σ w τ => Qi_input As σ w τ ∧ F8 σ τ) := RMet.mono (m_input l) pi_input (fun As σ w τ h hq => ⟨qi_input As σ w τ h hq, q8_input As σ w τ h hq⟩)
def Pi_drain : RP := fun As σ => match As with
  | [] => IV σ
  | _ => False
def Qi_drain : RQ := fun As σ w τ => match As with
  | [] => (w = some (.int (gI σ 123)) ∧ gI τ 123 = 0) ∧ IV τ ∧ gI τ 1 = gI σ 1 ∧ aI τ 0 = aI σ 0 ∧ KpA σ τ
  | _ => False
theorem pi_drain (As : List Value) (σ : RS) (h : Pi_drain As σ) : P_drain As σ := by
  unfold Pi_drain at h
  split at h
  next => exact trivial
  next => exact h.elim
theorem qi_drain (As : List Value) (σ : RS) (w : Option Value) (τ : RS) (h : Pi_drain As σ) (hq : Q_drain As σ w τ) : Qi_drain As σ w τ := by
  unfold Pi_drain at h
  split at h
  next =>
    unfold Qi_drain
    dsimp only
    obtain ⟨rfl, rfl⟩ := hq
    exact ⟨⟨rfl, rfl⟩, h.fn (by repeat (first | exact Fn.rf | refine Fn.a ?_ rfl | refine Fn.i ?_ rfl | refine Fn.m ?_ rfl)) h.1.2.2.1.1 h.1.2.2.2.1.1 ⟨by show (0 : Int32) ≤ 0; decide, by show (0 : Int32) ≤ 40; decide⟩, rfl, rfl, KpA.fn (by repeat (first | exact Fn.rf | refine Fn.a ?_ rfl | refine Fn.i ?_ rfl | refine Fn.m ?_ rfl))⟩
  next => exact h.elim
theorem i_drain (l : Launch) : RMet l 1 141 Pi_drain Qi_drain := RMet.mono (m_drain l) pi_drain qi_drain
theorem q8_drain (As : List Value) (σ : RS) (w : Option Value) (τ : RS) (h : Pi_drain As σ) (hq : Q_drain As σ w τ) : F8 σ τ := by
  unfold Pi_drain at h
  split at h
  next =>
    obtain ⟨rfl, rfl⟩ := hq
    exact F8.fn (by repeat (first | exact Fn.rf | refine Fn.a ?_ rfl | refine Fn.i ?_ rfl | refine Fn.m ?_ rfl))
  next => exact h.elim
theorem i8_drain (l : Launch) : RMet l 1 141 Pi_drain (fun As σ w τ => Qi_drain As σ w τ ∧ F8 σ τ) := RMet.mono (m_drain l) pi_drain (fun As σ w τ h hq => ⟨qi_drain As σ w τ h hq, q8_drain As σ w τ h hq⟩)
def Pi_run : RP := fun As σ => match As with
  | [.int k, .int limit] => IV σ
  | _ => False
def Qi_run : RQ := fun As σ w τ => match As with
  | [.int k, .int limit] => (∃ r : Int32, w = some (.int r)) ∧ IV τ ∧ (gI τ 1 = gI σ 1 ∧ gI τ 123 = gI σ 123 ∧ aI τ 0 = aI σ 0 ∧ KpA σ τ)
  | _ => False
theorem pi_run (As : List Value) (σ : RS) (h : Pi_run As σ) : P_runh As σ := by
  unfold Pi_run at h
  split at h
  next k limit => exact ⟨h.g, h.1.2.2.2.2.1.1, h.1.2.2.2.2.1.2⟩
  next => exact h.elim
theorem qi_run (As : List Value) (σ : RS) (w : Option Value) (τ : RS) (h : Pi_run As σ) (hq : Q_runh As σ w τ) : Qi_run As σ w τ := by
  unfold Pi_run at h
  split at h
  next k limit =>
    unfold Qi_run
    dsimp only
    obtain ⟨r, rfl, rfl | ⟨hj, hf, h8⟩⟩ := hq
    · exact ⟨⟨_, rfl⟩, h, rfl, rfl, rfl, KpA.rf⟩
    · exact ⟨⟨_, rfl⟩, h.fo hf.1 hj h8, hf.1.1 1 rfl, hf.1.1 123 rfl, hf.1.2.2.1 0 rfl, KpA.fo hf.1⟩
  next => exact h.elim
theorem i_run (l : Launch) : RMet l 8 151 Pi_run Qi_run := RMet.mono (m_runh l) pi_run qi_run
theorem q8_run (As : List Value) (σ : RS) (w : Option Value) (τ : RS) (h : Pi_run As σ) (hq : Q_runh As σ w τ) : (τ = σ ∨ HX σ τ) := by
  unfold Pi_run at h
  split at h
  next k limit =>
    obtain ⟨r, rfl, rfl | ⟨hj, hf, h8⟩⟩ := hq
    · exact Or.inl rfl
    · exact Or.inr hf.2
  next => exact h.elim
theorem i8_run (l : Launch) : RMet l 8 151 Pi_run (fun As σ w τ => Qi_run As σ w τ ∧ (τ = σ ∨ HX σ τ)) := RMet.mono (m_runh l) pi_run (fun As σ w τ h hq => ⟨qi_run As σ w τ h hq, q8_run As σ w τ h hq⟩)
def Pi_ran : RP := fun As σ => match As with
  | [.int what] => IV σ
  | _ => False
def Qi_ran : RQ := fun As σ w τ => match As with
  | [.int what] => (∃ r : Int64, w = some (.long r)) ∧ IV τ ∧ (gI τ 1 = gI σ 1 ∧ gI τ 123 = gI σ 123 ∧ aI τ 0 = aI σ 0 ∧ KpA σ τ)
  | _ => False
theorem pi_ran (As : List Value) (σ : RS) (h : Pi_ran As σ) : P_ran As σ := by
  unfold Pi_ran at h
  split at h
  next what => exact h.1.2.2.2.2.1.2
  next => exact h.elim
theorem qi_ran (As : List Value) (σ : RS) (w : Option Value) (τ : RS) (h : Pi_ran As σ) (hq : Q_ran As σ w τ) : Qi_ran As σ w τ := by
  unfold Pi_ran at h
  split at h
  next what =>
    unfold Qi_ran
    dsimp only
    obtain ⟨r, rfl, rfl⟩ := hq
    exact ⟨⟨_, rfl⟩, h, rfl, rfl, rfl, KpA.rf⟩
  next => exact h.elim
theorem i_ran (l : Launch) : RMet l 1 160 Pi_ran Qi_ran := RMet.mono (m_ran l) pi_ran qi_ran
theorem q8_ran (As : List Value) (σ : RS) (w : Option Value) (τ : RS) (h : Pi_ran As σ) (hq : Q_ran As σ w τ) : F8 σ τ := by
  unfold Pi_ran at h
  split at h
  next what =>
    obtain ⟨r, rfl, rfl⟩ := hq
    exact F8.rf
  next => exact h.elim
theorem i8_ran (l : Launch) : RMet l 1 160 Pi_ran (fun As σ w τ => Qi_ran As σ w τ ∧ F8 σ τ) := RMet.mono (m_ran l) pi_ran (fun As σ w τ h hq => ⟨qi_ran As σ w τ h hq, q8_ran As σ w τ h hq⟩)

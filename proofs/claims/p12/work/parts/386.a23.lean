/-! the reference judges all -/
def clrR (σ : RS) (k : Nat) : Nat → Int32 := fun q => if q < k then -2 else aI σ 80 q
theorem clr_s {σ : RS} {k : Nat} : upd (clrR σ k) k (-2) = clrR σ (k + 1) := by
  funext q
  unfold clrR upd
  by_cases e : q = k
  · rw [if_pos e, if_pos (by omega)]
  · rw [if_neg e]
    show (if q < k then (-2 : Int32) else aI σ 80 q) = _
    by_cases h : q < k
    · rw [if_pos h, if_pos (by omega)]
    · rw [if_neg h, if_neg (by omega)]
theorem clr_0 {σ : RS} : clrR σ 0 = aI σ 80 := by
  funext q
  exact if_neg (Nat.not_lt_zero _)
/-- meanings of variables' NAMES over g -/
def vnR (σ : RS) (g : Nat → Int32) : Nat → Nat → Int32
  | 0 => g
  | k + 1 => upd (vnR σ g k) (aI σ 43 k).toNatClampNeg (Int32.ofInt k)
theorem okl_sf {C : CxT} {N : Int → Int} {T0 : TbT} {l : List ItZ} : ∀ {L : List ItZ} {T : TbT}, OkL C N T0 L T → l <:+ L → ∃ U, OkL C N T0 l U := by
  intro L T h hs
  obtain ⟨t, rfl⟩ := hs
  induction t generalizing T with
  | nil => exact ⟨T, h⟩
  | cons x t ih =>
    cases x with
    | inl x => obtain ⟨U, a, _⟩ := h; exact ih a
    | inr y => exact ih h.1
theorem okl_nx {C : CxT} {N : Int → Int} {T0 T : TbT} {l L : List ItZ} {x : XrZ} (h : OkL C N T0 l T) (hs : (.inl x :: l) <:+ L) (q : stT C T (xcZ l) x = none) : ∀ V, ¬ OkL C N T0 L V := fun V hV => by
  obtain ⟨U, W, a, b⟩ := okl_sf hV hs
  rw [okl_un a h, q] at b
  cases b
theorem okl_ny {C : CxT} {N : Int → Int} {T0 T : TbT} {l L : List ItZ} {y} (h : OkL C N T0 l T) (hs : (.inr y :: l) <:+ L) (q : ¬ okS C N T l y) : ∀ V, ¬ OkL C N T0 L V := fun V hV => by
  obtain ⟨U, a, b⟩ := okl_sf hV hs
  rw [okl_un a h] at b
  exact q b
theorem sf_len {l L : List ItZ} (h : l <:+ L) (e : L.length ≤ l.length) : l = L := by
  obtain ⟨t, rfl⟩ := h
  rw [List.length_append] at e
  cases t with
  | nil => rfl
  | cons x t => rw [List.length_cons] at e; omega
theorem sf_nx {l L : List ItZ} (h : l <:+ L) (e : l.length < L.length) : ∃ x, (x :: l) <:+ L := by
  obtain ⟨t, rfl⟩ := h
  rcases List.eq_nil_or_concat t with rfl | ⟨t', x, rfl⟩
  · rw [List.nil_append] at e; omega
  · exact ⟨x, t', by rw [List.concat_eq_append, List.append_assoc]; rfl⟩
theorem st_no {C : CxT} {T : TbT} {i : Nat} {x : XrZ} (h : exT C T i x = none) : stT C T i x = none := by unfold stT; rw [h]; rfl
/-- all that is asked ahead of flow -/
def OkJ (C : CxT) (N : Int → Int) (T0 : TbT) (L : List ItZ) (nm nv : Nat) (cl : Nat → Prop) : Prop := ((∀ k, k < nm → m1T C.2.2.2 k 12) ∧ ∀ v, v < nv → ¬ cl v) ∧ ∃ T, OkL C N T0 L T
def StJ (kd : Nat → Int) (σ : RS) (C : CxT) (N : Int → Int) (T0 : TbT) (L : List ItZ) (tn nm nv : Nat) (cl : Nat → Prop) : Prop :=
  (SkP L [] ∧ (gI σ 18).toInt = (L.length : Int) ∧ (L.length : Int) < 2147483647) ∧
  (((∀ k, k < nm → m1T C.2.2.2 k 12) → ∀ x l, (.inl x :: l) <:+ L → (x.1.1 ≤ 14 → XtxR (sI σ 68 1) C T0 l x) ∧ (¬ x.1.1 ≤ 14 → StxR (sI σ 68 1) C l x)) ∧ ∀ y l, (.inr y :: l) <:+ L → YtxR kd (sI σ 68 1) C N tn l y) ∧
  (∀ Y : RS, JfR (sI σ 68 1) Y → MtR Y C.2.2.2 nm) ∧ (∀ v : Nat, v < nv → ∀ Y : RS, JfR (sI σ 68 1) Y → gI Y 89 = aI Y 46 v → ∀ r, FdR Y (aI Y 43 v) r → (0 ≤ r ↔ cl v)) ∧
  ((gI σ 42).toInt = (nv : Int) ∧ C.2.2.1 = nv) ∧ ((∀ k, k < tn → aI σ 59 k = -2) ∧ gI σ 91 = 0 ∧ 0 ≤ (gI σ 2).toInt) ∧ ((∀ v, T0.2 v = (0, 0)) ∧ VvT C T0 ∧ MyT C)
/-- between variables -/
def VlR (σ Y : RS) (g : Nat → Int32) (cl : Nat → Prop) (k : Nat) : Prop := (JfR (sI σ 68 1) Y ∧ gI Y 66 = 0 ∧ gI Y 69 = 0 ∧ gI Y 74 = 0 ∧ gI Y 91 = 0) ∧ aI Y 59 = aI σ 59 ∧ aI Y 80 = vnR σ g k ∧ (∀ u, u < k → aI Y 86 u = 0) ∧ ∀ u, u < k → ¬ cl u
theorem JR.nil {kd : Nat → Int} {σ Y : RS} {C : CxT} {N : Int → Int} {T0 : TbT} {L : List ItZ} {tn nm nv : Nat} {cl : Nat → Prop} {g : Nat → Int32} (h : StJ kd σ C N T0 L tn nm nv cl) (q : VlR σ Y g cl nv) (h89 : gI Y 89 = 0) : JR (fun q => (vnR σ g nv q).toInt) kd (sI σ 68 1) Y C tn [] T0 [] := by
  obtain ⟨⟨q1, q2, q3, q4, q5⟩, q6, q7, q8, q9⟩ := q
  obtain ⟨_, _, _, _, ⟨_, h42⟩, ⟨h59, _, _⟩, h0, _, _⟩ := h
  refine ⟨⟨q1, q2, rfl⟩, ⟨by rw [q3]; rfl, fun i q hq => by cases hq⟩, ⟨by rw [q4]; rfl, trivial⟩, fun v hv => ?_, fun k hk => ⟨fun z => absurd z (by show ¬ (0 : Int) ≤ -1; decide), by rw [q6, h59 k hk]; rfl⟩, ⟨by rw [q5]; rfl, fun i p hp => by cases hp⟩, by rw [h89]; rfl, fun r => by rw [q7]; rfl⟩
  rw [h42] at hv
  rw [q8 v hv, h0 v]
  exact ⟨⟨fun z => absurd rfl z, fun z => absurd rfl z⟩, fun z => absurd rfl z⟩
theorem mtf_c {σ τ : RS} (e80 : aI σ 80 = aI τ 80) (e37 : aI σ 37 = aI τ 37) : ∀ {n : Nat}, mtfR σ n = mtfR τ n := by
  intro n
  induction n with
  | zero => exact e80
  | succ n ih => rw [mtfR, mtfR, ih, e37]
def Pv_judgeAllB (kd : Nat → Int) (C : CxT) (Nf : Int → Int) (T0 : TbT) (L : List ItZ) (tn nm nv : Nat) (cl : Nat → Prop) : UP1 := fun A1 σ => match A1 with
  | [] => StJ kd σ C Nf T0 L tn nm nv cl
  | _ => False
def Qv_judgeAllB (kd : Nat → Int) (C : CxT) (Nf : Int → Int) (T0 : TbT) (L : List ItZ) (tn nm nv : Nat) (cl : Nat → Prop) : UQ1 := fun A1 σ w τ => match A1 with
  | [] => w = none ∧ ((¬ OkJ C Nf T0 L nm nv cl ∧ ¬ gI τ 66 = 0) ∨ (OkJ C Nf T0 L nm nv cl ∧ ∃ (σ1 : RS) (T : TbT), OkL C Nf T0 L T ∧ VvT C T ∧ JR (fun q => (vnR σ (mtfR (sA σ 80 (clrR σ (gI σ 2).toInt.toNat)) nm) nv q).toInt) kd (sI σ 68 1) σ1 C tn L T [] ∧ EvM 113 [] σ1 none τ))
  | _ => False
def Qw_judgeAllB : UQ1 := fun A1 σ w τ => ∀ (kd : Nat → Int) (C : CxT) (Nf : Int → Int) (T0 : TbT) (L : List ItZ) (tn nm nv : Nat) (cl : Nat → Prop), Pv_judgeAllB kd C Nf T0 L tn nm nv cl A1 σ → Qv_judgeAllB kd C Nf T0 L tn nm nv cl A1 σ w τ
set_option maxRecDepth 100000 in
set_option maxHeartbeats 4000000 in
theorem v_judgeAllB (kd : Nat → Int) (C : CxT) (Nf : Int → Int) (T0 : TbT) (L : List ItZ) (tn nm nv : Nat) (cl : Nat → Prop) : UMet 82 (Pv_judgeAllB kd C Nf T0 L tn nm nv cl) (Qv_judgeAllB kd C Nf T0 L tn nm nv cl) := by
  refine UMet.by BjudgeAll [(70, (fun _ _ => True), Qw_err), (71, (fun _ _ => True), Qw_find), (113, (fun _ _ => True), Qw_flowE), (88, (fun _ _ => True), Qw_judgeExpJ), (105, (fun _ _ => True), Qw_judgeStepJ), (87, (fun _ _ => True), Qw_methodsToldJ)] rfl (ucc w_err (ucc w_find (ucc w_flowE (ucc w_judgeExpJ (ucc w_judgeStepJ (ucc w_methodsToldJ uc0)))))) ?_
  intro A1 σ hP K hB hW
  unfold Pv_judgeAllB at hP
  split at hP
  next =>
    have hP0 := hP
    obtain ⟨⟨hSk, h18', hLb⟩, ⟨hx, hy⟩, hM, hcl, ⟨h42, hCn⟩, ⟨h59, h91, h2⟩, ⟨hT0, hVv0, hMy⟩⟩ := hP
    have bad : ¬ OkJ C Nf T0 L nm nv cl → ∀ N : Nat, (∀ (x1 : Int32) (Y : RS), ¬ gI Y 66 = 0 → K N 33 [(0, .ref 1000), (1, .int x1)] [] Y) ∧ (∀ (x1 : Int32) (Y : RS), ¬ gI Y 66 = 0 → K N 41 [(0, .ref 1000), (1, .int x1)] [] Y) ∧ (∀ (x1 : Int32) (Y : RS), ¬ gI Y 66 = 0 → K N 55 [(0, .ref 1000), (1, .int x1)] [] Y) ∧ (∀ (x1 : Int32) (Y : RS), ¬ gI Y 66 = 0 → K N 61 [(0, .ref 1000), (1, .int x1)] [] Y) ∧ (∀ (x1 : Int32) (Y : RS), ¬ gI Y 66 = 0 → K N 69 [(0, .ref 1000), (1, .int x1)] [] Y) ∧ (∀ (x1 : Int32) (Y : RS), ¬ gI Y 66 = 0 → K N 111 [(0, .ref 1000), (1, .int x1)] [] Y) ∧ (∀ (x1 : Int32) (Y : RS), ¬ gI Y 66 = 0 → K N 122 [(0, .ref 1000), (1, .int x1)] [] Y) ∧ (∀ (x1 : Int32) (Y : RS), ¬ gI Y 66 = 0 → K N 128 [(0, .ref 1000), (1, .int x1)] [] Y) ∧ (∀ (x1 : Int32) (Y : RS), ¬ gI Y 66 = 0 → K N 135 [(0, .ref 1000), (1, .int x1)] [] Y) ∧ (∀ (x1 : Int32) (Y : RS), ¬ gI Y 66 = 0 → K N 143 [(0, .ref 1000), (1, .int x1)] [] Y) ∧ (∀ (x1 : Int32) (Y : RS), ¬ gI Y 66 = 0 → K N 154 [(0, .ref 1000), (1, .int x1)] [] Y) ∧ (∀ (x1 : Int32) (Y : RS), ¬ gI Y 66 = 0 → K N 162 [(0, .ref 1000), (1, .int x1)] [] Y) ∧ (∀ (x1 : Int32) (Y : RS), ¬ gI Y 66 = 0 → K N 167 [(0, .ref 1000), (1, .int x1)] [] Y) ∧ (∀ (x1 : Int32) (Y : RS), ¬ gI Y 66 = 0 → K N 173 [(0, .ref 1000), (1, .int x1)] [] Y) ∧ (∀ (x1 : Int32) (Y : RS), ¬ gI Y 66 = 0 → K N 184 [(0, .ref 1000), (1, .int x1)] [] Y) := by
      intro hnn
      intro N
      induction N using Nat.strongRecOn with
      | ind N ih =>
        refine ⟨?_, ?_, ?_, ?_, ?_, ?_, ?_, ?_, ?_, ?_, ?_, ?_, ?_, ?_, ?_⟩
        · intro x1 Y hz
          refine hB _ _ _ _ _ (fun m1 hm1 => ?_)
          dsimp only [ugo, uwp, ust, uct, rfd, BjudgeAll, BjudgeAll_33, Nat.beq, lv_args, rlk, rs1, rs2, rdl, rky, rcd, rno, rsw, Value.category, List.filter, List.take, List.drop, List.reverse, List.reverseAux, List.cons_append, List.nil_append, Option.toList, Int.toNat, Int.reduceToNat, if_pos, if_neg, reduceIte, ↓reduceIte, Nat.reduceAdd, Nat.reduceEqDiff, Nat.reduceBEq, beq_self_eq_true, Bool.not_true, Bool.not_false, Bool.and_true, Bool.and_false, Bool.true_and, Bool.false_and, gI_sI, gI_sL, gI_sA, gI_sM, gL_sI, gL_sL, gL_sA, gL_sM, aI_sI, aI_sL, aI_sA, aI_sM, aL_sI, aL_sL, aL_sA, aL_sM]; try dsimp only
          refine ⟨fun h2 => ?_, fun h2 => ?_⟩
          · exact hW _ 55 [(0, .ref 1000), (1, .int x1)] _ _ _ (by simp [rdl, rky, Value.category]) ((ih m1 hm1).2.2.1 x1 _ hz)
          · exact hW _ 41 [(0, .ref 1000), (1, .int x1)] _ _ _ (by simp [rdl, rky, Value.category]) ((ih m1 hm1).2.1 x1 _ hz)
        · intro x1 Y hz
          refine hB _ _ _ _ _ (fun m1 hm1 => ?_)
          dsimp only [ugo, uwp, ust, uct, rfd, BjudgeAll, BjudgeAll_41, Nat.beq, lv_args, rlk, rs1, rs2, rdl, rky, rcd, rno, rsw, Value.category, List.filter, List.take, List.drop, List.reverse, List.reverseAux, List.cons_append, List.nil_append, Option.toList, Int.toNat, Int.reduceToNat, if_pos, if_neg, reduceIte, ↓reduceIte, Nat.reduceAdd, Nat.reduceEqDiff, Nat.reduceBEq, beq_self_eq_true, Bool.not_true, Bool.not_false, Bool.and_true, Bool.and_false, Bool.true_and, Bool.false_and, gI_sI, gI_sL, gI_sA, gI_sM, gL_sI, gL_sL, gL_sA, gL_sM, aI_sI, aI_sL, aI_sA, aI_sM, aL_sI, aL_sL, aL_sA, aL_sM, oi_1, oi_m2]; try dsimp only
          intro p2
          exact hW _ 33 [(0, .ref 1000), (1, .int (x1 + 1))] _ _ _ (by simp [rdl, rky, Value.category]) ((ih m1 hm1).1 (x1 + 1) _ hz)
        · intro x1 Y hz
          refine hB _ _ _ _ _ (fun m1 hm1 => ?_)
          dsimp only [ugo, uwp, ust, uct, rfd, BjudgeAll, BjudgeAll_55, Nat.beq, lv_args, rlk, rs1, rs2, rdl, rky, rcd, rno, rsw, Value.category, List.filter, List.take, List.drop, List.reverse, List.reverseAux, List.cons_append, List.nil_append, Option.toList, Int.toNat, Int.reduceToNat, if_pos, if_neg, reduceIte, ↓reduceIte, Nat.reduceAdd, Nat.reduceEqDiff, Nat.reduceBEq, beq_self_eq_true, Bool.not_true, Bool.not_false, Bool.and_true, Bool.and_false, Bool.true_and, Bool.false_and, gI_sI, gI_sL, gI_sA, gI_sM, gL_sI, gL_sL, gL_sA, gL_sM, aI_sI, aI_sL, aI_sA, aI_sM, aL_sI, aL_sL, aL_sA, aL_sM, oi_0]; try dsimp only
          refine ⟨trivial, fun w2 τ2 hq2 => ?_⟩
          obtain ⟨rfl, hz2⟩ := hq2.1 hz
          dsimp only [Option.toList, List.cons_append, List.nil_append, Nat.beq, gI_sI, gI_sL, gI_sA, gI_sM, gL_sI, gL_sL, gL_sA, gL_sM, aI_sI, aI_sL, aI_sA, aI_sM, aL_sI, aL_sL, aL_sA, aL_sM]
          exact hW _ 61 [(0, .ref 1000), (1, .int 0)] _ _ _ (by simp [rdl, rky, Value.category]) ((ih m1 hm1).2.2.2.1 0 _ hz2)
        · intro x1 Y hz
          refine hB _ _ _ _ _ (fun m1 hm1 => ?_)
          dsimp only [ugo, uwp, ust, uct, rfd, BjudgeAll, BjudgeAll_61, Nat.beq, lv_args, rlk, rs1, rs2, rdl, rky, rcd, rno, rsw, Value.category, List.filter, List.take, List.drop, List.reverse, List.reverseAux, List.cons_append, List.nil_append, Option.toList, Int.toNat, Int.reduceToNat, if_pos, if_neg, reduceIte, ↓reduceIte, Nat.reduceAdd, Nat.reduceEqDiff, Nat.reduceBEq, beq_self_eq_true, Bool.not_true, Bool.not_false, Bool.and_true, Bool.and_false, Bool.true_and, Bool.false_and, gI_sI, gI_sL, gI_sA, gI_sM, gL_sI, gL_sL, gL_sA, gL_sM, aI_sI, aI_sL, aI_sA, aI_sM, aL_sI, aL_sL, aL_sA, aL_sM]; try dsimp only
          refine ⟨fun h2 => ?_, fun h2 => ?_⟩
          · exact hW _ 128 [(0, .ref 1000), (1, .int x1)] _ _ _ (by simp [rdl, rky, Value.category]) ((ih m1 hm1).2.2.2.2.2.2.2.1 x1 _ hz)
          · exact hW _ 69 [(0, .ref 1000), (1, .int x1)] _ _ _ (by simp [rdl, rky, Value.category]) ((ih m1 hm1).2.2.2.2.1 x1 _ hz)
        · intro x1 Y hz
          refine hB _ _ _ _ _ (fun m1 hm1 => ?_)
          dsimp only [ugo, uwp, ust, uct, rfd, BjudgeAll, BjudgeAll_69, Nat.beq, lv_args, rlk, rs1, rs2, rdl, rky, rcd, rno, rsw, Value.category, List.filter, List.take, List.drop, List.reverse, List.reverseAux, List.cons_append, List.nil_append, Option.toList, Int.toNat, Int.reduceToNat, if_pos, if_neg, reduceIte, ↓reduceIte, Nat.reduceAdd, Nat.reduceEqDiff, Nat.reduceBEq, beq_self_eq_true, Bool.not_true, Bool.not_false, Bool.and_true, Bool.and_false, Bool.true_and, Bool.false_and, gI_sI, gI_sL, gI_sA, gI_sM, gL_sI, gL_sL, gL_sA, gL_sM, aI_sI, aI_sL, aI_sA, aI_sM, aL_sI, aL_sL, aL_sA, aL_sM, oi_0]; try dsimp only
          intro p2
          intro p3
          intro p4
          intro p5
          intro p6
          refine ⟨trivial, fun w7 τ7 hq7 => ?_⟩
          obtain ⟨rfl, r7, rfl, hr7⟩ := hq7 trivial
          dsimp only [Option.toList, List.cons_append, List.nil_append, Nat.beq, gI_sI, gI_sL, gI_sA, gI_sM, gL_sI, gL_sL, gL_sA, gL_sM, aI_sI, aI_sL, aI_sA, aI_sM, aL_sI, aL_sL, aL_sA, aL_sM]
          refine ⟨fun h8 => ?_, fun h8 => ?_⟩
          · exact hW _ 122 [(0, .ref 1000), (1, .int x1)] _ _ _ (by simp [rdl, rky, Value.category]) ((ih m1 hm1).2.2.2.2.2.2.1 x1 _ hz)
          · exact hW _ 111 [(0, .ref 1000), (1, .int x1)] _ _ _ (by simp [rdl, rky, Value.category]) ((ih m1 hm1).2.2.2.2.2.1 x1 _ hz)
        · intro x1 Y hz
          refine hB _ _ _ _ _ (fun m1 hm1 => ?_)
          dsimp only [ugo, uwp, ust, uct, rfd, BjudgeAll, BjudgeAll_111, Nat.beq, lv_args, rlk, rs1, rs2, rdl, rky, rcd, rno, rsw, Value.category, List.filter, List.take, List.drop, List.reverse, List.reverseAux, List.cons_append, List.nil_append, Option.toList, Int.toNat, Int.reduceToNat, if_pos, if_neg, reduceIte, ↓reduceIte, Nat.reduceAdd, Nat.reduceEqDiff, Nat.reduceBEq, beq_self_eq_true, Bool.not_true, Bool.not_false, Bool.and_true, Bool.and_false, Bool.true_and, Bool.false_and, gI_sI, gI_sL, gI_sA, gI_sM, gL_sI, gL_sL, gL_sA, gL_sM, aI_sI, aI_sL, aI_sA, aI_sM, aL_sI, aL_sL, aL_sA, aL_sM, oi_2]; try dsimp only
          intro p2
          refine ⟨trivial, fun w3 τ3 hq3 => ?_⟩
          obtain ⟨rfl, hz3⟩ := hq3 (show ¬ (2 : Int32) = 0 by decide)
          dsimp only [Option.toList, List.cons_append, List.nil_append, Nat.beq, gI_sI, gI_sL, gI_sA, gI_sM, gL_sI, gL_sL, gL_sA, gL_sM, aI_sI, aI_sL, aI_sA, aI_sM, aL_sI, aL_sL, aL_sA, aL_sM]
          exact hW _ 122 [(0, .ref 1000), (1, .int x1)] _ _ _ (by simp [rdl, rky, Value.category]) ((ih m1 hm1).2.2.2.2.2.2.1 x1 _ hz3)
        · intro x1 Y hz
          refine hB _ _ _ _ _ (fun m1 hm1 => ?_)
          dsimp only [ugo, uwp, ust, uct, rfd, BjudgeAll, BjudgeAll_122, Nat.beq, lv_args, rlk, rs1, rs2, rdl, rky, rcd, rno, rsw, Value.category, List.filter, List.take, List.drop, List.reverse, List.reverseAux, List.cons_append, List.nil_append, Option.toList, Int.toNat, Int.reduceToNat, if_pos, if_neg, reduceIte, ↓reduceIte, Nat.reduceAdd, Nat.reduceEqDiff, Nat.reduceBEq, beq_self_eq_true, Bool.not_true, Bool.not_false, Bool.and_true, Bool.and_false, Bool.true_and, Bool.false_and, gI_sI, gI_sL, gI_sA, gI_sM, gL_sI, gL_sL, gL_sA, gL_sM, aI_sI, aI_sL, aI_sA, aI_sM, aL_sI, aL_sL, aL_sA, aL_sM, oi_1]; try dsimp only
          exact hW _ 61 [(0, .ref 1000), (1, .int (x1 + 1))] _ _ _ (by simp [rdl, rky, Value.category]) ((ih m1 hm1).2.2.2.1 (x1 + 1) _ hz)
        · intro x1 Y hz
          refine hB _ _ _ _ _ (fun m1 hm1 => ?_)
          dsimp only [ugo, uwp, ust, uct, rfd, BjudgeAll, BjudgeAll_128, Nat.beq, lv_args, rlk, rs1, rs2, rdl, rky, rcd, rno, rsw, Value.category, List.filter, List.take, List.drop, List.reverse, List.reverseAux, List.cons_append, List.nil_append, Option.toList, Int.toNat, Int.reduceToNat, if_pos, if_neg, reduceIte, ↓reduceIte, Nat.reduceAdd, Nat.reduceEqDiff, Nat.reduceBEq, beq_self_eq_true, Bool.not_true, Bool.not_false, Bool.and_true, Bool.and_false, Bool.true_and, Bool.false_and, gI_sI, gI_sL, gI_sA, gI_sM, gL_sI, gL_sL, gL_sA, gL_sM, aI_sI, aI_sL, aI_sA, aI_sM, aL_sI, aL_sL, aL_sA, aL_sM, oi_0]; try dsimp only
          exact hW _ 135 [(0, .ref 1000), (1, .int 0)] _ _ _ (by simp [rdl, rky, Value.category]) ((ih m1 hm1).2.2.2.2.2.2.2.2.1 0 _ hz)
        · intro x1 Y hz
          refine hB _ _ _ _ _ (fun m1 hm1 => ?_)
          dsimp only [ugo, uwp, ust, uct, rfd, BjudgeAll, BjudgeAll_135, Nat.beq, lv_args, rlk, rs1, rs2, rdl, rky, rcd, rno, rsw, Value.category, List.filter, List.take, List.drop, List.reverse, List.reverseAux, List.cons_append, List.nil_append, Option.toList, Int.toNat, Int.reduceToNat, if_pos, if_neg, reduceIte, ↓reduceIte, Nat.reduceAdd, Nat.reduceEqDiff, Nat.reduceBEq, beq_self_eq_true, Bool.not_true, Bool.not_false, Bool.and_true, Bool.and_false, Bool.true_and, Bool.false_and, gI_sI, gI_sL, gI_sA, gI_sM, gL_sI, gL_sL, gL_sA, gL_sM, aI_sI, aI_sL, aI_sA, aI_sM, aL_sI, aL_sL, aL_sA, aL_sM]; try dsimp only
          refine ⟨fun h2 => ?_, fun h2 => ?_⟩
          · exact hW _ 173 [(0, .ref 1000), (1, .int x1)] _ _ _ (by simp [rdl, rky, Value.category]) ((ih m1 hm1).2.2.2.2.2.2.2.2.2.2.2.2.2.1 x1 _ hz)
          · exact hW _ 143 [(0, .ref 1000), (1, .int x1)] _ _ _ (by simp [rdl, rky, Value.category]) ((ih m1 hm1).2.2.2.2.2.2.2.2.2.1 x1 _ hz)
        · intro x1 Y hz
          refine hB _ _ _ _ _ (fun m1 hm1 => ?_)
          dsimp only [ugo, uwp, ust, uct, rfd, BjudgeAll, BjudgeAll_143, Nat.beq, lv_args, rlk, rs1, rs2, rdl, rky, rcd, rno, rsw, Value.category, List.filter, List.take, List.drop, List.reverse, List.reverseAux, List.cons_append, List.nil_append, Option.toList, Int.toNat, Int.reduceToNat, if_pos, if_neg, reduceIte, ↓reduceIte, Nat.reduceAdd, Nat.reduceEqDiff, Nat.reduceBEq, beq_self_eq_true, Bool.not_true, Bool.not_false, Bool.and_true, Bool.and_false, Bool.true_and, Bool.false_and, gI_sI, gI_sL, gI_sA, gI_sM, gL_sI, gL_sL, gL_sA, gL_sM, aI_sI, aI_sL, aI_sA, aI_sM, aL_sI, aL_sL, aL_sA, aL_sM, oi_18]; try dsimp only
          intro p2
          refine ⟨fun h3 => ?_, fun h3 => ?_⟩
          · exact hW _ 162 [(0, .ref 1000), (1, .int x1)] _ _ _ (by simp [rdl, rky, Value.category]) ((ih m1 hm1).2.2.2.2.2.2.2.2.2.2.2.1 x1 _ hz)
          · exact hW _ 154 [(0, .ref 1000), (1, .int x1)] _ _ _ (by simp [rdl, rky, Value.category]) ((ih m1 hm1).2.2.2.2.2.2.2.2.2.2.1 x1 _ hz)
        · intro x1 Y hz
          refine hB _ _ _ _ _ (fun m1 hm1 => ?_)
          dsimp only [ugo, uwp, ust, uct, rfd, BjudgeAll, BjudgeAll_154, Nat.beq, lv_args, rlk, rs1, rs2, rdl, rky, rcd, rno, rsw, Value.category, List.filter, List.take, List.drop, List.reverse, List.reverseAux, List.cons_append, List.nil_append, Option.toList, Int.toNat, Int.reduceToNat, if_pos, if_neg, reduceIte, ↓reduceIte, Nat.reduceAdd, Nat.reduceEqDiff, Nat.reduceBEq, beq_self_eq_true, Bool.not_true, Bool.not_false, Bool.and_true, Bool.and_false, Bool.true_and, Bool.false_and, gI_sI, gI_sL, gI_sA, gI_sM, gL_sI, gL_sL, gL_sA, gL_sM, aI_sI, aI_sL, aI_sA, aI_sM, aL_sI, aL_sL, aL_sA, aL_sM]; try dsimp only
          refine ⟨trivial, fun w2 τ2 hq2 => ?_⟩
          obtain ⟨rfl, hz2⟩ := hq2.1 hz
          dsimp only [Option.toList, List.cons_append, List.nil_append, Nat.beq, gI_sI, gI_sL, gI_sA, gI_sM, gL_sI, gL_sL, gL_sA, gL_sM, aI_sI, aI_sL, aI_sA, aI_sM, aL_sI, aL_sL, aL_sA, aL_sM]
          exact hW _ 167 [(0, .ref 1000), (1, .int x1)] _ _ _ (by simp [rdl, rky, Value.category]) ((ih m1 hm1).2.2.2.2.2.2.2.2.2.2.2.2.1 x1 _ hz2)
        · intro x1 Y hz
          refine hB _ _ _ _ _ (fun m1 hm1 => ?_)
          dsimp only [ugo, uwp, ust, uct, rfd, BjudgeAll, BjudgeAll_162, Nat.beq, lv_args, rlk, rs1, rs2, rdl, rky, rcd, rno, rsw, Value.category, List.filter, List.take, List.drop, List.reverse, List.reverseAux, List.cons_append, List.nil_append, Option.toList, Int.toNat, Int.reduceToNat, if_pos, if_neg, reduceIte, ↓reduceIte, Nat.reduceAdd, Nat.reduceEqDiff, Nat.reduceBEq, beq_self_eq_true, Bool.not_true, Bool.not_false, Bool.and_true, Bool.and_false, Bool.true_and, Bool.false_and, gI_sI, gI_sL, gI_sA, gI_sM, gL_sI, gL_sL, gL_sA, gL_sM, aI_sI, aI_sL, aI_sA, aI_sM, aL_sI, aL_sL, aL_sA, aL_sM]; try dsimp only
          refine ⟨trivial, fun w2 τ2 hq2 => ?_⟩
          obtain ⟨rfl, hz2⟩ := hq2.1 hz
          dsimp only [Option.toList, List.cons_append, List.nil_append, Nat.beq, gI_sI, gI_sL, gI_sA, gI_sM, gL_sI, gL_sL, gL_sA, gL_sM, aI_sI, aI_sL, aI_sA, aI_sM, aL_sI, aL_sL, aL_sA, aL_sM]
          exact hW _ 167 [(0, .ref 1000), (1, .int x1)] _ _ _ (by simp [rdl, rky, Value.category]) ((ih m1 hm1).2.2.2.2.2.2.2.2.2.2.2.2.1 x1 _ hz2)
        · intro x1 Y hz
          refine hB _ _ _ _ _ (fun m1 hm1 => ?_)
          dsimp only [ugo, uwp, ust, uct, rfd, BjudgeAll, BjudgeAll_167, Nat.beq, lv_args, rlk, rs1, rs2, rdl, rky, rcd, rno, rsw, Value.category, List.filter, List.take, List.drop, List.reverse, List.reverseAux, List.cons_append, List.nil_append, Option.toList, Int.toNat, Int.reduceToNat, if_pos, if_neg, reduceIte, ↓reduceIte, Nat.reduceAdd, Nat.reduceEqDiff, Nat.reduceBEq, beq_self_eq_true, Bool.not_true, Bool.not_false, Bool.and_true, Bool.and_false, Bool.true_and, Bool.false_and, gI_sI, gI_sL, gI_sA, gI_sM, gL_sI, gL_sL, gL_sA, gL_sM, aI_sI, aI_sL, aI_sA, aI_sM, aL_sI, aL_sL, aL_sA, aL_sM, oi_1]; try dsimp only
          exact hW _ 135 [(0, .ref 1000), (1, .int (x1 + 1))] _ _ _ (by simp [rdl, rky, Value.category]) ((ih m1 hm1).2.2.2.2.2.2.2.2.1 (x1 + 1) _ hz)
        · intro x1 Y hz
          refine hB _ _ _ _ _ (fun m1 hm1 => ?_)
          dsimp only [ugo, uwp, ust, uct, rfd, BjudgeAll, BjudgeAll_173, Nat.beq, lv_args, rlk, rs1, rs2, rdl, rky, rcd, rno, rsw, Value.category, List.filter, List.take, List.drop, List.reverse, List.reverseAux, List.cons_append, List.nil_append, Option.toList, Int.toNat, Int.reduceToNat, if_pos, if_neg, reduceIte, ↓reduceIte, Nat.reduceAdd, Nat.reduceEqDiff, Nat.reduceBEq, beq_self_eq_true, Bool.not_true, Bool.not_false, Bool.and_true, Bool.and_false, Bool.true_and, Bool.false_and, gI_sI, gI_sL, gI_sA, gI_sM, gL_sI, gL_sL, gL_sA, gL_sM, aI_sI, aI_sL, aI_sA, aI_sM, aL_sI, aL_sL, aL_sA, aL_sM]; try dsimp only
          refine ⟨fun h2 => ?_, fun h2 => (by exfalso; exact hz h2)⟩
          exact hW _ 184 [(0, .ref 1000), (1, .int x1)] _ _ _ (by simp [rdl, rky, Value.category]) ((ih m1 hm1).2.2.2.2.2.2.2.2.2.2.2.2.2.2 x1 _ hz)
        · intro x1 Y hz
          refine hB _ _ _ _ _ (fun m1 hm1 => ?_)
          dsimp only [ugo, uwp, ust, uct, rfd, BjudgeAll, BjudgeAll_184, Nat.beq, lv_args, rlk, rs1, rs2, rdl, rky, rcd, rno, rsw, Value.category, List.filter, List.take, List.drop, List.reverse, List.reverseAux, List.cons_append, List.nil_append, Option.toList, Int.toNat, Int.reduceToNat, if_pos, if_neg, reduceIte, ↓reduceIte, Nat.reduceAdd, Nat.reduceEqDiff, Nat.reduceBEq, beq_self_eq_true, Bool.not_true, Bool.not_false, Bool.and_true, Bool.and_false, Bool.true_and, Bool.false_and, gI_sI, gI_sL, gI_sA, gI_sM, gL_sI, gL_sL, gL_sA, gL_sM, aI_sI, aI_sL, aI_sA, aI_sM, aL_sI, aL_sL, aL_sA, aL_sM]; try dsimp only
          unfold Qv_judgeAllB
          try dsimp only
          exact ⟨rfl, Or.inl ⟨hnn, hz⟩⟩
    have t135 : ((∀ k, k < nm → m1T C.2.2.2 k 12) ∧ ∀ v, v < nv → ¬ cl v) → ∀ (N : Nat) (c : Int32) (l : List ItZ) (Y : RS) (T : TbT) (S : List Int), c.toInt = (l.length : Int) → l <:+ L → OkL C Nf T0 l T → VvT C T → JR (fun q => (vnR σ (mtfR (sA σ 80 (clrR σ (gI σ 2).toInt.toNat)) nm) nv q).toInt) kd (sI σ 68 1) Y C tn l T S → K N 135 [(0, .ref 1000), (1, .int c)] [] Y := by
      intro hpre N
      induction N using Nat.strongRecOn with
      | ind N loop =>
        intro c l Y T S hc hl hO hVv hJ
        have h18 : (gI Y 18).toInt = (L.length : Int) := by rw [hJ.1.1.1 18 (by decide) (by decide) (by decide) (by decide) (by decide) (by decide)]; exact h18'
        have ll : l.length ≤ L.length := hl.length_le
        have cn : c.toNatClampNeg = l.length := nT_x hc
        by_cases he : L.length ≤ l.length
        · have eL := sf_len hl he
          have eS : S = [] := sk_un hJ.1.2.2 (by rw [eL]; exact hSk)
          have hO1 : OkL C Nf T0 L T := by rw [← eL]; exact hO
          have hJ1 := hJ
          rw [eL, eS] at hJ1
          refine hB _ _ _ _ _ (fun m1 hm1 => ?_)
          dsimp only [ugo, uwp, ust, uct, rfd, BjudgeAll, BjudgeAll_135, Nat.beq, lv_args, rlk, rs1, rs2, rdl, rky, rcd, rno, rsw, Value.category, List.filter, List.take, List.drop, List.reverse, List.reverseAux, List.cons_append, List.nil_append, Option.toList, Int.toNat, Int.reduceToNat, if_pos, if_neg, reduceIte, ↓reduceIte, Nat.reduceAdd, Nat.reduceEqDiff, Nat.reduceBEq, beq_self_eq_true, Bool.not_true, Bool.not_false, Bool.and_true, Bool.and_false, Bool.true_and, Bool.false_and, gI_sI, gI_sL, gI_sA, gI_sM, gL_sI, gL_sL, gL_sA, gL_sM, aI_sI, aI_sL, aI_sA, aI_sM, aL_sI, aL_sL, aL_sA, aL_sM]; try dsimp only
          refine ⟨fun h2 => ?_, fun h2 => (by exfalso; have c2 : (l.length : Int) < (L.length : Int) := (cI hc h18).2.1.mp (by first | exact h2 | exact Int32.not_lt.mp h2 | exact Int32.not_le.mp h2); omega)⟩
          have c2 : (L.length : Int) ≤ (l.length : Int) := (cI hc h18).2.2.2.2.mp h2
          refine hB _ _ _ _ _ (fun m3 hm3 => ?_)
          dsimp only [ugo, uwp, ust, uct, rfd, BjudgeAll, BjudgeAll_173, Nat.beq, lv_args, rlk, rs1, rs2, rdl, rky, rcd, rno, rsw, Value.category, List.filter, List.take, List.drop, List.reverse, List.reverseAux, List.cons_append, List.nil_append, Option.toList, Int.toNat, Int.reduceToNat, if_pos, if_neg, reduceIte, ↓reduceIte, Nat.reduceAdd, Nat.reduceEqDiff, Nat.reduceBEq, beq_self_eq_true, Bool.not_true, Bool.not_false, Bool.and_true, Bool.and_false, Bool.true_and, Bool.false_and, gI_sI, gI_sL, gI_sA, gI_sM, gL_sI, gL_sL, gL_sA, gL_sM, aI_sI, aI_sL, aI_sA, aI_sM, aL_sI, aL_sL, aL_sA, aL_sM]; try dsimp only
          refine ⟨fun h4 => (by exfalso; exact h4 hJ.1.2.1), fun h4 => ?_⟩
          refine hB _ _ _ _ _ (fun m5 hm5 => ?_)
          dsimp only [ugo, uwp, ust, uct, rfd, BjudgeAll, BjudgeAll_180, Nat.beq, lv_args, rlk, rs1, rs2, rdl, rky, rcd, rno, rsw, Value.category, List.filter, List.take, List.drop, List.reverse, List.reverseAux, List.cons_append, List.nil_append, Option.toList, Int.toNat, Int.reduceToNat, if_pos, if_neg, reduceIte, ↓reduceIte, Nat.reduceAdd, Nat.reduceEqDiff, Nat.reduceBEq, beq_self_eq_true, Bool.not_true, Bool.not_false, Bool.and_true, Bool.and_false, Bool.true_and, Bool.false_and, gI_sI, gI_sL, gI_sA, gI_sM, gL_sI, gL_sL, gL_sA, gL_sM, aI_sI, aI_sL, aI_sA, aI_sM, aL_sI, aL_sL, aL_sA, aL_sM]; try dsimp only
          refine ⟨trivial, fun w6 τ6 hq6 => ?_⟩
          obtain ⟨hw6, hev6⟩ := hq6
          obtain rfl := hw6 trivial
          dsimp only [Option.toList, List.cons_append, List.nil_append, Nat.beq, gI_sI, gI_sL, gI_sA, gI_sM, gL_sI, gL_sL, gL_sA, gL_sM, aI_sI, aI_sL, aI_sA, aI_sM, aL_sI, aL_sL, aL_sA, aL_sM]
          refine hB _ _ _ _ _ (fun m7 hm7 => ?_)
          dsimp only [ugo, uwp, ust, uct, rfd, BjudgeAll, BjudgeAll_184, Nat.beq, lv_args, rlk, rs1, rs2, rdl, rky, rcd, rno, rsw, Value.category, List.filter, List.take, List.drop, List.reverse, List.reverseAux, List.cons_append, List.nil_append, Option.toList, Int.toNat, Int.reduceToNat, if_pos, if_neg, reduceIte, ↓reduceIte, Nat.reduceAdd, Nat.reduceEqDiff, Nat.reduceBEq, beq_self_eq_true, Bool.not_true, Bool.not_false, Bool.and_true, Bool.and_false, Bool.true_and, Bool.false_and, gI_sI, gI_sL, gI_sA, gI_sM, gL_sI, gL_sL, gL_sA, gL_sM, aI_sI, aI_sL, aI_sA, aI_sM, aL_sI, aL_sL, aL_sA, aL_sM]; try dsimp only
          unfold Qv_judgeAllB
          try dsimp only
          exact ⟨rfl, Or.inr ⟨⟨hpre, T, hO1⟩, Y, T, hO1, hVv, hJ1, hev6⟩⟩
        · obtain ⟨it, hsf⟩ := sf_nx hl (by omega)
          obtain ⟨U, hSx, hUx⟩ := sk_stp hSk hsf hJ.1.2.2
          cases it with
          | inl x =>
            by_cases k14 : x.1.1 ≤ 14
            · have hX := (hx hpre.1 x l hsf).1 k14
              have hop : (aI Y 19 c.toNatClampNeg).toInt = opkZ x := by rw [cn, hJ.1.1.2.2.1 19 (bj_n (by omega))]; exact hX.1.1
              have hok := opk_c hX.2.1.1 k14
              have h18k : opkZ x ≤ 18 := by omega
              clear hok
              generalize opkZ x = op at hop h18k
              refine hB _ _ _ _ _ (fun m1 hm1 => ?_)
              dsimp only [ugo, uwp, ust, uct, rfd, BjudgeAll, BjudgeAll_135, Nat.beq, lv_args, rlk, rs1, rs2, rdl, rky, rcd, rno, rsw, Value.category, List.filter, List.take, List.drop, List.reverse, List.reverseAux, List.cons_append, List.nil_append, Option.toList, Int.toNat, Int.reduceToNat, if_pos, if_neg, reduceIte, ↓reduceIte, Nat.reduceAdd, Nat.reduceEqDiff, Nat.reduceBEq, beq_self_eq_true, Bool.not_true, Bool.not_false, Bool.and_true, Bool.and_false, Bool.true_and, Bool.false_and, gI_sI, gI_sL, gI_sA, gI_sM, gL_sI, gL_sL, gL_sA, gL_sM, aI_sI, aI_sL, aI_sA, aI_sM, aL_sI, aL_sL, aL_sA, aL_sM]; try dsimp only
              refine ⟨fun h2 => (by exfalso; have c2 : (L.length : Int) ≤ (l.length : Int) := (cI hc h18).2.2.2.2.mp h2; omega), fun h2 => ?_⟩
              have c2 : (l.length : Int) < (L.length : Int) := (cI hc h18).2.1.mp (by first | exact h2 | exact Int32.not_lt.mp h2 | exact Int32.not_le.mp h2)
              refine hB _ _ _ _ _ (fun m3 hm3 => ?_)
              dsimp only [ugo, uwp, ust, uct, rfd, BjudgeAll, BjudgeAll_143, Nat.beq, lv_args, rlk, rs1, rs2, rdl, rky, rcd, rno, rsw, Value.category, List.filter, List.take, List.drop, List.reverse, List.reverseAux, List.cons_append, List.nil_append, Option.toList, Int.toNat, Int.reduceToNat, if_pos, if_neg, reduceIte, ↓reduceIte, Nat.reduceAdd, Nat.reduceEqDiff, Nat.reduceBEq, beq_self_eq_true, Bool.not_true, Bool.not_false, Bool.and_true, Bool.and_false, Bool.true_and, Bool.false_and, gI_sI, gI_sL, gI_sA, gI_sM, gL_sI, gL_sL, gL_sA, gL_sM, aI_sI, aI_sL, aI_sA, aI_sM, aL_sI, aL_sL, aL_sA, aL_sM, oi_18]; try dsimp only
              intro p4
              refine ⟨fun h5 => (by exfalso; have c5 : 18 < op := (cI hop (rfl : (18 : Int32).toInt = 18)).2.2.2.1.mp h5; omega), fun h5 => ?_⟩
              have c5 : op ≤ 18 := (cI hop (rfl : (18 : Int32).toInt = 18)).2.2.1.mp (by first | exact h5 | exact Int32.not_lt.mp h5 | exact Int32.not_le.mp h5)
              refine hB _ _ _ _ _ (fun m6 hm6 => ?_)
              dsimp only [ugo, uwp, ust, uct, rfd, BjudgeAll, BjudgeAll_154, Nat.beq, lv_args, rlk, rs1, rs2, rdl, rky, rcd, rno, rsw, Value.category, List.filter, List.take, List.drop, List.reverse, List.reverseAux, List.cons_append, List.nil_append, Option.toList, Int.toNat, Int.reduceToNat, if_pos, if_neg, reduceIte, ↓reduceIte, Nat.reduceAdd, Nat.reduceEqDiff, Nat.reduceBEq, beq_self_eq_true, Bool.not_true, Bool.not_false, Bool.and_true, Bool.and_false, Bool.true_and, Bool.false_and, gI_sI, gI_sL, gI_sA, gI_sM, gL_sI, gL_sL, gL_sA, gL_sM, aI_sI, aI_sL, aI_sA, aI_sM, aL_sI, aL_sL, aL_sA, aL_sM]; try dsimp only
              refine ⟨trivial, fun w7 τ7 hq7 => ?_⟩
              obtain ⟨rfl, hJ7⟩ := hq7.2 C T (xcZ l) x ⟨hJ.1.2.1, ex_pre hJ hO hSx hc hX⟩
              rcases hJ7 with ⟨hn7, hz7⟩ | ⟨e7, he7, hG7⟩
              · dsimp only [Option.toList, List.cons_append, List.nil_append, Nat.beq, gI_sI, gI_sL, gI_sA, gI_sM, gL_sI, gL_sL, gL_sA, gL_sM, aI_sI, aI_sL, aI_sA, aI_sM, aL_sI, aL_sL, aL_sA, aL_sM]
                have hnb : ¬ OkJ C Nf T0 L nm nv cl := fun q => q.2.elim (okl_nx hO hsf (st_no hn7))
                exact hW _ 167 [(0, .ref 1000), (1, .int c)] _ _ _ (by simp [rdl, rky, Value.category]) ((bad hnb _).2.2.2.2.2.2.2.2.2.2.2.2.1 c _ hz7)
              · dsimp only [Option.toList, List.cons_append, List.nil_append, Nat.beq, gI_sI, gI_sL, gI_sA, gI_sM, gL_sI, gL_sL, gL_sA, gL_sM, aI_sI, aI_sL, aI_sA, aI_sM, aL_sI, aL_sL, aL_sA, aL_sM]
                obtain ⟨W, hW1, hW2, hW3⟩ := ex_post hJ hO hVv hMy hSx hUx hc (by omega) hX he7 hG7
                have hO2 : OkL C Nf T0 (.inl x :: l) W := ⟨T, hO, hW1⟩
                refine hB _ _ _ _ _ (fun m8 hm8 => ?_)
                dsimp only [ugo, uwp, ust, uct, rfd, BjudgeAll, BjudgeAll_167, Nat.beq, lv_args, rlk, rs1, rs2, rdl, rky, rcd, rno, rsw, Value.category, List.filter, List.take, List.drop, List.reverse, List.reverseAux, List.cons_append, List.nil_append, Option.toList, Int.toNat, Int.reduceToNat, if_pos, if_neg, reduceIte, ↓reduceIte, Nat.reduceAdd, Nat.reduceEqDiff, Nat.reduceBEq, beq_self_eq_true, Bool.not_true, Bool.not_false, Bool.and_true, Bool.and_false, Bool.true_and, Bool.false_and, gI_sI, gI_sL, gI_sA, gI_sM, gL_sI, gL_sL, gL_sA, gL_sM, aI_sI, aI_sL, aI_sA, aI_sM, aL_sI, aL_sL, aL_sA, aL_sM, oi_1]; try dsimp only
                have ci := i32_1 (v := c) hc (by omega) (by omega)
                exact hW _ 135 [(0, .ref 1000), (1, .int (c + 1))] _ _ _ (by simp [rdl, rky, Value.category]) (loop _ (by omega) (c + 1) _ _ _ _ (by rw [ci, List.length_cons]; omega) hsf hO2 hW2 hW3)
            · have hX := (hx hpre.1 x l hsf).2 k14
              have hop : (aI Y 19 c.toNatClampNeg).toInt = opkZ x := by rw [cn, hJ.1.1.2.2.1 19 (bj_n (by omega))]; exact hX.1.1
              have x15 := hX.2.1
              have h18k : opkZ x = 22 := by unfold opkZ; rw [if_neg (by omega), if_neg (by omega), if_neg (by omega), if_neg (by omega), if_neg (by omega), if_neg (by omega), if_neg (by omega), if_neg (by omega), if_neg (by omega), if_neg (by omega), if_neg (by omega), if_neg (by omega), if_neg (by omega), if_pos x15]
              generalize opkZ x = op at hop h18k
              refine hB _ _ _ _ _ (fun m1 hm1 => ?_)
              dsimp only [ugo, uwp, ust, uct, rfd, BjudgeAll, BjudgeAll_135, Nat.beq, lv_args, rlk, rs1, rs2, rdl, rky, rcd, rno, rsw, Value.category, List.filter, List.take, List.drop, List.reverse, List.reverseAux, List.cons_append, List.nil_append, Option.toList, Int.toNat, Int.reduceToNat, if_pos, if_neg, reduceIte, ↓reduceIte, Nat.reduceAdd, Nat.reduceEqDiff, Nat.reduceBEq, beq_self_eq_true, Bool.not_true, Bool.not_false, Bool.and_true, Bool.and_false, Bool.true_and, Bool.false_and, gI_sI, gI_sL, gI_sA, gI_sM, gL_sI, gL_sL, gL_sA, gL_sM, aI_sI, aI_sL, aI_sA, aI_sM, aL_sI, aL_sL, aL_sA, aL_sM]; try dsimp only
              refine ⟨fun h2 => (by exfalso; have c2 : (L.length : Int) ≤ (l.length : Int) := (cI hc h18).2.2.2.2.mp h2; omega), fun h2 => ?_⟩
              have c2 : (l.length : Int) < (L.length : Int) := (cI hc h18).2.1.mp (by first | exact h2 | exact Int32.not_lt.mp h2 | exact Int32.not_le.mp h2)
              refine hB _ _ _ _ _ (fun m3 hm3 => ?_)
              dsimp only [ugo, uwp, ust, uct, rfd, BjudgeAll, BjudgeAll_143, Nat.beq, lv_args, rlk, rs1, rs2, rdl, rky, rcd, rno, rsw, Value.category, List.filter, List.take, List.drop, List.reverse, List.reverseAux, List.cons_append, List.nil_append, Option.toList, Int.toNat, Int.reduceToNat, if_pos, if_neg, reduceIte, ↓reduceIte, Nat.reduceAdd, Nat.reduceEqDiff, Nat.reduceBEq, beq_self_eq_true, Bool.not_true, Bool.not_false, Bool.and_true, Bool.and_false, Bool.true_and, Bool.false_and, gI_sI, gI_sL, gI_sA, gI_sM, gL_sI, gL_sL, gL_sA, gL_sM, aI_sI, aI_sL, aI_sA, aI_sM, aL_sI, aL_sL, aL_sA, aL_sM, oi_18]; try dsimp only
              intro p4
              refine ⟨fun h5 => ?_, fun h5 => (by exfalso; have c5 : op ≤ 18 := (cI hop (rfl : (18 : Int32).toInt = 18)).2.2.1.mp (by first | exact h5 | exact Int32.not_lt.mp h5 | exact Int32.not_le.mp h5); omega)⟩
              have c5 : 18 < op := (cI hop (rfl : (18 : Int32).toInt = 18)).2.2.2.1.mp h5
              refine hB _ _ _ _ _ (fun m6 hm6 => ?_)
              dsimp only [ugo, uwp, ust, uct, rfd, BjudgeAll, BjudgeAll_162, Nat.beq, lv_args, rlk, rs1, rs2, rdl, rky, rcd, rno, rsw, Value.category, List.filter, List.take, List.drop, List.reverse, List.reverseAux, List.cons_append, List.nil_append, Option.toList, Int.toNat, Int.reduceToNat, if_pos, if_neg, reduceIte, ↓reduceIte, Nat.reduceAdd, Nat.reduceEqDiff, Nat.reduceBEq, beq_self_eq_true, Bool.not_true, Bool.not_false, Bool.and_true, Bool.and_false, Bool.true_and, Bool.false_and, gI_sI, gI_sL, gI_sA, gI_sM, gL_sI, gL_sL, gL_sA, gL_sM, aI_sI, aI_sL, aI_sA, aI_sM, aL_sI, aL_sL, aL_sA, aL_sM]; try dsimp only
              refine ⟨trivial, fun w7 τ7 hq7 => ?_⟩
              obtain ⟨rfl, ok7, F7, hst7, hJ7⟩ := hq7.2 (opT T x.2.2.1.2.1) (vtT C x.2.1.2.1) 0 0 (s_pre hJ hSx hc hX)
              have hss := s_st hJ hVv hSx hUx hc hX hst7
              rcases hJ7 with ⟨hn7, hz7⟩ | ⟨ho7, hF7⟩
              · dsimp only [Option.toList, List.cons_append, List.nil_append, Nat.beq, gI_sI, gI_sL, gI_sA, gI_sM, gL_sI, gL_sL, gL_sA, gL_sM, aI_sI, aI_sL, aI_sA, aI_sM, aL_sI, aL_sL, aL_sA, aL_sM]
                have hnb : ¬ OkJ C Nf T0 L nm nv cl := fun q => q.2.elim (okl_nx hO hsf (Classical.byContradiction (fun z => hn7 (hss.1.mpr z))))
                exact hW _ 167 [(0, .ref 1000), (1, .int c)] _ _ _ (by simp [rdl, rky, Value.category]) ((bad hnb _).2.2.2.2.2.2.2.2.2.2.2.2.1 c _ hz7)
              · dsimp only [Option.toList, List.cons_append, List.nil_append, Nat.beq, gI_sI, gI_sL, gI_sA, gI_sM, gL_sI, gL_sL, gL_sA, gL_sM, aI_sI, aI_sL, aI_sA, aI_sM, aL_sI, aL_sL, aL_sA, aL_sM]
                obtain ⟨W, hW1, hW2, hW3⟩ := hss.2 _ ho7 hF7
                have hO2 : OkL C Nf T0 (.inl x :: l) W := ⟨T, hO, hW1⟩
                refine hB _ _ _ _ _ (fun m8 hm8 => ?_)
                dsimp only [ugo, uwp, ust, uct, rfd, BjudgeAll, BjudgeAll_167, Nat.beq, lv_args, rlk, rs1, rs2, rdl, rky, rcd, rno, rsw, Value.category, List.filter, List.take, List.drop, List.reverse, List.reverseAux, List.cons_append, List.nil_append, Option.toList, Int.toNat, Int.reduceToNat, if_pos, if_neg, reduceIte, ↓reduceIte, Nat.reduceAdd, Nat.reduceEqDiff, Nat.reduceBEq, beq_self_eq_true, Bool.not_true, Bool.not_false, Bool.and_true, Bool.and_false, Bool.true_and, Bool.false_and, gI_sI, gI_sL, gI_sA, gI_sM, gL_sI, gL_sL, gL_sA, gL_sM, aI_sI, aI_sL, aI_sA, aI_sM, aL_sI, aL_sL, aL_sA, aL_sM, oi_1]; try dsimp only
                have ci := i32_1 (v := c) hc (by omega) (by omega)
                exact hW _ 135 [(0, .ref 1000), (1, .int (c + 1))] _ _ _ (by simp [rdl, rky, Value.category]) (loop _ (by omega) (c + 1) _ _ _ _ (by rw [ci, List.length_cons]; omega) hsf hO2 hW2 hW3)
          | inr x =>
            have hX := hy x l hsf
            have hop : (aI Y 19 c.toNatClampNeg).toInt = x.1 := by rw [cn, hJ.1.1.2.2.1 19 (bj_n (by omega))]; exact hX.1.1.1.1
            have h18k := hX.1.2
            generalize hxe : x.1 = op at hop h18k
            have hUx : SkP (.inr x :: l) U := hUx
            refine hB _ _ _ _ _ (fun m1 hm1 => ?_)
            dsimp only [ugo, uwp, ust, uct, rfd, BjudgeAll, BjudgeAll_135, Nat.beq, lv_args, rlk, rs1, rs2, rdl, rky, rcd, rno, rsw, Value.category, List.filter, List.take, List.drop, List.reverse, List.reverseAux, List.cons_append, List.nil_append, Option.toList, Int.toNat, Int.reduceToNat, if_pos, if_neg, reduceIte, ↓reduceIte, Nat.reduceAdd, Nat.reduceEqDiff, Nat.reduceBEq, beq_self_eq_true, Bool.not_true, Bool.not_false, Bool.and_true, Bool.and_false, Bool.true_and, Bool.false_and, gI_sI, gI_sL, gI_sA, gI_sM, gL_sI, gL_sL, gL_sA, gL_sM, aI_sI, aI_sL, aI_sA, aI_sM, aL_sI, aL_sL, aL_sA, aL_sM]; try dsimp only
            refine ⟨fun h2 => (by exfalso; have c2 : (L.length : Int) ≤ (l.length : Int) := (cI hc h18).2.2.2.2.mp h2; omega), fun h2 => ?_⟩
            have c2 : (l.length : Int) < (L.length : Int) := (cI hc h18).2.1.mp (by first | exact h2 | exact Int32.not_lt.mp h2 | exact Int32.not_le.mp h2)
            refine hB _ _ _ _ _ (fun m3 hm3 => ?_)
            dsimp only [ugo, uwp, ust, uct, rfd, BjudgeAll, BjudgeAll_143, Nat.beq, lv_args, rlk, rs1, rs2, rdl, rky, rcd, rno, rsw, Value.category, List.filter, List.take, List.drop, List.reverse, List.reverseAux, List.cons_append, List.nil_append, Option.toList, Int.toNat, Int.reduceToNat, if_pos, if_neg, reduceIte, ↓reduceIte, Nat.reduceAdd, Nat.reduceEqDiff, Nat.reduceBEq, beq_self_eq_true, Bool.not_true, Bool.not_false, Bool.and_true, Bool.and_false, Bool.true_and, Bool.false_and, gI_sI, gI_sL, gI_sA, gI_sM, gL_sI, gL_sL, gL_sA, gL_sM, aI_sI, aI_sL, aI_sA, aI_sM, aL_sI, aL_sL, aL_sA, aL_sM, oi_18]; try dsimp only
            intro p4
            refine ⟨fun h5 => ?_, fun h5 => (by exfalso; have c5 : op ≤ 18 := (cI hop (rfl : (18 : Int32).toInt = 18)).2.2.1.mp (by first | exact h5 | exact Int32.not_lt.mp h5 | exact Int32.not_le.mp h5); omega)⟩
            have c5 : 18 < op := (cI hop (rfl : (18 : Int32).toInt = 18)).2.2.2.1.mp h5
            refine hB _ _ _ _ _ (fun m6 hm6 => ?_)
            dsimp only [ugo, uwp, ust, uct, rfd, BjudgeAll, BjudgeAll_162, Nat.beq, lv_args, rlk, rs1, rs2, rdl, rky, rcd, rno, rsw, Value.category, List.filter, List.take, List.drop, List.reverse, List.reverseAux, List.cons_append, List.nil_append, Option.toList, Int.toNat, Int.reduceToNat, if_pos, if_neg, reduceIte, ↓reduceIte, Nat.reduceAdd, Nat.reduceEqDiff, Nat.reduceBEq, beq_self_eq_true, Bool.not_true, Bool.not_false, Bool.and_true, Bool.and_false, Bool.true_and, Bool.false_and, gI_sI, gI_sL, gI_sA, gI_sM, gL_sI, gL_sL, gL_sA, gL_sM, aI_sI, aI_sL, aI_sA, aI_sM, aL_sI, aL_sL, aL_sA, aL_sM]; try dsimp only
            refine ⟨trivial, fun w7 τ7 hq7 => ?_⟩
            obtain ⟨rfl, ok7, F7, hst7, hJ7⟩ := hq7.2 _ _ _ _ (y_pre hJ hSx hc hX)
            have hss := y_st hJ hSx hUx hc (by omega) hX hst7
            rcases hJ7 with ⟨hn7, hz7⟩ | ⟨ho7, hF7⟩
            · dsimp only [Option.toList, List.cons_append, List.nil_append, Nat.beq, gI_sI, gI_sL, gI_sA, gI_sM, gL_sI, gL_sL, gL_sA, gL_sM, aI_sI, aI_sL, aI_sA, aI_sM, aL_sI, aL_sL, aL_sA, aL_sM]
              have hnb : ¬ OkJ C Nf T0 L nm nv cl := fun q => q.2.elim (okl_ny hO hsf (fun z => hn7 (hss.1.mpr z)))
              exact hW _ 167 [(0, .ref 1000), (1, .int c)] _ _ _ (by simp [rdl, rky, Value.category]) ((bad hnb _).2.2.2.2.2.2.2.2.2.2.2.2.1 c _ hz7)
            · dsimp only [Option.toList, List.cons_append, List.nil_append, Nat.beq, gI_sI, gI_sL, gI_sA, gI_sM, gL_sI, gL_sL, gL_sA, gL_sM, aI_sI, aI_sL, aI_sA, aI_sM, aL_sI, aL_sL, aL_sA, aL_sM]
              have hW3 := hss.2 _ ho7 hF7
              have hW2 := hVv
              have hO2 : OkL C Nf T0 (.inr x :: l) T := ⟨hO, hss.1.mp ho7⟩
              refine hB _ _ _ _ _ (fun m8 hm8 => ?_)
              dsimp only [ugo, uwp, ust, uct, rfd, BjudgeAll, BjudgeAll_167, Nat.beq, lv_args, rlk, rs1, rs2, rdl, rky, rcd, rno, rsw, Value.category, List.filter, List.take, List.drop, List.reverse, List.reverseAux, List.cons_append, List.nil_append, Option.toList, Int.toNat, Int.reduceToNat, if_pos, if_neg, reduceIte, ↓reduceIte, Nat.reduceAdd, Nat.reduceEqDiff, Nat.reduceBEq, beq_self_eq_true, Bool.not_true, Bool.not_false, Bool.and_true, Bool.and_false, Bool.true_and, Bool.false_and, gI_sI, gI_sL, gI_sA, gI_sM, gL_sI, gL_sL, gL_sA, gL_sM, aI_sI, aI_sL, aI_sA, aI_sM, aL_sI, aL_sL, aL_sA, aL_sM, oi_1]; try dsimp only
              have ci := i32_1 (v := c) hc (by omega) (by omega)
              exact hW _ 135 [(0, .ref 1000), (1, .int (c + 1))] _ _ _ (by simp [rdl, rky, Value.category]) (loop _ (by omega) (c + 1) _ _ _ _ (by rw [ci, List.length_cons]; omega) hsf hO2 hW2 hW3)
    have t61 : (∀ k, k < nm → m1T C.2.2.2 k 12) → ∀ (N : Nat) (v : Int32) (k : Nat) (Y : RS), v.toInt = (k : Int) → k ≤ nv → VlR σ Y (mtfR (sA σ 80 (clrR σ (gI σ 2).toInt.toNat)) nm) cl k → K N 61 [(0, .ref 1000), (1, .int v)] [] Y := by
      intro hmOK N
      induction N using Nat.strongRecOn with
      | ind N loop =>
        intro v k Y hv hkn hV
        have h42y : (gI Y 42).toInt = (nv : Int) := by rw [hV.1.1.1 42 (by decide) (by decide) (by decide) (by decide) (by decide) (by decide)]; exact h42
        refine hB _ _ _ _ _ (fun m1 hm1 => ?_)
        dsimp only [ugo, uwp, ust, uct, rfd, BjudgeAll, BjudgeAll_61, Nat.beq, lv_args, rlk, rs1, rs2, rdl, rky, rcd, rno, rsw, Value.category, List.filter, List.take, List.drop, List.reverse, List.reverseAux, List.cons_append, List.nil_append, Option.toList, Int.toNat, Int.reduceToNat, if_pos, if_neg, reduceIte, ↓reduceIte, Nat.reduceAdd, Nat.reduceEqDiff, Nat.reduceBEq, beq_self_eq_true, Bool.not_true, Bool.not_false, Bool.and_true, Bool.and_false, Bool.true_and, Bool.false_and, gI_sI, gI_sL, gI_sA, gI_sM, gL_sI, gL_sL, gL_sA, gL_sM, aI_sI, aI_sL, aI_sA, aI_sM, aL_sI, aL_sL, aL_sA, aL_sM]; try dsimp only
        refine ⟨fun h2 => ?_, fun h2 => ?_⟩
        · have c2 : (nv : Int) ≤ (k : Int) := (cI hv h42y).2.2.2.2.mp h2
          refine hB _ _ _ _ _ (fun m3 hm3 => ?_)
          dsimp only [ugo, uwp, ust, uct, rfd, BjudgeAll, BjudgeAll_128, Nat.beq, lv_args, rlk, rs1, rs2, rdl, rky, rcd, rno, rsw, Value.category, List.filter, List.take, List.drop, List.reverse, List.reverseAux, List.cons_append, List.nil_append, Option.toList, Int.toNat, Int.reduceToNat, if_pos, if_neg, reduceIte, ↓reduceIte, Nat.reduceAdd, Nat.reduceEqDiff, Nat.reduceBEq, beq_self_eq_true, Bool.not_true, Bool.not_false, Bool.and_true, Bool.and_false, Bool.true_and, Bool.false_and, gI_sI, gI_sL, gI_sA, gI_sM, gL_sI, gL_sL, gL_sA, gL_sM, aI_sI, aI_sL, aI_sA, aI_sM, aL_sI, aL_sL, aL_sA, aL_sM, oi_0]; try dsimp only
          have ek : k = nv := by omega
          subst ek
          exact hW _ 135 [(0, .ref 1000), (1, .int 0)] _ _ _ (by simp [rdl, rky, Value.category]) (t135 ⟨hmOK, hV.2.2.2.2⟩ _ 0 [] _ T0 [] rfl (List.nil_suffix) rfl hVv0 (JR.nil hP0 ⟨⟨hV.1.1.i (by omega), hV.1.2.1, hV.1.2.2.1, hV.1.2.2.2.1, hV.1.2.2.2.2⟩, hV.2.1, hV.2.2.1, hV.2.2.2.1, hV.2.2.2.2⟩ rfl))
        · have c2 : (k : Int) < (nv : Int) := (cI hv h42y).2.1.mp (by first | exact h2 | exact Int32.not_lt.mp h2 | exact Int32.not_le.mp h2)
          refine hB _ _ _ _ _ (fun m4 hm4 => ?_)
          dsimp only [ugo, uwp, ust, uct, rfd, BjudgeAll, BjudgeAll_69, Nat.beq, lv_args, rlk, rs1, rs2, rdl, rky, rcd, rno, rsw, Value.category, List.filter, List.take, List.drop, List.reverse, List.reverseAux, List.cons_append, List.nil_append, Option.toList, Int.toNat, Int.reduceToNat, if_pos, if_neg, reduceIte, ↓reduceIte, Nat.reduceAdd, Nat.reduceEqDiff, Nat.reduceBEq, beq_self_eq_true, Bool.not_true, Bool.not_false, Bool.and_true, Bool.and_false, Bool.true_and, Bool.false_and, gI_sI, gI_sL, gI_sA, gI_sM, gL_sI, gL_sL, gL_sA, gL_sM, aI_sI, aI_sL, aI_sA, aI_sM, aL_sI, aL_sL, aL_sA, aL_sM, oi_0]; try dsimp only
          have hk : k < nv := by omega
          have vk : v.toNatClampNeg = k := nT_x hv
          have e43 : aI Y 43 = aI σ 43 := hV.1.1.2.2.1 43 (bj_n (by omega))
          have hJf : JfR (sI σ 68 1) (sI (sA (sA Y 86 (upd (aI Y 86) v.toNatClampNeg 0)) 80 (upd (aI Y 80) (aI Y 43 v.toNatClampNeg).toNatClampNeg v)) 89 (aI Y 46 v.toNatClampNeg)) := ((hV.1.1.a rfl).a rfl).i (by omega)
          have h42Y : 0 ≤ (gI Y 42).toInt := by omega
          intro p5
          intro p6
          intro p7
          intro p8
          intro p9
          refine ⟨trivial, fun w10 τ10 hq10 => ?_⟩
          obtain ⟨rfl, r10, rfl, hr10⟩ := hq10 trivial
          have hfd10 := hcl k hk _ hJf (by show aI Y 46 v.toNatClampNeg = aI Y 46 k; rw [vk]) r10.toInt (by have z := hr10 h42Y; have e : aI Y 43 k = aI Y 43 v.toNatClampNeg := (by rw [vk]); show FdR _ (aI Y 43 k) _; rw [e]; exact z)
          dsimp only [Option.toList, List.cons_append, List.nil_append, Nat.beq, gI_sI, gI_sL, gI_sA, gI_sM, gL_sI, gL_sL, gL_sA, gL_sM, aI_sI, aI_sL, aI_sA, aI_sM, aL_sI, aL_sL, aL_sA, aL_sM]
          refine ⟨fun h11 => ?_, fun h11 => ?_⟩
          · have c11 : (r10).toInt < 0 := (cI (rfl : (r10).toInt = (r10).toInt) (rfl : (0 : Int32).toInt = 0)).2.1.mp h11
            refine hB _ _ _ _ _ (fun m12 hm12 => ?_)
            dsimp only [ugo, uwp, ust, uct, rfd, BjudgeAll, BjudgeAll_122, Nat.beq, lv_args, rlk, rs1, rs2, rdl, rky, rcd, rno, rsw, Value.category, List.filter, List.take, List.drop, List.reverse, List.reverseAux, List.cons_append, List.nil_append, Option.toList, Int.toNat, Int.reduceToNat, if_pos, if_neg, reduceIte, ↓reduceIte, Nat.reduceAdd, Nat.reduceEqDiff, Nat.reduceBEq, beq_self_eq_true, Bool.not_true, Bool.not_false, Bool.and_true, Bool.and_false, Bool.true_and, Bool.false_and, gI_sI, gI_sL, gI_sA, gI_sM, gL_sI, gL_sL, gL_sA, gL_sM, aI_sI, aI_sL, aI_sA, aI_sM, aL_sI, aL_sL, aL_sA, aL_sM, oi_1]; try dsimp only
            have vi := i32_1 (v := v) hv (by have := (gI σ 42).toInt_lt; omega) (by omega)
            have ncl : ¬ cl k := fun q => by have z := (hfd10.mpr q); omega
            exact hW _ 61 [(0, .ref 1000), (1, .int (v + 1))] _ _ _ (by simp [rdl, rky, Value.category]) (loop _ (by omega) (v + 1) (k + 1) _ (by omega) (by omega) ⟨⟨hJf, hV.1.2.1, hV.1.2.2.1, hV.1.2.2.2.1, hV.1.2.2.2.2⟩, hV.2.1, (by rw [vnR, ← hV.2.2.1, ← e43, vk, show v = Int32.ofInt k by rw [← hv, Int32.ofInt_toInt]]; rfl), fun u hu => (by show upd (aI Y 86) v.toNatClampNeg 0 u = 0; rw [vk]; by_cases e : u = k; (rw [e, upd_eq]); (rw [upd_ne e]; exact hV.2.2.2.1 u (by omega))), fun u hu => (by by_cases e : u = k; (rw [e]; exact ncl); exact hV.2.2.2.2 u (by omega))⟩)
          · have c11 : 0 ≤ (r10).toInt := (cI (rfl : (r10).toInt = (r10).toInt) (rfl : (0 : Int32).toInt = 0)).2.2.2.2.mp (by first | exact h11 | exact Int32.not_lt.mp h11 | exact Int32.not_le.mp h11)
            refine hB _ _ _ _ _ (fun m13 hm13 => ?_)
            dsimp only [ugo, uwp, ust, uct, rfd, BjudgeAll, BjudgeAll_111, Nat.beq, lv_args, rlk, rs1, rs2, rdl, rky, rcd, rno, rsw, Value.category, List.filter, List.take, List.drop, List.reverse, List.reverseAux, List.cons_append, List.nil_append, Option.toList, Int.toNat, Int.reduceToNat, if_pos, if_neg, reduceIte, ↓reduceIte, Nat.reduceAdd, Nat.reduceEqDiff, Nat.reduceBEq, beq_self_eq_true, Bool.not_true, Bool.not_false, Bool.and_true, Bool.and_false, Bool.true_and, Bool.false_and, gI_sI, gI_sL, gI_sA, gI_sM, gL_sI, gL_sL, gL_sA, gL_sM, aI_sI, aI_sL, aI_sA, aI_sM, aL_sI, aL_sL, aL_sA, aL_sM, oi_2]; try dsimp only
            intro p14
            refine ⟨trivial, fun w15 τ15 hq15 => ?_⟩
            obtain ⟨rfl, hz15⟩ := hq15 (show ¬ (2 : Int32) = 0 by decide)
            dsimp only [Option.toList, List.cons_append, List.nil_append, Nat.beq, gI_sI, gI_sL, gI_sA, gI_sM, gL_sI, gL_sL, gL_sA, gL_sM, aI_sI, aI_sL, aI_sA, aI_sM, aL_sI, aL_sL, aL_sA, aL_sM]
            have hnb : ¬ OkJ C Nf T0 L nm nv cl := fun q => q.1.2 k hk (hfd10.mp (by omega))
            exact hW _ 122 [(0, .ref 1000), (1, .int v)] _ _ _ (by simp [rdl, rky, Value.category]) ((bad hnb _).2.2.2.2.2.2.1 v _ hz15)
    have t33 : ∀ (N : Nat) (i : Int32) (k : Nat) (f : Nat → Int32), i.toInt = (k : Int) → (k : Int) ≤ (gI σ 2).toInt → f = clrR σ k → K N 33 [(0, .ref 1000), (1, .int i)] [] (sA (sI (sI (sI (sI (sI (sI σ 68 1) 66 0) 67 (-2)) 74 0) 69 0) 89 0) 80 f) := by
      intro N
      induction N using Nat.strongRecOn with
      | ind N loop =>
        intro i k f hi hk hf
        refine hB _ _ _ _ _ (fun m1 hm1 => ?_)
        dsimp only [ugo, uwp, ust, uct, rfd, BjudgeAll, BjudgeAll_33, Nat.beq, lv_args, rlk, rs1, rs2, rdl, rky, rcd, rno, rsw, Value.category, List.filter, List.take, List.drop, List.reverse, List.reverseAux, List.cons_append, List.nil_append, Option.toList, Int.toNat, Int.reduceToNat, if_pos, if_neg, reduceIte, ↓reduceIte, Nat.reduceAdd, Nat.reduceEqDiff, Nat.reduceBEq, beq_self_eq_true, Bool.not_true, Bool.not_false, Bool.and_true, Bool.and_false, Bool.true_and, Bool.false_and, gI_sI, gI_sL, gI_sA, gI_sM, gL_sI, gL_sL, gL_sA, gL_sM, aI_sI, aI_sL, aI_sA, aI_sM, aL_sI, aL_sL, aL_sA, aL_sM]; try dsimp only
        refine ⟨fun h2 => ?_, fun h2 => ?_⟩
        · have c2 : (gI σ 2).toInt ≤ (k : Int) := (cI hi (rfl : (gI σ 2).toInt = (gI σ 2).toInt)).2.2.2.2.mp h2
          refine hB _ _ _ _ _ (fun m3 hm3 => ?_)
          dsimp only [ugo, uwp, ust, uct, rfd, BjudgeAll, BjudgeAll_55, Nat.beq, lv_args, rlk, rs1, rs2, rdl, rky, rcd, rno, rsw, Value.category, List.filter, List.take, List.drop, List.reverse, List.reverseAux, List.cons_append, List.nil_append, Option.toList, Int.toNat, Int.reduceToNat, if_pos, if_neg, reduceIte, ↓reduceIte, Nat.reduceAdd, Nat.reduceEqDiff, Nat.reduceBEq, beq_self_eq_true, Bool.not_true, Bool.not_false, Bool.and_true, Bool.and_false, Bool.true_and, Bool.false_and, gI_sI, gI_sL, gI_sA, gI_sM, gL_sI, gL_sL, gL_sA, gL_sM, aI_sI, aI_sL, aI_sA, aI_sM, aL_sI, aL_sL, aL_sA, aL_sM, oi_0]; try dsimp only
          refine ⟨trivial, fun w4 τ4 hq4 => ?_⟩
          have hJ4 := (hq4.2 C.2.2.2 nm ⟨rfl, hM _ ((((((JfR.rf.i (k := 66) (by omega)).i (k := 67) (by omega)).i (k := 74) (by omega)).i (k := 69) (by omega)).i (k := 89) (by omega)).a rfl)⟩).2
          obtain rfl := (hq4.2 C.2.2.2 nm ⟨rfl, hM _ ((((((JfR.rf.i (k := 66) (by omega)).i (k := 67) (by omega)).i (k := 74) (by omega)).i (k := 69) (by omega)).i (k := 89) (by omega)).a rfl)⟩).1
          rcases hJ4 with ⟨hn4, hz4⟩ | ⟨hm4_, rfl⟩
          · dsimp only [Option.toList, List.cons_append, List.nil_append, Nat.beq, gI_sI, gI_sL, gI_sA, gI_sM, gL_sI, gL_sL, gL_sA, gL_sM, aI_sI, aI_sL, aI_sA, aI_sM, aL_sI, aL_sL, aL_sA, aL_sM]
            have hnb : ¬ OkJ C Nf T0 L nm nv cl := fun q => hn4 q.1.1
            exact hW _ 61 [(0, .ref 1000), (1, .int 0)] _ _ _ (by simp [rdl, rky, Value.category]) ((bad hnb _).2.2.2.1 0 _ hz4)
          · dsimp only [Option.toList, List.cons_append, List.nil_append, Nat.beq, gI_sI, gI_sL, gI_sA, gI_sM, gL_sI, gL_sL, gL_sA, gL_sM, aI_sI, aI_sL, aI_sA, aI_sM, aL_sI, aL_sL, aL_sA, aL_sM]
            have hmOK := hm4_
            have ek : k = (gI σ 2).toInt.toNat := by omega
            subst ek
            rw [sA_sA]
            refine hW _ 61 [(0, .ref 1000), (1, .int 0)] _ _ _ (by simp [rdl, rky, Value.category]) (t61 hmOK _ 0 0 _ rfl (by omega) ⟨⟨(((((JfR.rf.i (k := 66) (by omega)).i (k := 67) (by omega)).i (k := 74) (by omega)).i (k := 69) (by omega)).i (k := 89) (by omega)).a rfl, rfl, rfl, rfl, h91⟩, rfl, ?_, fun u hu => absurd hu (Nat.not_lt_zero _), fun u hu => absurd hu (Nat.not_lt_zero _)⟩)
            rw [hf]
            show mtfR _ nm = mtfR _ nm
            exact mtf_c (by rfl) (by rfl)
        · have c2 : (k : Int) < (gI σ 2).toInt := (cI hi (rfl : (gI σ 2).toInt = (gI σ 2).toInt)).2.1.mp (by first | exact h2 | exact Int32.not_lt.mp h2 | exact Int32.not_le.mp h2)
          refine hB _ _ _ _ _ (fun m5 hm5 => ?_)
          dsimp only [ugo, uwp, ust, uct, rfd, BjudgeAll, BjudgeAll_41, Nat.beq, lv_args, rlk, rs1, rs2, rdl, rky, rcd, rno, rsw, Value.category, List.filter, List.take, List.drop, List.reverse, List.reverseAux, List.cons_append, List.nil_append, Option.toList, Int.toNat, Int.reduceToNat, if_pos, if_neg, reduceIte, ↓reduceIte, Nat.reduceAdd, Nat.reduceEqDiff, Nat.reduceBEq, beq_self_eq_true, Bool.not_true, Bool.not_false, Bool.and_true, Bool.and_false, Bool.true_and, Bool.false_and, gI_sI, gI_sL, gI_sA, gI_sM, gL_sI, gL_sL, gL_sA, gL_sM, aI_sI, aI_sL, aI_sA, aI_sM, aL_sI, aL_sL, aL_sA, aL_sM, oi_1, oi_m2]; try dsimp only
          intro p6
          have ii := i32_1 (v := i) hi (by have := (gI σ 2).toInt_lt; omega) (by omega)
          rw [sA_sA, hf, show i.toNatClampNeg = k from nT_x hi, clr_s]
          exact hW _ 33 [(0, .ref 1000), (1, .int (i + 1))] _ _ _ (by simp [rdl, rky, Value.category]) (loop _ (by omega) (i + 1) (k + 1) _ (by omega) (by omega) rfl)
    intro n0
    refine hB _ _ _ _ _ (fun m1 hm1 => ?_)
    dsimp only [ugo, uwp, ust, uct, rfd, BjudgeAll, BjudgeAll_0, Nat.beq, lv_args, rlk, rs1, rs2, rdl, rky, rcd, rno, rsw, Value.category, List.filter, List.take, List.drop, List.reverse, List.reverseAux, List.cons_append, List.nil_append, Option.toList, Int.toNat, Int.reduceToNat, if_pos, if_neg, reduceIte, ↓reduceIte, Nat.reduceAdd, Nat.reduceEqDiff, Nat.reduceBEq, beq_self_eq_true, Bool.not_true, Bool.not_false, Bool.and_true, Bool.and_false, Bool.true_and, Bool.false_and, gI_sI, gI_sL, gI_sA, gI_sM, gL_sI, gL_sL, gL_sA, gL_sM, aI_sI, aI_sL, aI_sA, aI_sM, aL_sI, aL_sL, aL_sA, aL_sM, oi_0, oi_1, oi_m2]; try dsimp only
    have z := t33 m1 0 0 (aI σ 80) rfl (by omega) clr_0.symm
    rw [show ((sA (sI (sI (sI (sI (sI (sI σ 68 1) 66 0) 67 (-2)) 74 0) 69 0) 89 0) 80 (aI σ 80)) : RS) = (sI (sI (sI (sI (sI (sI σ 68 1) 66 0) 67 (-2)) 74 0) 69 0) 89 0) from (sA_id (σ := (sI (sI (sI (sI (sI (sI σ 68 1) 66 0) 67 (-2)) 74 0) 69 0) 89 0)) (k := 80))] at z
    exact hW _ 33 [(0, .ref 1000), (1, .int 0)] _ _ _ (by simp [rdl, rky, Value.category]) z
  next => exact hP.elim
theorem w_judgeAllB : UMet 82 (fun _ _ => True) Qw_judgeAllB := fun A1 σ _ w τ h kd C Nf T0 L tn nm nv cl hP => v_judgeAllB kd C Nf T0 L tn nm nv cl A1 σ hP w τ h

/-! the reference judges exps: assignments; methods as they are told -/
theorem sgT_p : ∀ p ∈ sgT, 33 ≤ p.1 := by decide
/-- method m has the NAME of token t -/
def nmR (σ : RS) (m : Int32) (t : Nat) : Prop := (m < 10 ∧ sameR σ (aI σ 37 m.toNatClampNeg).toNatClampNeg t) ∨ (m = 10 ∧ aL σ 7 t = Int64.ofInt 7304564 ∧ aI σ 5 t = 3) ∨ (10 < m ∧ aL σ 7 t = Int64.ofInt 26990 ∧ aI σ 5 t = 2)
def ptR (σ : RS) (m : Int32) (i : Nat) : Int := ((if m = 10 then 4 else aI σ 44 (aI σ 40 m.toNatClampNeg + Int32.ofNat i).toNatClampNeg : Int32)).toInt
def pcR (σ : RS) (m : Int32) : Int32 := if m = 10 then 1 else if m = 11 then 0 else aI σ 39 m.toNatClampNeg
def Pv_assignB (C : CxT) (b t0 : TvT) (x : XrZ) : UP1 := fun A1 σ => match A1 with
  | [.int c, .int t] => gI σ 66 = 0 ∧ TeR σ ((gI σ 69) - 1).toNatClampNeg b ∧ ((x.1.2.1 = 8 ∧ (aI σ 20 c.toNatClampNeg).toInt = 61) ∨ (¬ x.1.2.1 = 8 ∧ ((aI σ 20 c.toNatClampNeg).toInt - 400, x.1.2.1) ∈ sgT ∧ 22 ≤ x.1.2.1 ∧ x.1.2.1 ≤ 38 ∧ (x.1.2.1 ≤ 24 ∨ 31 ≤ x.1.2.1))) ∧ 0 ≤ (gI σ 42).toInt ∧ (∀ r, FdR σ t r → r = x.2.1.2.1 ∨ (r < 0 ∧ x.2.1.2.1 < 0)) ∧ (0 ≤ x.2.1.2.1 → knT C x.2.1.2.1) ∧ (knT C x.2.1.2.1 → (aI σ 44 x.2.1.2.1.toNat).toInt = (vtT C x.2.1.2.1).1 ∧ (¬ aI σ 45 x.2.1.2.1.toNat = 0 ↔ ¬ (vtT C x.2.1.2.1).2 = 0) ∧ 0 ≤ (vtT C x.2.1.2.1).1 ∧ (vtT C x.2.1.2.1).1 ≤ 4) ∧ t0.2.1 = 0
  | _ => False
def Qv_assignB (C : CxT) (b t0 : TvT) (x : XrZ) : UQ1 := fun A1 σ w τ => match A1 with
  | [.int c, .int t] => w = none ∧ JgR τ (x9T C b t0 x) (fun e τ => ∃ (l : Int32) (σ1 : RS) (ty su : Int32) (v : Int64), l.toInt = x.2.1.2.1 ∧ ((x.1.2.1 = 8 ∧ σ1 = (sA (sA (sI σ 69 (gI σ 69 - 1)) 83 (upd (aI σ 83) c.toNatClampNeg l)) 80 (upd (aI σ 80) t.toNatClampNeg l))) ∨ (¬ x.1.2.1 = 8 ∧ ∃ wk : Int32, wk.toInt = e.2.2.2 ∧ σ1 = sA (sA (sA (sI σ 69 (gI σ 69 - 1)) 83 (upd (aI σ 83) c.toNatClampNeg l)) 80 (upd (aI σ 80) t.toNatClampNeg l)) 82 (upd (aI σ 82) c.toNatClampNeg wk))) ∧ ShT ty su v e ∧ τ = lieS σ1 c ty su v)
  | _ => False
def Qw_assignB : UQ1 := fun A1 σ w τ => ∀ (C : CxT) (b t0 : TvT) (x : XrZ), Pv_assignB C b t0 x A1 σ → Qv_assignB C b t0 x A1 σ w τ
set_option maxRecDepth 100000 in
set_option maxHeartbeats 4000000 in
theorem v_assignB (C : CxT) (b t0 : TvT) (x : XrZ) : UMet 100 (Pv_assignB C b t0 x) (Qv_assignB C b t0 x) := by
  refine UMet.by Bassign [(70, (fun _ _ => True), Qw_err), (71, (fun _ _ => True), Qw_find), (75, (fun _ _ => True), Qw_fits), (79, (fun _ _ => True), Qw_isBad), (94, (fun _ _ => True), Qw_isBits), (93, (fun _ _ => True), Qw_isShift), (77, (fun _ _ => True), Qw_lie), (80, (fun _ _ => True), Qw_need), (78, (fun _ _ => True), Qw_none), (96, (fun _ _ => True), Qw_pair), (81, (fun _ _ => True), Qw_wide)] rfl (ucc w_err (ucc w_find (ucc w_fits (ucc w_isBad (ucc w_isBits (ucc w_isShift (ucc w_lie (ucc w_need (ucc w_none (ucc w_pair (ucc w_wide uc0))))))))))) ?_
  intro A1 σ hP K hB hW
  unfold Pv_assignB at hP
  split at hP
  next c t =>
    obtain ⟨hE, hb, hop, h42, hl, hK, hV, ht0⟩ := hP
    have bad : x9T C b t0 x = none → ∀ N : Nat, (∀ (x1 : Int32) (x2 : Int32) (Y : RS), ¬ gI Y 66 = 0 → K N 0 [(0, .ref 1000), (1, .int x1), (2, .int x2)] [] Y) ∧ (∀ (x1 : Int32) (x2 : Int32) (x3 : Int32) (x4 : Int32) (Y : RS), ¬ gI Y 66 = 0 → K N 35 [(0, .ref 1000), (1, .int x1), (2, .int x2), (3, .int x3), (4, .int x4)] [] Y) ∧ (∀ (x1 : Int32) (x2 : Int32) (x3 : Int32) (x4 : Int32) (Y : RS), ¬ gI Y 66 = 0 → K N 51 [(0, .ref 1000), (1, .int x1), (2, .int x2), (3, .int x3), (4, .int x4)] [] Y) ∧ (∀ (x1 : Int32) (x2 : Int32) (x3 : Int32) (x4 : Int32) (Y : RS), ¬ gI Y 66 = 0 → K N 62 [(0, .ref 1000), (1, .int x1), (2, .int x2), (3, .int x3), (4, .int x4)] [] Y) ∧ (∀ (x1 : Int32) (x2 : Int32) (x3 : Int32) (x4 : Int32) (Y : RS), ¬ gI Y 66 = 0 → K N 68 [(0, .ref 1000), (1, .int x1), (2, .int x2), (3, .int x3), (4, .int x4)] [] Y) ∧ (∀ (x1 : Int32) (x2 : Int32) (x3 : Int32) (x4 : Int32) (Y : RS), ¬ gI Y 66 = 0 → K N 86 [(0, .ref 1000), (1, .int x1), (2, .int x2), (3, .int x3), (4, .int x4)] [] Y) ∧ (∀ (x1 : Int32) (x2 : Int32) (x3 : Int32) (x4 : Int32) (Y : RS), ¬ gI Y 66 = 0 → K N 90 [(0, .ref 1000), (1, .int x1), (2, .int x2), (3, .int x3), (4, .int x4)] [] Y) ∧ (∀ (x1 : Int32) (x2 : Int32) (x3 : Int32) (x4 : Int32) (s0 : Int32) (Y : RS), ¬ gI Y 66 = 0 → K N 91 [(0, .ref 1000), (1, .int x1), (2, .int x2), (3, .int x3), (4, .int x4)] [.int s0] Y) ∧ (∀ (x1 : Int32) (x2 : Int32) (x3 : Int32) (x4 : Int32) (x5 : Int32) (Y : RS), ¬ gI Y 66 = 0 → K N 98 [(0, .ref 1000), (1, .int x1), (2, .int x2), (3, .int x3), (4, .int x4), (5, .int x5)] [] Y) ∧ (∀ (x1 : Int32) (x2 : Int32) (x3 : Int32) (x4 : Int32) (x5 : Int32) (Y : RS), ¬ gI Y 66 = 0 → K N 105 [(0, .ref 1000), (1, .int x1), (2, .int x2), (3, .int x3), (4, .int x4), (5, .int x5)] [] Y) ∧ (∀ (x1 : Int32) (x2 : Int32) (x3 : Int32) (x4 : Int32) (x5 : Int32) (x6 : Int32) (x7 : Int32) (Y : RS), ¬ gI Y 66 = 0 → K N 129 [(0, .ref 1000), (1, .int x1), (2, .int x2), (3, .int x3), (4, .int x4), (5, .int x5), (6, .int x6), (7, .int x7)] [] Y) ∧ (∀ (x1 : Int32) (x2 : Int32) (x3 : Int32) (x4 : Int32) (x5 : Int32) (x6 : Int32) (x7 : Int32) (Y : RS), ¬ gI Y 66 = 0 → K N 137 [(0, .ref 1000), (1, .int x1), (2, .int x2), (3, .int x3), (4, .int x4), (5, .int x5), (6, .int x6), (7, .int x7)] [] Y) ∧ (∀ (x1 : Int32) (x2 : Int32) (x3 : Int32) (x4 : Int32) (x5 : Int32) (x6 : Int32) (x7 : Int32) (Y : RS), ¬ gI Y 66 = 0 → K N 147 [(0, .ref 1000), (1, .int x1), (2, .int x2), (3, .int x3), (4, .int x4), (5, .int x5), (6, .int x6), (7, .int x7)] [] Y) ∧ (∀ (x1 : Int32) (x2 : Int32) (x3 : Int32) (x4 : Int32) (x5 : Int32) (x6 : Int32) (x7 : Int32) (Y : RS), ¬ gI Y 66 = 0 → K N 164 [(0, .ref 1000), (1, .int x1), (2, .int x2), (3, .int x3), (4, .int x4), (5, .int x5), (6, .int x6), (7, .int x7)] [] Y) ∧ (∀ (x1 : Int32) (x2 : Int32) (x3 : Int32) (x4 : Int32) (x5 : Int32) (x6 : Int32) (x7 : Int32) (x8 : Int32) (Y : RS), ¬ gI Y 66 = 0 → K N 177 [(0, .ref 1000), (1, .int x1), (2, .int x2), (3, .int x3), (4, .int x4), (5, .int x5), (6, .int x6), (7, .int x7), (8, .int x8)] [] Y) ∧ (∀ (x1 : Int32) (x2 : Int32) (x3 : Int32) (x4 : Int32) (x5 : Int32) (x6 : Int32) (x7 : Int32) (x8 : Int32) (Y : RS), ¬ gI Y 66 = 0 → K N 186 [(0, .ref 1000), (1, .int x1), (2, .int x2), (3, .int x3), (4, .int x4), (5, .int x5), (6, .int x6), (7, .int x7), (8, .int x8)] [] Y) ∧ (∀ (x1 : Int32) (x2 : Int32) (x3 : Int32) (x4 : Int32) (x5 : Int32) (x6 : Int32) (x7 : Int32) (x8 : Int32) (Y : RS), ¬ gI Y 66 = 0 → K N 203 [(0, .ref 1000), (1, .int x1), (2, .int x2), (3, .int x3), (4, .int x4), (5, .int x5), (6, .int x6), (7, .int x7), (8, .int x8)] [] Y) ∧ (∀ (x1 : Int32) (x2 : Int32) (x3 : Int32) (x4 : Int32) (x5 : Int32) (x6 : Int32) (x7 : Int32) (x8 : Int32) (Y : RS), ¬ gI Y 66 = 0 → K N 213 [(0, .ref 1000), (1, .int x1), (2, .int x2), (3, .int x3), (4, .int x4), (5, .int x5), (6, .int x6), (7, .int x7), (8, .int x8)] [] Y) ∧ (∀ (x1 : Int32) (x2 : Int32) (x3 : Int32) (x4 : Int32) (x5 : Int32) (x6 : Int32) (x7 : Int32) (x8 : Int32) (s0 : Int32) (Y : RS), ¬ gI Y 66 = 0 → K N 220 [(0, .ref 1000), (1, .int x1), (2, .int x2), (3, .int x3), (4, .int x4), (5, .int x5), (6, .int x6), (7, .int x7), (8, .int x8)] [.int s0, .ref 1000] Y) ∧ (∀ (x1 : Int32) (x2 : Int32) (x3 : Int32) (x4 : Int32) (x5 : Int32) (x6 : Int32) (x7 : Int32) (x8 : Int32) (s0 : Int32) (Y : RS), ¬ gI Y 66 = 0 → K N 224 [(0, .ref 1000), (1, .int x1), (2, .int x2), (3, .int x3), (4, .int x4), (5, .int x5), (6, .int x6), (7, .int x7), (8, .int x8)] [.int s0, .ref 1000] Y) ∧ (∀ (x1 : Int32) (x2 : Int32) (x3 : Int32) (x4 : Int32) (x5 : Int32) (x6 : Int32) (x7 : Int32) (x8 : Int32) (s0 : Int32) (s1 : Int32) (Y : RS), ¬ gI Y 66 = 0 → K N 225 [(0, .ref 1000), (1, .int x1), (2, .int x2), (3, .int x3), (4, .int x4), (5, .int x5), (6, .int x6), (7, .int x7), (8, .int x8)] [.int s0, .int s1, .ref 1000] Y) ∧ (∀ (x1 : Int32) (x2 : Int32) (x3 : Int32) (x4 : Int32) (x5 : Int32) (x6 : Int32) (x7 : Int32) (x8 : Int32) (Y : RS), ¬ gI Y 66 = 0 → K N 231 [(0, .ref 1000), (1, .int x1), (2, .int x2), (3, .int x3), (4, .int x4), (5, .int x5), (6, .int x6), (7, .int x7), (8, .int x8)] [] Y) ∧ (∀ (x1 : Int32) (x2 : Int32) (x3 : Int32) (x4 : Int32) (x5 : Int32) (x6 : Int32) (x7 : Int32) (x8 : Int32) (Y : RS), ¬ gI Y 66 = 0 → K N 234 [(0, .ref 1000), (1, .int x1), (2, .int x2), (3, .int x3), (4, .int x4), (5, .int x5), (6, .int x6), (7, .int x7), (8, .int x8)] [] Y) ∧ (∀ (x1 : Int32) (x2 : Int32) (x3 : Int32) (x4 : Int32) (x5 : Int32) (x6 : Int32) (x7 : Int32) (x8 : Int32) (s0 : Int32) (Y : RS), ¬ gI Y 66 = 0 → K N 244 [(0, .ref 1000), (1, .int x1), (2, .int x2), (3, .int x3), (4, .int x4), (5, .int x5), (6, .int x6), (7, .int x7), (8, .int x8)] [.int s0, .ref 82] Y) ∧ (∀ (x1 : Int32) (x2 : Int32) (x3 : Int32) (x4 : Int32) (x5 : Int32) (x6 : Int32) (x7 : Int32) (x8 : Int32) (s0 : Int32) (Y : RS), ¬ gI Y 66 = 0 → K N 248 [(0, .ref 1000), (1, .int x1), (2, .int x2), (3, .int x3), (4, .int x4), (5, .int x5), (6, .int x6), (7, .int x7), (8, .int x8)] [.int s0, .ref 82] Y) ∧ (∀ (x1 : Int32) (x2 : Int32) (x3 : Int32) (x4 : Int32) (x5 : Int32) (x6 : Int32) (x7 : Int32) (x8 : Int32) (s0 : Int32) (Y : RS), ¬ gI Y 66 = 0 → K N 257 [(0, .ref 1000), (1, .int x1), (2, .int x2), (3, .int x3), (4, .int x4), (5, .int x5), (6, .int x6), (7, .int x7), (8, .int x8)] [.int s0, .ref 82] Y) ∧ (∀ (x1 : Int32) (x2 : Int32) (x3 : Int32) (x4 : Int32) (x5 : Int32) (x6 : Int32) (x7 : Int32) (x8 : Int32) (s0 : Int32) (Y : RS), ¬ gI Y 66 = 0 → K N 266 [(0, .ref 1000), (1, .int x1), (2, .int x2), (3, .int x3), (4, .int x4), (5, .int x5), (6, .int x6), (7, .int x7), (8, .int x8)] [.int s0, .ref 82] Y) ∧ (∀ (x1 : Int32) (x2 : Int32) (x3 : Int32) (x4 : Int32) (x5 : Int32) (x6 : Int32) (x7 : Int32) (x8 : Int32) (s0 : Int32) (Y : RS), ¬ gI Y 66 = 0 → K N 272 [(0, .ref 1000), (1, .int x1), (2, .int x2), (3, .int x3), (4, .int x4), (5, .int x5), (6, .int x6), (7, .int x7), (8, .int x8)] [.int s0, .ref 82] Y) ∧ (∀ (x1 : Int32) (x2 : Int32) (x3 : Int32) (x4 : Int32) (x5 : Int32) (x6 : Int32) (x7 : Int32) (x8 : Int32) (s0 : Int32) (Y : RS), ¬ gI Y 66 = 0 → K N 282 [(0, .ref 1000), (1, .int x1), (2, .int x2), (3, .int x3), (4, .int x4), (5, .int x5), (6, .int x6), (7, .int x7), (8, .int x8)] [.int s0, .ref 82] Y) ∧ (∀ (x1 : Int32) (x2 : Int32) (x3 : Int32) (x4 : Int32) (x5 : Int32) (x6 : Int32) (x7 : Int32) (x8 : Int32) (s0 : Int32) (Y : RS), ¬ gI Y 66 = 0 → K N 286 [(0, .ref 1000), (1, .int x1), (2, .int x2), (3, .int x3), (4, .int x4), (5, .int x5), (6, .int x6), (7, .int x7), (8, .int x8)] [.int s0, .ref 82] Y) ∧ (∀ (x1 : Int32) (x2 : Int32) (x3 : Int32) (x4 : Int32) (x5 : Int32) (x6 : Int32) (x7 : Int32) (x8 : Int32) (s0 : Int32) (s1 : Int32) (Y : RS), ¬ gI Y 66 = 0 → K N 287 [(0, .ref 1000), (1, .int x1), (2, .int x2), (3, .int x3), (4, .int x4), (5, .int x5), (6, .int x6), (7, .int x7), (8, .int x8)] [.int s0, .int s1, .ref 82] Y) ∧ (∀ (x1 : Int32) (x2 : Int32) (x3 : Int32) (x4 : Int32) (x5 : Int32) (x6 : Int32) (x7 : Int32) (Y : RS), ¬ gI Y 66 = 0 → K N 288 [(0, .ref 1000), (1, .int x1), (2, .int x2), (3, .int x3), (4, .int x4), (5, .int x5), (6, .int x6), (7, .int x7)] [] Y) ∧ (∀ (x1 : Int32) (x2 : Int32) (x3 : Int32) (x4 : Int32) (x5 : Int32) (x6 : Int32) (x7 : Int32) (Y : RS), ¬ gI Y 66 = 0 → K N 293 [(0, .ref 1000), (1, .int x1), (2, .int x2), (3, .int x3), (4, .int x4), (5, .int x5), (6, .int x6), (7, .int x7)] [] Y) ∧ (∀ (x1 : Int32) (x2 : Int32) (x3 : Int32) (x4 : Int32) (x5 : Int32) (x6 : Int32) (x7 : Int32) (Y : RS), ¬ gI Y 66 = 0 → K N 301 [(0, .ref 1000), (1, .int x1), (2, .int x2), (3, .int x3), (4, .int x4), (5, .int x5), (6, .int x6), (7, .int x7)] [] Y) ∧ (∀ (x1 : Int32) (x2 : Int32) (x3 : Int32) (x4 : Int32) (x5 : Int32) (x6 : Int32) (x7 : Int32) (Y : RS), ¬ gI Y 66 = 0 → K N 313 [(0, .ref 1000), (1, .int x1), (2, .int x2), (3, .int x3), (4, .int x4), (5, .int x5), (6, .int x6), (7, .int x7)] [] Y) ∧ (∀ (x1 : Int32) (x2 : Int32) (x3 : Int32) (x4 : Int32) (x5 : Int32) (x6 : Int32) (x7 : Int32) (Y : RS), ¬ gI Y 66 = 0 → K N 318 [(0, .ref 1000), (1, .int x1), (2, .int x2), (3, .int x3), (4, .int x4), (5, .int x5), (6, .int x6), (7, .int x7)] [] Y) := by
      intro hnn
      intro N
      induction N using Nat.strongRecOn with
      | ind N ih =>
        refine ⟨?_, ?_, ?_, ?_, ?_, ?_, ?_, ?_, ?_, ?_, ?_, ?_, ?_, ?_, ?_, ?_, ?_, ?_, ?_, ?_, ?_, ?_, ?_, ?_, ?_, ?_, ?_, ?_, ?_, ?_, ?_, ?_, ?_, ?_, ?_, ?_⟩
        · intro x1 x2 Y hz
          refine hB _ _ _ _ _ (fun m1 hm1 => ?_)
          dsimp only [ugo, uwp, ust, uct, rfd, Bassign, Bassign_0, Nat.beq, lv_args, rlk, rs1, rs2, rdl, rky, rcd, rno, rsw, Value.category, List.filter, List.take, List.drop, List.reverse, List.reverseAux, List.cons_append, List.nil_append, Option.toList, Int.toNat, Int.reduceToNat, if_pos, if_neg, reduceIte, ↓reduceIte, Nat.reduceAdd, Nat.reduceEqDiff, Nat.reduceBEq, beq_self_eq_true, Bool.not_true, Bool.not_false, Bool.and_true, Bool.and_false, Bool.true_and, Bool.false_and, gI_sI, gI_sL, gI_sA, gI_sM, gL_sI, gL_sL, gL_sA, gL_sM, aI_sI, aI_sL, aI_sA, aI_sM, aL_sI, aL_sL, aL_sA, aL_sM, oi_1]; try dsimp only
          refine ⟨trivial, fun w2 τ2 hq2 => ?_⟩
          obtain ⟨rfl, r2, rfl, hr2⟩ := hq2 trivial
          dsimp only [Option.toList, List.cons_append, List.nil_append, Nat.beq, gI_sI, gI_sL, gI_sA, gI_sM, gL_sI, gL_sL, gL_sA, gL_sM, aI_sI, aI_sL, aI_sA, aI_sM, aL_sI, aL_sL, aL_sA, aL_sM]
          intro p3
          refine ⟨fun h4 => ?_, fun h4 => ?_⟩
          · exact hW _ 68 [(0, .ref 1000), (1, .int x1), (2, .int x2), (3, .int ((gI Y 69) - 1)), (4, .int r2)] _ _ _ (by simp [rdl, rky, Value.category]) ((ih m1 hm1).2.2.2.2.1 x1 x2 ((gI Y 69) - 1) r2 _ hz)
          · exact hW _ 35 [(0, .ref 1000), (1, .int x1), (2, .int x2), (3, .int ((gI Y 69) - 1)), (4, .int r2)] _ _ _ (by simp [rdl, rky, Value.category]) ((ih m1 hm1).2.1 x1 x2 ((gI Y 69) - 1) r2 _ hz)
        · intro x1 x2 x3 x4 Y hz
          refine hB _ _ _ _ _ (fun m1 hm1 => ?_)
          dsimp only [ugo, uwp, ust, uct, rfd, Bassign, Bassign_35, Nat.beq, lv_args, rlk, rs1, rs2, rdl, rky, rcd, rno, rsw, Value.category, List.filter, List.take, List.drop, List.reverse, List.reverseAux, List.cons_append, List.nil_append, Option.toList, Int.toNat, Int.reduceToNat, if_pos, if_neg, reduceIte, ↓reduceIte, Nat.reduceAdd, Nat.reduceEqDiff, Nat.reduceBEq, beq_self_eq_true, Bool.not_true, Bool.not_false, Bool.and_true, Bool.and_false, Bool.true_and, Bool.false_and, gI_sI, gI_sL, gI_sA, gI_sM, gL_sI, gL_sL, gL_sA, gL_sM, aI_sI, aI_sL, aI_sA, aI_sM, aL_sI, aL_sL, aL_sA, aL_sM, oi_3, oi_5]; try dsimp only
          refine ⟨trivial, fun w2 τ2 hq2 => ?_⟩
          obtain ⟨rfl, hz2⟩ := hq2 (show ¬ (3 : Int32) = 0 by decide)
          dsimp only [Option.toList, List.cons_append, List.nil_append, Nat.beq, gI_sI, gI_sL, gI_sA, gI_sM, gL_sI, gL_sL, gL_sA, gL_sM, aI_sI, aI_sL, aI_sA, aI_sM, aL_sI, aL_sL, aL_sA, aL_sM]
          intro p3
          refine ⟨fun h4 => ?_, fun h4 => ?_⟩
          · exact hW _ 62 [(0, .ref 1000), (1, .int x1), (2, .int x2), (3, .int x3), (4, .int x4)] _ _ _ (by simp [rdl, rky, Value.category]) ((ih m1 hm1).2.2.2.1 x1 x2 x3 x4 _ hz2)
          · exact hW _ 51 [(0, .ref 1000), (1, .int x1), (2, .int x2), (3, .int x3), (4, .int x4)] _ _ _ (by simp [rdl, rky, Value.category]) ((ih m1 hm1).2.2.1 x1 x2 x3 x4 _ hz2)
        · intro x1 x2 x3 x4 Y hz
          refine hB _ _ _ _ _ (fun m1 hm1 => ?_)
          dsimp only [ugo, uwp, ust, uct, rfd, Bassign, Bassign_51, Nat.beq, lv_args, rlk, rs1, rs2, rdl, rky, rcd, rno, rsw, Value.category, List.filter, List.take, List.drop, List.reverse, List.reverseAux, List.cons_append, List.nil_append, Option.toList, Int.toNat, Int.reduceToNat, if_pos, if_neg, reduceIte, ↓reduceIte, Nat.reduceAdd, Nat.reduceEqDiff, Nat.reduceBEq, beq_self_eq_true, Bool.not_true, Bool.not_false, Bool.and_true, Bool.and_false, Bool.true_and, Bool.false_and, gI_sI, gI_sL, gI_sA, gI_sM, gL_sI, gL_sL, gL_sA, gL_sM, aI_sI, aI_sL, aI_sA, aI_sM, aL_sI, aL_sL, aL_sA, aL_sM, oi_5]; try dsimp only
          intro p2
          refine ⟨trivial, fun w3 τ3 hq3 => ?_⟩
          obtain ⟨rfl, hz3⟩ := hq3 (show ¬ (5 : Int32) = 0 by decide)
          dsimp only [Option.toList, List.cons_append, List.nil_append, Nat.beq, gI_sI, gI_sL, gI_sA, gI_sM, gL_sI, gL_sL, gL_sA, gL_sM, aI_sI, aI_sL, aI_sA, aI_sM, aL_sI, aL_sL, aL_sA, aL_sM]
          exact hW _ 62 [(0, .ref 1000), (1, .int x1), (2, .int x2), (3, .int x3), (4, .int x4)] _ _ _ (by simp [rdl, rky, Value.category]) ((ih m1 hm1).2.2.2.1 x1 x2 x3 x4 _ hz3)
        · intro x1 x2 x3 x4 Y hz
          refine hB _ _ _ _ _ (fun m1 hm1 => ?_)
          dsimp only [ugo, uwp, ust, uct, rfd, Bassign, Bassign_62, Nat.beq, lv_args, rlk, rs1, rs2, rdl, rky, rcd, rno, rsw, Value.category, List.filter, List.take, List.drop, List.reverse, List.reverseAux, List.cons_append, List.nil_append, Option.toList, Int.toNat, Int.reduceToNat, if_pos, if_neg, reduceIte, ↓reduceIte, Nat.reduceAdd, Nat.reduceEqDiff, Nat.reduceBEq, beq_self_eq_true, Bool.not_true, Bool.not_false, Bool.and_true, Bool.and_false, Bool.true_and, Bool.false_and, gI_sI, gI_sL, gI_sA, gI_sM, gL_sI, gL_sL, gL_sA, gL_sM, aI_sI, aI_sL, aI_sA, aI_sM, aL_sI, aL_sL, aL_sA, aL_sM]; try dsimp only
          refine ⟨trivial, fun w2 τ2 hq2 => ?_⟩
          obtain ⟨rfl, rfl⟩ := hq2 trivial
          dsimp only [Option.toList, List.cons_append, List.nil_append, Nat.beq, gI_sI, gI_sL, gI_sA, gI_sM, gL_sI, gL_sL, gL_sA, gL_sM, aI_sI, aI_sL, aI_sA, aI_sM, aL_sI, aL_sL, aL_sA, aL_sM]
          unfold Qv_assignB
          try dsimp only
          exact ⟨rfl, Or.inl ⟨hnn, hz⟩⟩
        · intro x1 x2 x3 x4 Y hz
          refine hB _ _ _ _ _ (fun m1 hm1 => ?_)
          dsimp only [ugo, uwp, ust, uct, rfd, Bassign, Bassign_68, Nat.beq, lv_args, rlk, rs1, rs2, rdl, rky, rcd, rno, rsw, Value.category, List.filter, List.take, List.drop, List.reverse, List.reverseAux, List.cons_append, List.nil_append, Option.toList, Int.toNat, Int.reduceToNat, if_pos, if_neg, reduceIte, ↓reduceIte, Nat.reduceAdd, Nat.reduceEqDiff, Nat.reduceBEq, beq_self_eq_true, Bool.not_true, Bool.not_false, Bool.and_true, Bool.and_false, Bool.true_and, Bool.false_and, gI_sI, gI_sL, gI_sA, gI_sM, gL_sI, gL_sL, gL_sA, gL_sM, aI_sI, aI_sL, aI_sA, aI_sM, aL_sI, aL_sL, aL_sA, aL_sM]; try dsimp only
          intro p2
          intro p3
          refine ⟨fun h4 => ?_, fun h4 => ?_⟩
          · exact hW _ 90 [(0, .ref 1000), (1, .int x1), (2, .int x2), (3, .int x3), (4, .int x4)] _ _ _ (by simp [rdl, rky, Value.category]) ((ih m1 hm1).2.2.2.2.2.2.1 x1 x2 x3 x4 _ hz)
          · exact hW _ 86 [(0, .ref 1000), (1, .int x1), (2, .int x2), (3, .int x3), (4, .int x4)] _ _ _ (by simp [rdl, rky, Value.category]) ((ih m1 hm1).2.2.2.2.2.1 x1 x2 x3 x4 _ hz)
        · intro x1 x2 x3 x4 Y hz
          refine hB _ _ _ _ _ (fun m1 hm1 => ?_)
          dsimp only [ugo, uwp, ust, uct, rfd, Bassign, Bassign_86, Nat.beq, lv_args, rlk, rs1, rs2, rdl, rky, rcd, rno, rsw, Value.category, List.filter, List.take, List.drop, List.reverse, List.reverseAux, List.cons_append, List.nil_append, Option.toList, Int.toNat, Int.reduceToNat, if_pos, if_neg, reduceIte, ↓reduceIte, Nat.reduceAdd, Nat.reduceEqDiff, Nat.reduceBEq, beq_self_eq_true, Bool.not_true, Bool.not_false, Bool.and_true, Bool.and_false, Bool.true_and, Bool.false_and, gI_sI, gI_sL, gI_sA, gI_sM, gL_sI, gL_sL, gL_sA, gL_sM, aI_sI, aI_sL, aI_sA, aI_sM, aL_sI, aL_sL, aL_sA, aL_sM, oi_1]; try dsimp only
          exact hW _ 91 [(0, .ref 1000), (1, .int x1), (2, .int x2), (3, .int x3), (4, .int x4)] _ _ _ (by simp [rdl, rky, Value.category]) ((ih m1 hm1).2.2.2.2.2.2.2.1 x1 x2 x3 x4 1 _ hz)
        · intro x1 x2 x3 x4 Y hz
          refine hB _ _ _ _ _ (fun m1 hm1 => ?_)
          dsimp only [ugo, uwp, ust, uct, rfd, Bassign, Bassign_90, Nat.beq, lv_args, rlk, rs1, rs2, rdl, rky, rcd, rno, rsw, Value.category, List.filter, List.take, List.drop, List.reverse, List.reverseAux, List.cons_append, List.nil_append, Option.toList, Int.toNat, Int.reduceToNat, if_pos, if_neg, reduceIte, ↓reduceIte, Nat.reduceAdd, Nat.reduceEqDiff, Nat.reduceBEq, beq_self_eq_true, Bool.not_true, Bool.not_false, Bool.and_true, Bool.and_false, Bool.true_and, Bool.false_and, gI_sI, gI_sL, gI_sA, gI_sM, gL_sI, gL_sL, gL_sA, gL_sM, aI_sI, aI_sL, aI_sA, aI_sM, aL_sI, aL_sL, aL_sA, aL_sM, oi_0]; try dsimp only
          exact hW _ 91 [(0, .ref 1000), (1, .int x1), (2, .int x2), (3, .int x3), (4, .int x4)] _ _ _ (by simp [rdl, rky, Value.category]) ((ih m1 hm1).2.2.2.2.2.2.2.1 x1 x2 x3 x4 0 _ hz)
        · intro x1 x2 x3 x4 s0 Y hz
          refine hB _ _ _ _ _ (fun m1 hm1 => ?_)
          dsimp only [ugo, uwp, ust, uct, rfd, Bassign, Bassign_91, Nat.beq, lv_args, rlk, rs1, rs2, rdl, rky, rcd, rno, rsw, Value.category, List.filter, List.take, List.drop, List.reverse, List.reverseAux, List.cons_append, List.nil_append, Option.toList, Int.toNat, Int.reduceToNat, if_pos, if_neg, reduceIte, ↓reduceIte, Nat.reduceAdd, Nat.reduceEqDiff, Nat.reduceBEq, beq_self_eq_true, Bool.not_true, Bool.not_false, Bool.and_true, Bool.and_false, Bool.true_and, Bool.false_and, gI_sI, gI_sL, gI_sA, gI_sM, gL_sI, gL_sL, gL_sA, gL_sM, aI_sI, aI_sL, aI_sA, aI_sM, aL_sI, aL_sL, aL_sA, aL_sM]; try dsimp only
          refine ⟨fun h2 => ?_, fun h2 => ?_⟩
          · exact hW _ 105 [(0, .ref 1000), (1, .int x1), (2, .int x2), (3, .int x3), (4, .int x4), (5, .int s0)] _ _ _ (by simp [rdl, rky, Value.category]) ((ih m1 hm1).2.2.2.2.2.2.2.2.2.1 x1 x2 x3 x4 s0 _ hz)
          · exact hW _ 98 [(0, .ref 1000), (1, .int x1), (2, .int x2), (3, .int x3), (4, .int x4), (5, .int s0)] _ _ _ (by simp [rdl, rky, Value.category]) ((ih m1 hm1).2.2.2.2.2.2.2.2.1 x1 x2 x3 x4 s0 _ hz)
        · intro x1 x2 x3 x4 x5 Y hz
          refine hB _ _ _ _ _ (fun m1 hm1 => ?_)
          dsimp only [ugo, uwp, ust, uct, rfd, Bassign, Bassign_98, Nat.beq, lv_args, rlk, rs1, rs2, rdl, rky, rcd, rno, rsw, Value.category, List.filter, List.take, List.drop, List.reverse, List.reverseAux, List.cons_append, List.nil_append, Option.toList, Int.toNat, Int.reduceToNat, if_pos, if_neg, reduceIte, ↓reduceIte, Nat.reduceAdd, Nat.reduceEqDiff, Nat.reduceBEq, beq_self_eq_true, Bool.not_true, Bool.not_false, Bool.and_true, Bool.and_false, Bool.true_and, Bool.false_and, gI_sI, gI_sL, gI_sA, gI_sM, gL_sI, gL_sL, gL_sA, gL_sM, aI_sI, aI_sL, aI_sA, aI_sM, aL_sI, aL_sL, aL_sA, aL_sM, oi_7]; try dsimp only
          refine ⟨trivial, fun w2 τ2 hq2 => ?_⟩
          obtain ⟨rfl, hz2⟩ := hq2 (show ¬ (7 : Int32) = 0 by decide)
          dsimp only [Option.toList, List.cons_append, List.nil_append, Nat.beq, gI_sI, gI_sL, gI_sA, gI_sM, gL_sI, gL_sL, gL_sA, gL_sM, aI_sI, aI_sL, aI_sA, aI_sM, aL_sI, aL_sL, aL_sA, aL_sM]
          exact hW _ 105 [(0, .ref 1000), (1, .int x1), (2, .int x2), (3, .int x3), (4, .int x4), (5, .int x5)] _ _ _ (by simp [rdl, rky, Value.category]) ((ih m1 hm1).2.2.2.2.2.2.2.2.2.1 x1 x2 x3 x4 x5 _ hz2)
        · intro x1 x2 x3 x4 x5 Y hz
          refine hB _ _ _ _ _ (fun m1 hm1 => ?_)
          dsimp only [ugo, uwp, ust, uct, rfd, Bassign, Bassign_105, Nat.beq, lv_args, rlk, rs1, rs2, rdl, rky, rcd, rno, rsw, Value.category, List.filter, List.take, List.drop, List.reverse, List.reverseAux, List.cons_append, List.nil_append, Option.toList, Int.toNat, Int.reduceToNat, if_pos, if_neg, reduceIte, ↓reduceIte, Nat.reduceAdd, Nat.reduceEqDiff, Nat.reduceBEq, beq_self_eq_true, Bool.not_true, Bool.not_false, Bool.and_true, Bool.and_false, Bool.true_and, Bool.false_and, gI_sI, gI_sL, gI_sA, gI_sM, gL_sI, gL_sL, gL_sA, gL_sM, aI_sI, aI_sL, aI_sA, aI_sM, aL_sI, aL_sL, aL_sA, aL_sM, oi_61]; try dsimp only
          intro p2
          intro p3
          refine ⟨fun h4 => ?_, fun h4 => ?_⟩
          · exact hW _ 164 [(0, .ref 1000), (1, .int x1), (2, .int x2), (3, .int x3), (4, .int x4), (5, .int x5), (6, .int ((aI Y 44) (x4).toNatClampNeg)), (7, .int ((aI Y 20) (x1).toNatClampNeg))] _ _ _ (by simp [rdl, rky, Value.category]) ((ih m1 hm1).2.2.2.2.2.2.2.2.2.2.2.2.2.1 x1 x2 x3 x4 x5 ((aI Y 44) (x4).toNatClampNeg) ((aI Y 20) (x1).toNatClampNeg) _ hz)
          · exact hW _ 129 [(0, .ref 1000), (1, .int x1), (2, .int x2), (3, .int x3), (4, .int x4), (5, .int x5), (6, .int ((aI Y 44) (x4).toNatClampNeg)), (7, .int ((aI Y 20) (x1).toNatClampNeg))] _ _ _ (by simp [rdl, rky, Value.category]) ((ih m1 hm1).2.2.2.2.2.2.2.2.2.2.1 x1 x2 x3 x4 x5 ((aI Y 44) (x4).toNatClampNeg) ((aI Y 20) (x1).toNatClampNeg) _ hz)
        · intro x1 x2 x3 x4 x5 x6 x7 Y hz
          refine hB _ _ _ _ _ (fun m1 hm1 => ?_)
          dsimp only [ugo, uwp, ust, uct, rfd, Bassign, Bassign_129, Nat.beq, lv_args, rlk, rs1, rs2, rdl, rky, rcd, rno, rsw, Value.category, List.filter, List.take, List.drop, List.reverse, List.reverseAux, List.cons_append, List.nil_append, Option.toList, Int.toNat, Int.reduceToNat, if_pos, if_neg, reduceIte, ↓reduceIte, Nat.reduceAdd, Nat.reduceEqDiff, Nat.reduceBEq, beq_self_eq_true, Bool.not_true, Bool.not_false, Bool.and_true, Bool.and_false, Bool.true_and, Bool.false_and, gI_sI, gI_sL, gI_sA, gI_sM, gL_sI, gL_sL, gL_sA, gL_sM, aI_sI, aI_sL, aI_sA, aI_sM, aL_sI, aL_sL, aL_sA, aL_sM]; try dsimp only
          refine ⟨trivial, fun w2 τ2 hq2 => ?_⟩
          obtain ⟨rfl, b2, rfl, hb2⟩ := hq2 trivial
          dsimp only [Option.toList, List.cons_append, List.nil_append, Nat.beq, gI_sI, gI_sL, gI_sA, gI_sM, gL_sI, gL_sL, gL_sA, gL_sM, aI_sI, aI_sL, aI_sA, aI_sM, aL_sI, aL_sL, aL_sA, aL_sM]
          refine ⟨fun h3 => ?_, fun h3 => ?_⟩
          · exact hW _ 288 [(0, .ref 1000), (1, .int x1), (2, .int x2), (3, .int x3), (4, .int x4), (5, .int x5), (6, .int x6), (7, .int x7)] _ _ _ (by simp [rdl, rky, Value.category]) ((ih m1 hm1).2.2.2.2.2.2.2.2.2.2.2.2.2.2.2.2.2.2.2.2.2.2.2.2.2.2.2.2.2.2.2.1 x1 x2 x3 x4 x5 x6 x7 _ hz)
          · exact hW _ 137 [(0, .ref 1000), (1, .int x1), (2, .int x2), (3, .int x3), (4, .int x4), (5, .int x5), (6, .int x6), (7, .int x7)] _ _ _ (by simp [rdl, rky, Value.category]) ((ih m1 hm1).2.2.2.2.2.2.2.2.2.2.2.1 x1 x2 x3 x4 x5 x6 x7 _ hz)
        · intro x1 x2 x3 x4 x5 x6 x7 Y hz
          refine hB _ _ _ _ _ (fun m1 hm1 => ?_)
          dsimp only [ugo, uwp, ust, uct, rfd, Bassign, Bassign_137, Nat.beq, lv_args, rlk, rs1, rs2, rdl, rky, rcd, rno, rsw, Value.category, List.filter, List.take, List.drop, List.reverse, List.reverseAux, List.cons_append, List.nil_append, Option.toList, Int.toNat, Int.reduceToNat, if_pos, if_neg, reduceIte, ↓reduceIte, Nat.reduceAdd, Nat.reduceEqDiff, Nat.reduceBEq, beq_self_eq_true, Bool.not_true, Bool.not_false, Bool.and_true, Bool.and_false, Bool.true_and, Bool.false_and, gI_sI, gI_sL, gI_sA, gI_sM, gL_sI, gL_sL, gL_sA, gL_sM, aI_sI, aI_sL, aI_sA, aI_sM, aL_sI, aL_sL, aL_sA, aL_sM]; try dsimp only
          refine ⟨trivial, fun w2 τ2 hq2 => ?_⟩
          obtain ⟨rfl, b2, rfl, hb2⟩ := hq2 trivial
          dsimp only [Option.toList, List.cons_append, List.nil_append, Nat.beq, gI_sI, gI_sL, gI_sA, gI_sM, gL_sI, gL_sL, gL_sA, gL_sM, aI_sI, aI_sL, aI_sA, aI_sM, aL_sI, aL_sL, aL_sA, aL_sM]
          refine ⟨fun h3 => ?_, fun h3 => ?_⟩
          · exact hW _ 288 [(0, .ref 1000), (1, .int x1), (2, .int x2), (3, .int x3), (4, .int x4), (5, .int x5), (6, .int x6), (7, .int x7)] _ _ _ (by simp [rdl, rky, Value.category]) ((ih m1 hm1).2.2.2.2.2.2.2.2.2.2.2.2.2.2.2.2.2.2.2.2.2.2.2.2.2.2.2.2.2.2.2.1 x1 x2 x3 x4 x5 x6 x7 _ hz)
          · exact hW _ 147 [(0, .ref 1000), (1, .int x1), (2, .int x2), (3, .int x3), (4, .int x4), (5, .int x5), (6, .int x6), (7, .int x7)] _ _ _ (by simp [rdl, rky, Value.category]) ((ih m1 hm1).2.2.2.2.2.2.2.2.2.2.2.2.1 x1 x2 x3 x4 x5 x6 x7 _ hz)
        · intro x1 x2 x3 x4 x5 x6 x7 Y hz
          refine hB _ _ _ _ _ (fun m1 hm1 => ?_)
          dsimp only [ugo, uwp, ust, uct, rfd, Bassign, Bassign_147, Nat.beq, lv_args, rlk, rs1, rs2, rdl, rky, rcd, rno, rsw, Value.category, List.filter, List.take, List.drop, List.reverse, List.reverseAux, List.cons_append, List.nil_append, Option.toList, Int.toNat, Int.reduceToNat, if_pos, if_neg, reduceIte, ↓reduceIte, Nat.reduceAdd, Nat.reduceEqDiff, Nat.reduceBEq, beq_self_eq_true, Bool.not_true, Bool.not_false, Bool.and_true, Bool.and_false, Bool.true_and, Bool.false_and, gI_sI, gI_sL, gI_sA, gI_sM, gL_sI, gL_sL, gL_sA, gL_sM, aI_sI, aI_sL, aI_sA, aI_sM, aL_sI, aL_sL, aL_sA, aL_sM, oi_0, oi_5]; try dsimp only
          intro p2
          refine ⟨trivial, fun w3 τ3 hq3 => ?_⟩
          obtain ⟨rfl, hz3⟩ := hq3 (show ¬ (5 : Int32) = 0 by decide)
          dsimp only [Option.toList, List.cons_append, List.nil_append, Nat.beq, gI_sI, gI_sL, gI_sA, gI_sM, gL_sI, gL_sL, gL_sA, gL_sM, aI_sI, aI_sL, aI_sA, aI_sM, aL_sI, aL_sL, aL_sA, aL_sM]
          exact hW _ 288 [(0, .ref 1000), (1, .int x1), (2, .int x2), (3, .int x3), (4, .int x4), (5, .int 0), (6, .int x6), (7, .int x7)] _ _ _ (by simp [rdl, rky, Value.category]) ((ih m1 hm1).2.2.2.2.2.2.2.2.2.2.2.2.2.2.2.2.2.2.2.2.2.2.2.2.2.2.2.2.2.2.2.1 x1 x2 x3 x4 0 x6 x7 _ hz3)
        · intro x1 x2 x3 x4 x5 x6 x7 Y hz
          refine hB _ _ _ _ _ (fun m1 hm1 => ?_)
          dsimp only [ugo, uwp, ust, uct, rfd, Bassign, Bassign_164, Nat.beq, lv_args, rlk, rs1, rs2, rdl, rky, rcd, rno, rsw, Value.category, List.filter, List.take, List.drop, List.reverse, List.reverseAux, List.cons_append, List.nil_append, Option.toList, Int.toNat, Int.reduceToNat, if_pos, if_neg, reduceIte, ↓reduceIte, Nat.reduceAdd, Nat.reduceEqDiff, Nat.reduceBEq, beq_self_eq_true, Bool.not_true, Bool.not_false, Bool.and_true, Bool.and_false, Bool.true_and, Bool.false_and, gI_sI, gI_sL, gI_sA, gI_sM, gL_sI, gL_sL, gL_sA, gL_sM, aI_sI, aI_sL, aI_sA, aI_sM, aL_sI, aL_sL, aL_sA, aL_sM, oi_400]; try dsimp only
          refine ⟨fun h2 => ?_, fun h2 => ?_⟩
          · exact hW _ 213 [(0, .ref 1000), (1, .int x1), (2, .int x2), (3, .int x3), (4, .int x4), (5, .int x5), (6, .int x6), (7, .int x7), (8, .int (x7 - 400))] _ _ _ (by simp [rdl, rky, Value.category]) ((ih m1 hm1).2.2.2.2.2.2.2.2.2.2.2.2.2.2.2.2.2.1 x1 x2 x3 x4 x5 x6 x7 (x7 - 400) _ hz)
          · exact hW _ 177 [(0, .ref 1000), (1, .int x1), (2, .int x2), (3, .int x3), (4, .int x4), (5, .int x5), (6, .int x6), (7, .int x7), (8, .int (x7 - 400))] _ _ _ (by simp [rdl, rky, Value.category]) ((ih m1 hm1).2.2.2.2.2.2.2.2.2.2.2.2.2.2.1 x1 x2 x3 x4 x5 x6 x7 (x7 - 400) _ hz)
        · intro x1 x2 x3 x4 x5 x6 x7 x8 Y hz
          refine hB _ _ _ _ _ (fun m1 hm1 => ?_)
          dsimp only [ugo, uwp, ust, uct, rfd, Bassign, Bassign_177, Nat.beq, lv_args, rlk, rs1, rs2, rdl, rky, rcd, rno, rsw, Value.category, List.filter, List.take, List.drop, List.reverse, List.reverseAux, List.cons_append, List.nil_append, Option.toList, Int.toNat, Int.reduceToNat, if_pos, if_neg, reduceIte, ↓reduceIte, Nat.reduceAdd, Nat.reduceEqDiff, Nat.reduceBEq, beq_self_eq_true, Bool.not_true, Bool.not_false, Bool.and_true, Bool.and_false, Bool.true_and, Bool.false_and, gI_sI, gI_sL, gI_sA, gI_sM, gL_sI, gL_sL, gL_sA, gL_sM, aI_sI, aI_sL, aI_sA, aI_sM, aL_sI, aL_sL, aL_sA, aL_sM]; try dsimp only
          refine ⟨trivial, fun w2 τ2 hq2 => ?_⟩
          obtain ⟨rfl, b2, rfl, hb2⟩ := hq2 trivial
          dsimp only [Option.toList, List.cons_append, List.nil_append, Nat.beq, gI_sI, gI_sL, gI_sA, gI_sM, gL_sI, gL_sL, gL_sA, gL_sM, aI_sI, aI_sL, aI_sA, aI_sM, aL_sI, aL_sL, aL_sA, aL_sM]
          refine ⟨fun h3 => ?_, fun h3 => ?_⟩
          · exact hW _ 213 [(0, .ref 1000), (1, .int x1), (2, .int x2), (3, .int x3), (4, .int x4), (5, .int x5), (6, .int x6), (7, .int x7), (8, .int x8)] _ _ _ (by simp [rdl, rky, Value.category]) ((ih m1 hm1).2.2.2.2.2.2.2.2.2.2.2.2.2.2.2.2.2.1 x1 x2 x3 x4 x5 x6 x7 x8 _ hz)
          · exact hW _ 186 [(0, .ref 1000), (1, .int x1), (2, .int x2), (3, .int x3), (4, .int x4), (5, .int x5), (6, .int x6), (7, .int x7), (8, .int x8)] _ _ _ (by simp [rdl, rky, Value.category]) ((ih m1 hm1).2.2.2.2.2.2.2.2.2.2.2.2.2.2.2.1 x1 x2 x3 x4 x5 x6 x7 x8 _ hz)
        · intro x1 x2 x3 x4 x5 x6 x7 x8 Y hz
          refine hB _ _ _ _ _ (fun m1 hm1 => ?_)
          dsimp only [ugo, uwp, ust, uct, rfd, Bassign, Bassign_186, Nat.beq, lv_args, rlk, rs1, rs2, rdl, rky, rcd, rno, rsw, Value.category, List.filter, List.take, List.drop, List.reverse, List.reverseAux, List.cons_append, List.nil_append, Option.toList, Int.toNat, Int.reduceToNat, if_pos, if_neg, reduceIte, ↓reduceIte, Nat.reduceAdd, Nat.reduceEqDiff, Nat.reduceBEq, beq_self_eq_true, Bool.not_true, Bool.not_false, Bool.and_true, Bool.and_false, Bool.true_and, Bool.false_and, gI_sI, gI_sL, gI_sA, gI_sM, gL_sI, gL_sL, gL_sA, gL_sM, aI_sI, aI_sL, aI_sA, aI_sM, aL_sI, aL_sL, aL_sA, aL_sM, oi_0, oi_5]; try dsimp only
          refine ⟨trivial, fun w2 τ2 hq2 => ?_⟩
          obtain ⟨rfl, hz2⟩ := hq2 (show ¬ (5 : Int32) = 0 by decide)
          dsimp only [Option.toList, List.cons_append, List.nil_append, Nat.beq, gI_sI, gI_sL, gI_sA, gI_sM, gL_sI, gL_sL, gL_sA, gL_sM, aI_sI, aI_sL, aI_sA, aI_sM, aL_sI, aL_sL, aL_sA, aL_sM]
          refine ⟨trivial, fun w3 τ3 hq3 => ?_⟩
          obtain ⟨rfl, b3, rfl, hb3⟩ := hq3 trivial
          dsimp only [Option.toList, List.cons_append, List.nil_append, Nat.beq, gI_sI, gI_sL, gI_sA, gI_sM, gL_sI, gL_sL, gL_sA, gL_sM, aI_sI, aI_sL, aI_sA, aI_sM, aL_sI, aL_sL, aL_sA, aL_sM]
          refine ⟨fun h4 => ?_, fun h4 => ?_⟩
          · exact hW _ 234 [(0, .ref 1000), (1, .int x1), (2, .int x2), (3, .int x3), (4, .int x4), (5, .int 0), (6, .int x6), (7, .int x7), (8, .int x8)] _ _ _ (by simp [rdl, rky, Value.category]) ((ih m1 hm1).2.2.2.2.2.2.2.2.2.2.2.2.2.2.2.2.2.2.2.2.2.2.1 x1 x2 x3 x4 0 x6 x7 x8 _ hz2)
          · exact hW _ 203 [(0, .ref 1000), (1, .int x1), (2, .int x2), (3, .int x3), (4, .int x4), (5, .int 0), (6, .int x6), (7, .int x7), (8, .int x8)] _ _ _ (by simp [rdl, rky, Value.category]) ((ih m1 hm1).2.2.2.2.2.2.2.2.2.2.2.2.2.2.2.2.1 x1 x2 x3 x4 0 x6 x7 x8 _ hz2)
        · intro x1 x2 x3 x4 x5 x6 x7 x8 Y hz
          refine hB _ _ _ _ _ (fun m1 hm1 => ?_)
          dsimp only [ugo, uwp, ust, uct, rfd, Bassign, Bassign_203, Nat.beq, lv_args, rlk, rs1, rs2, rdl, rky, rcd, rno, rsw, Value.category, List.filter, List.take, List.drop, List.reverse, List.reverseAux, List.cons_append, List.nil_append, Option.toList, Int.toNat, Int.reduceToNat, if_pos, if_neg, reduceIte, ↓reduceIte, Nat.reduceAdd, Nat.reduceEqDiff, Nat.reduceBEq, beq_self_eq_true, Bool.not_true, Bool.not_false, Bool.and_true, Bool.and_false, Bool.true_and, Bool.false_and, gI_sI, gI_sL, gI_sA, gI_sM, gL_sI, gL_sL, gL_sA, gL_sM, aI_sI, aI_sL, aI_sA, aI_sM, aL_sI, aL_sL, aL_sA, aL_sM, oi_0]; try dsimp only
          refine ⟨trivial, fun w2 τ2 hq2 => ?_⟩
          obtain ⟨hA2, b2, rfl, hb2⟩ := hq2 trivial
          have hz2 := hA2 hz
          dsimp only [Option.toList, List.cons_append, List.nil_append, Nat.beq, gI_sI, gI_sL, gI_sA, gI_sM, gL_sI, gL_sL, gL_sA, gL_sM, aI_sI, aI_sL, aI_sA, aI_sM, aL_sI, aL_sL, aL_sA, aL_sM]
          exact hW _ 234 [(0, .ref 1000), (1, .int x1), (2, .int x2), (3, .int x3), (4, .int x4), (5, .int x5), (6, .int x6), (7, .int x7), (8, .int x8)] _ _ _ (by simp [rdl, rky, Value.category]) ((ih m1 hm1).2.2.2.2.2.2.2.2.2.2.2.2.2.2.2.2.2.2.2.2.2.2.1 x1 x2 x3 x4 x5 x6 x7 x8 _ hz2)
        · intro x1 x2 x3 x4 x5 x6 x7 x8 Y hz
          refine hB _ _ _ _ _ (fun m1 hm1 => ?_)
          dsimp only [ugo, uwp, ust, uct, rfd, Bassign, Bassign_213, Nat.beq, lv_args, rlk, rs1, rs2, rdl, rky, rcd, rno, rsw, Value.category, List.filter, List.take, List.drop, List.reverse, List.reverseAux, List.cons_append, List.nil_append, Option.toList, Int.toNat, Int.reduceToNat, if_pos, if_neg, reduceIte, ↓reduceIte, Nat.reduceAdd, Nat.reduceEqDiff, Nat.reduceBEq, beq_self_eq_true, Bool.not_true, Bool.not_false, Bool.and_true, Bool.and_false, Bool.true_and, Bool.false_and, gI_sI, gI_sL, gI_sA, gI_sM, gL_sI, gL_sL, gL_sA, gL_sM, aI_sI, aI_sL, aI_sA, aI_sM, aL_sI, aL_sL, aL_sA, aL_sM]; try dsimp only
          refine ⟨fun h2 => ?_, fun h2 => ?_⟩
          · exact hW _ 224 [(0, .ref 1000), (1, .int x1), (2, .int x2), (3, .int x3), (4, .int x4), (5, .int x5), (6, .int x6), (7, .int x7), (8, .int x8)] _ _ _ (by simp [rdl, rky, Value.category]) ((ih m1 hm1).2.2.2.2.2.2.2.2.2.2.2.2.2.2.2.2.2.2.2.1 x1 x2 x3 x4 x5 x6 x7 x8 x3 _ hz)
          · exact hW _ 220 [(0, .ref 1000), (1, .int x1), (2, .int x2), (3, .int x3), (4, .int x4), (5, .int x5), (6, .int x6), (7, .int x7), (8, .int x8)] _ _ _ (by simp [rdl, rky, Value.category]) ((ih m1 hm1).2.2.2.2.2.2.2.2.2.2.2.2.2.2.2.2.2.2.1 x1 x2 x3 x4 x5 x6 x7 x8 x3 _ hz)
        · intro x1 x2 x3 x4 x5 x6 x7 x8 s0 Y hz
          refine hB _ _ _ _ _ (fun m1 hm1 => ?_)
          dsimp only [ugo, uwp, ust, uct, rfd, Bassign, Bassign_220, Nat.beq, lv_args, rlk, rs1, rs2, rdl, rky, rcd, rno, rsw, Value.category, List.filter, List.take, List.drop, List.reverse, List.reverseAux, List.cons_append, List.nil_append, Option.toList, Int.toNat, Int.reduceToNat, if_pos, if_neg, reduceIte, ↓reduceIte, Nat.reduceAdd, Nat.reduceEqDiff, Nat.reduceBEq, beq_self_eq_true, Bool.not_true, Bool.not_false, Bool.and_true, Bool.and_false, Bool.true_and, Bool.false_and, gI_sI, gI_sL, gI_sA, gI_sM, gL_sI, gL_sL, gL_sA, gL_sM, aI_sI, aI_sL, aI_sA, aI_sM, aL_sI, aL_sL, aL_sA, aL_sM, oi_0]; try dsimp only
          exact hW _ 225 [(0, .ref 1000), (1, .int x1), (2, .int x2), (3, .int x3), (4, .int x4), (5, .int x5), (6, .int x6), (7, .int x7), (8, .int x8)] _ _ _ (by simp [rdl, rky, Value.category]) ((ih m1 hm1).2.2.2.2.2.2.2.2.2.2.2.2.2.2.2.2.2.2.2.2.1 x1 x2 x3 x4 x5 x6 x7 x8 0 s0 _ hz)
        · intro x1 x2 x3 x4 x5 x6 x7 x8 s0 Y hz
          refine hB _ _ _ _ _ (fun m1 hm1 => ?_)
          dsimp only [ugo, uwp, ust, uct, rfd, Bassign, Bassign_224, Nat.beq, lv_args, rlk, rs1, rs2, rdl, rky, rcd, rno, rsw, Value.category, List.filter, List.take, List.drop, List.reverse, List.reverseAux, List.cons_append, List.nil_append, Option.toList, Int.toNat, Int.reduceToNat, if_pos, if_neg, reduceIte, ↓reduceIte, Nat.reduceAdd, Nat.reduceEqDiff, Nat.reduceBEq, beq_self_eq_true, Bool.not_true, Bool.not_false, Bool.and_true, Bool.and_false, Bool.true_and, Bool.false_and, gI_sI, gI_sL, gI_sA, gI_sM, gL_sI, gL_sL, gL_sA, gL_sM, aI_sI, aI_sL, aI_sA, aI_sM, aL_sI, aL_sL, aL_sA, aL_sM, oi_1]; try dsimp only
          exact hW _ 225 [(0, .ref 1000), (1, .int x1), (2, .int x2), (3, .int x3), (4, .int x4), (5, .int x5), (6, .int x6), (7, .int x7), (8, .int x8)] _ _ _ (by simp [rdl, rky, Value.category]) ((ih m1 hm1).2.2.2.2.2.2.2.2.2.2.2.2.2.2.2.2.2.2.2.2.1 x1 x2 x3 x4 x5 x6 x7 x8 1 s0 _ hz)
        · intro x1 x2 x3 x4 x5 x6 x7 x8 s0 s1 Y hz
          refine hB _ _ _ _ _ (fun m1 hm1 => ?_)
          dsimp only [ugo, uwp, ust, uct, rfd, Bassign, Bassign_225, Nat.beq, lv_args, rlk, rs1, rs2, rdl, rky, rcd, rno, rsw, Value.category, List.filter, List.take, List.drop, List.reverse, List.reverseAux, List.cons_append, List.nil_append, Option.toList, Int.toNat, Int.reduceToNat, if_pos, if_neg, reduceIte, ↓reduceIte, Nat.reduceAdd, Nat.reduceEqDiff, Nat.reduceBEq, beq_self_eq_true, Bool.not_true, Bool.not_false, Bool.and_true, Bool.and_false, Bool.true_and, Bool.false_and, gI_sI, gI_sL, gI_sA, gI_sM, gL_sI, gL_sL, gL_sA, gL_sM, aI_sI, aI_sL, aI_sA, aI_sM, aL_sI, aL_sL, aL_sA, aL_sM]; try dsimp only
          refine ⟨trivial, fun w2 τ2 hq2 => ?_⟩
          obtain ⟨hA2, b2, rfl, hb2⟩ := hq2 trivial
          have hz2 := hA2 hz
          dsimp only [Option.toList, List.cons_append, List.nil_append, Nat.beq, gI_sI, gI_sL, gI_sA, gI_sM, gL_sI, gL_sL, gL_sA, gL_sM, aI_sI, aI_sL, aI_sA, aI_sM, aL_sI, aL_sL, aL_sA, aL_sM]
          refine ⟨fun h3 => ?_, fun h3 => ?_⟩
          · exact hW _ 234 [(0, .ref 1000), (1, .int x1), (2, .int x2), (3, .int x3), (4, .int x4), (5, .int x5), (6, .int x6), (7, .int x7), (8, .int x8)] _ _ _ (by simp [rdl, rky, Value.category]) ((ih m1 hm1).2.2.2.2.2.2.2.2.2.2.2.2.2.2.2.2.2.2.2.2.2.2.1 x1 x2 x3 x4 x5 x6 x7 x8 _ hz2)
          · exact hW _ 231 [(0, .ref 1000), (1, .int x1), (2, .int x2), (3, .int x3), (4, .int x4), (5, .int x5), (6, .int x6), (7, .int x7), (8, .int x8)] _ _ _ (by simp [rdl, rky, Value.category]) ((ih m1 hm1).2.2.2.2.2.2.2.2.2.2.2.2.2.2.2.2.2.2.2.2.2.1 x1 x2 x3 x4 x5 x6 x7 x8 _ hz2)
        · intro x1 x2 x3 x4 x5 x6 x7 x8 Y hz
          refine hB _ _ _ _ _ (fun m1 hm1 => ?_)
          dsimp only [ugo, uwp, ust, uct, rfd, Bassign, Bassign_231, Nat.beq, lv_args, rlk, rs1, rs2, rdl, rky, rcd, rno, rsw, Value.category, List.filter, List.take, List.drop, List.reverse, List.reverseAux, List.cons_append, List.nil_append, Option.toList, Int.toNat, Int.reduceToNat, if_pos, if_neg, reduceIte, ↓reduceIte, Nat.reduceAdd, Nat.reduceEqDiff, Nat.reduceBEq, beq_self_eq_true, Bool.not_true, Bool.not_false, Bool.and_true, Bool.and_false, Bool.true_and, Bool.false_and, gI_sI, gI_sL, gI_sA, gI_sM, gL_sI, gL_sL, gL_sA, gL_sM, aI_sI, aI_sL, aI_sA, aI_sM, aL_sI, aL_sL, aL_sA, aL_sM, oi_0]; try dsimp only
          exact hW _ 234 [(0, .ref 1000), (1, .int x1), (2, .int x2), (3, .int x3), (4, .int x4), (5, .int 0), (6, .int x6), (7, .int x7), (8, .int x8)] _ _ _ (by simp [rdl, rky, Value.category]) ((ih m1 hm1).2.2.2.2.2.2.2.2.2.2.2.2.2.2.2.2.2.2.2.2.2.2.1 x1 x2 x3 x4 0 x6 x7 x8 _ hz)
        · intro x1 x2 x3 x4 x5 x6 x7 x8 Y hz
          refine hB _ _ _ _ _ (fun m1 hm1 => ?_)
          dsimp only [ugo, uwp, ust, uct, rfd, Bassign, Bassign_234, Nat.beq, lv_args, rlk, rs1, rs2, rdl, rky, rcd, rno, rsw, Value.category, List.filter, List.take, List.drop, List.reverse, List.reverseAux, List.cons_append, List.nil_append, Option.toList, Int.toNat, Int.reduceToNat, if_pos, if_neg, reduceIte, ↓reduceIte, Nat.reduceAdd, Nat.reduceEqDiff, Nat.reduceBEq, beq_self_eq_true, Bool.not_true, Bool.not_false, Bool.and_true, Bool.and_false, Bool.true_and, Bool.false_and, gI_sI, gI_sL, gI_sA, gI_sM, gL_sI, gL_sL, gL_sA, gL_sM, aI_sI, aI_sL, aI_sA, aI_sM, aL_sI, aL_sL, aL_sA, aL_sM]; try dsimp only
          refine ⟨fun h2 => ?_, fun h2 => ?_⟩
          · exact hW _ 248 [(0, .ref 1000), (1, .int x1), (2, .int x2), (3, .int x3), (4, .int x4), (5, .int x5), (6, .int x6), (7, .int x7), (8, .int x8)] _ _ _ (by simp [rdl, rky, Value.category]) ((ih m1 hm1).2.2.2.2.2.2.2.2.2.2.2.2.2.2.2.2.2.2.2.2.2.2.2.2.1 x1 x2 x3 x4 x5 x6 x7 x8 x1 _ hz)
          · exact hW _ 244 [(0, .ref 1000), (1, .int x1), (2, .int x2), (3, .int x3), (4, .int x4), (5, .int x5), (6, .int x6), (7, .int x7), (8, .int x8)] _ _ _ (by simp [rdl, rky, Value.category]) ((ih m1 hm1).2.2.2.2.2.2.2.2.2.2.2.2.2.2.2.2.2.2.2.2.2.2.2.1 x1 x2 x3 x4 x5 x6 x7 x8 x1 _ hz)
        · intro x1 x2 x3 x4 x5 x6 x7 x8 s0 Y hz
          refine hB _ _ _ _ _ (fun m1 hm1 => ?_)
          dsimp only [ugo, uwp, ust, uct, rfd, Bassign, Bassign_244, Nat.beq, lv_args, rlk, rs1, rs2, rdl, rky, rcd, rno, rsw, Value.category, List.filter, List.take, List.drop, List.reverse, List.reverseAux, List.cons_append, List.nil_append, Option.toList, Int.toNat, Int.reduceToNat, if_pos, if_neg, reduceIte, ↓reduceIte, Nat.reduceAdd, Nat.reduceEqDiff, Nat.reduceBEq, beq_self_eq_true, Bool.not_true, Bool.not_false, Bool.and_true, Bool.and_false, Bool.true_and, Bool.false_and, gI_sI, gI_sL, gI_sA, gI_sM, gL_sI, gL_sL, gL_sA, gL_sM, aI_sI, aI_sL, aI_sA, aI_sM, aL_sI, aL_sL, aL_sA, aL_sM, oi_0]; try dsimp only
          exact hW _ 287 [(0, .ref 1000), (1, .int x1), (2, .int x2), (3, .int x3), (4, .int x4), (5, .int x5), (6, .int x6), (7, .int x7), (8, .int x8)] _ _ _ (by simp [rdl, rky, Value.category]) ((ih m1 hm1).2.2.2.2.2.2.2.2.2.2.2.2.2.2.2.2.2.2.2.2.2.2.2.2.2.2.2.2.2.2.1 x1 x2 x3 x4 x5 x6 x7 x8 0 s0 _ hz)
        · intro x1 x2 x3 x4 x5 x6 x7 x8 s0 Y hz
          refine hB _ _ _ _ _ (fun m1 hm1 => ?_)
          dsimp only [ugo, uwp, ust, uct, rfd, Bassign, Bassign_248, Nat.beq, lv_args, rlk, rs1, rs2, rdl, rky, rcd, rno, rsw, Value.category, List.filter, List.take, List.drop, List.reverse, List.reverseAux, List.cons_append, List.nil_append, Option.toList, Int.toNat, Int.reduceToNat, if_pos, if_neg, reduceIte, ↓reduceIte, Nat.reduceAdd, Nat.reduceEqDiff, Nat.reduceBEq, beq_self_eq_true, Bool.not_true, Bool.not_false, Bool.and_true, Bool.and_false, Bool.true_and, Bool.false_and, gI_sI, gI_sL, gI_sA, gI_sM, gL_sI, gL_sL, gL_sA, gL_sM, aI_sI, aI_sL, aI_sA, aI_sM, aL_sI, aL_sL, aL_sA, aL_sM]; try dsimp only
          refine ⟨trivial, fun w2 τ2 hq2 => ?_⟩
          obtain ⟨rfl, b2, rfl, hb2⟩ := hq2 trivial
          dsimp only [Option.toList, List.cons_append, List.nil_append, Nat.beq, gI_sI, gI_sL, gI_sA, gI_sM, gL_sI, gL_sL, gL_sA, gL_sM, aI_sI, aI_sL, aI_sA, aI_sM, aL_sI, aL_sL, aL_sA, aL_sM]
          refine ⟨fun h3 => ?_, fun h3 => ?_⟩
          · exact hW _ 266 [(0, .ref 1000), (1, .int x1), (2, .int x2), (3, .int x3), (4, .int x4), (5, .int x5), (6, .int x6), (7, .int x7), (8, .int x8)] _ _ _ (by simp [rdl, rky, Value.category]) ((ih m1 hm1).2.2.2.2.2.2.2.2.2.2.2.2.2.2.2.2.2.2.2.2.2.2.2.2.2.2.1 x1 x2 x3 x4 x5 x6 x7 x8 s0 _ hz)
          · exact hW _ 257 [(0, .ref 1000), (1, .int x1), (2, .int x2), (3, .int x3), (4, .int x4), (5, .int x5), (6, .int x6), (7, .int x7), (8, .int x8)] _ _ _ (by simp [rdl, rky, Value.category]) ((ih m1 hm1).2.2.2.2.2.2.2.2.2.2.2.2.2.2.2.2.2.2.2.2.2.2.2.2.2.1 x1 x2 x3 x4 x5 x6 x7 x8 s0 _ hz)
        · intro x1 x2 x3 x4 x5 x6 x7 x8 s0 Y hz
          refine hB _ _ _ _ _ (fun m1 hm1 => ?_)
          dsimp only [ugo, uwp, ust, uct, rfd, Bassign, Bassign_257, Nat.beq, lv_args, rlk, rs1, rs2, rdl, rky, rcd, rno, rsw, Value.category, List.filter, List.take, List.drop, List.reverse, List.reverseAux, List.cons_append, List.nil_append, Option.toList, Int.toNat, Int.reduceToNat, if_pos, if_neg, reduceIte, ↓reduceIte, Nat.reduceAdd, Nat.reduceEqDiff, Nat.reduceBEq, beq_self_eq_true, Bool.not_true, Bool.not_false, Bool.and_true, Bool.and_false, Bool.true_and, Bool.false_and, gI_sI, gI_sL, gI_sA, gI_sM, gL_sI, gL_sL, gL_sA, gL_sM, aI_sI, aI_sL, aI_sA, aI_sM, aL_sI, aL_sL, aL_sA, aL_sM]; try dsimp only
          refine ⟨trivial, fun w2 τ2 hq2 => ?_⟩
          obtain ⟨rfl, r2, rfl, hr2⟩ := hq2 trivial
          try rw [show (x6).toInt = (x6).toInt from (rfl : (x6).toInt = (x6).toInt)] at hr2
          have hr2 : r2.toInt = pmT ((x6).toInt) := hr2
          dsimp only [Option.toList, List.cons_append, List.nil_append, Nat.beq, gI_sI, gI_sL, gI_sA, gI_sM, gL_sI, gL_sL, gL_sA, gL_sM, aI_sI, aI_sL, aI_sA, aI_sM, aL_sI, aL_sL, aL_sA, aL_sM]
          exact hW _ 287 [(0, .ref 1000), (1, .int x1), (2, .int x2), (3, .int x3), (4, .int x4), (5, .int x5), (6, .int x6), (7, .int x7), (8, .int x8)] _ _ _ (by simp [rdl, rky, Value.category]) ((ih m1 hm1).2.2.2.2.2.2.2.2.2.2.2.2.2.2.2.2.2.2.2.2.2.2.2.2.2.2.2.2.2.2.1 x1 x2 x3 x4 x5 x6 x7 x8 r2 s0 _ hz)
        · intro x1 x2 x3 x4 x5 x6 x7 x8 s0 Y hz
          refine hB _ _ _ _ _ (fun m1 hm1 => ?_)
          dsimp only [ugo, uwp, ust, uct, rfd, Bassign, Bassign_266, Nat.beq, lv_args, rlk, rs1, rs2, rdl, rky, rcd, rno, rsw, Value.category, List.filter, List.take, List.drop, List.reverse, List.reverseAux, List.cons_append, List.nil_append, Option.toList, Int.toNat, Int.reduceToNat, if_pos, if_neg, reduceIte, ↓reduceIte, Nat.reduceAdd, Nat.reduceEqDiff, Nat.reduceBEq, beq_self_eq_true, Bool.not_true, Bool.not_false, Bool.and_true, Bool.and_false, Bool.true_and, Bool.false_and, gI_sI, gI_sL, gI_sA, gI_sM, gL_sI, gL_sL, gL_sA, gL_sM, aI_sI, aI_sL, aI_sA, aI_sM, aL_sI, aL_sL, aL_sA, aL_sM, oi_4]; try dsimp only
          refine ⟨fun h2 => ?_, fun h2 => ?_⟩
          · exact hW _ 282 [(0, .ref 1000), (1, .int x1), (2, .int x2), (3, .int x3), (4, .int x4), (5, .int x5), (6, .int x6), (7, .int x7), (8, .int x8)] _ _ _ (by simp [rdl, rky, Value.category]) ((ih m1 hm1).2.2.2.2.2.2.2.2.2.2.2.2.2.2.2.2.2.2.2.2.2.2.2.2.2.2.2.2.1 x1 x2 x3 x4 x5 x6 x7 x8 s0 _ hz)
          · exact hW _ 272 [(0, .ref 1000), (1, .int x1), (2, .int x2), (3, .int x3), (4, .int x4), (5, .int x5), (6, .int x6), (7, .int x7), (8, .int x8)] _ _ _ (by simp [rdl, rky, Value.category]) ((ih m1 hm1).2.2.2.2.2.2.2.2.2.2.2.2.2.2.2.2.2.2.2.2.2.2.2.2.2.2.2.1 x1 x2 x3 x4 x5 x6 x7 x8 s0 _ hz)
        · intro x1 x2 x3 x4 x5 x6 x7 x8 s0 Y hz
          refine hB _ _ _ _ _ (fun m1 hm1 => ?_)
          dsimp only [ugo, uwp, ust, uct, rfd, Bassign, Bassign_272, Nat.beq, lv_args, rlk, rs1, rs2, rdl, rky, rcd, rno, rsw, Value.category, List.filter, List.take, List.drop, List.reverse, List.reverseAux, List.cons_append, List.nil_append, Option.toList, Int.toNat, Int.reduceToNat, if_pos, if_neg, reduceIte, ↓reduceIte, Nat.reduceAdd, Nat.reduceEqDiff, Nat.reduceBEq, beq_self_eq_true, Bool.not_true, Bool.not_false, Bool.and_true, Bool.and_false, Bool.true_and, Bool.false_and, gI_sI, gI_sL, gI_sA, gI_sM, gL_sI, gL_sL, gL_sA, gL_sM, aI_sI, aI_sL, aI_sA, aI_sM, aL_sI, aL_sL, aL_sA, aL_sM, oi_4]; try dsimp only
          intro p2
          refine ⟨fun h3 => ?_, fun h3 => ?_⟩
          · exact hW _ 286 [(0, .ref 1000), (1, .int x1), (2, .int x2), (3, .int x3), (4, .int x4), (5, .int x5), (6, .int x6), (7, .int x7), (8, .int x8)] _ _ _ (by simp [rdl, rky, Value.category]) ((ih m1 hm1).2.2.2.2.2.2.2.2.2.2.2.2.2.2.2.2.2.2.2.2.2.2.2.2.2.2.2.2.2.1 x1 x2 x3 x4 x5 x6 x7 x8 s0 _ hz)
          · exact hW _ 282 [(0, .ref 1000), (1, .int x1), (2, .int x2), (3, .int x3), (4, .int x4), (5, .int x5), (6, .int x6), (7, .int x7), (8, .int x8)] _ _ _ (by simp [rdl, rky, Value.category]) ((ih m1 hm1).2.2.2.2.2.2.2.2.2.2.2.2.2.2.2.2.2.2.2.2.2.2.2.2.2.2.2.2.1 x1 x2 x3 x4 x5 x6 x7 x8 s0 _ hz)
        · intro x1 x2 x3 x4 x5 x6 x7 x8 s0 Y hz
          refine hB _ _ _ _ _ (fun m1 hm1 => ?_)
          dsimp only [ugo, uwp, ust, uct, rfd, Bassign, Bassign_282, Nat.beq, lv_args, rlk, rs1, rs2, rdl, rky, rcd, rno, rsw, Value.category, List.filter, List.take, List.drop, List.reverse, List.reverseAux, List.cons_append, List.nil_append, Option.toList, Int.toNat, Int.reduceToNat, if_pos, if_neg, reduceIte, ↓reduceIte, Nat.reduceAdd, Nat.reduceEqDiff, Nat.reduceBEq, beq_self_eq_true, Bool.not_true, Bool.not_false, Bool.and_true, Bool.and_false, Bool.true_and, Bool.false_and, gI_sI, gI_sL, gI_sA, gI_sM, gL_sI, gL_sL, gL_sA, gL_sM, aI_sI, aI_sL, aI_sA, aI_sM, aL_sI, aL_sL, aL_sA, aL_sM, oi_4]; try dsimp only
          exact hW _ 287 [(0, .ref 1000), (1, .int x1), (2, .int x2), (3, .int x3), (4, .int x4), (5, .int x5), (6, .int x6), (7, .int x7), (8, .int x8)] _ _ _ (by simp [rdl, rky, Value.category]) ((ih m1 hm1).2.2.2.2.2.2.2.2.2.2.2.2.2.2.2.2.2.2.2.2.2.2.2.2.2.2.2.2.2.2.1 x1 x2 x3 x4 x5 x6 x7 x8 4 s0 _ hz)
        · intro x1 x2 x3 x4 x5 x6 x7 x8 s0 Y hz
          refine hB _ _ _ _ _ (fun m1 hm1 => ?_)
          dsimp only [ugo, uwp, ust, uct, rfd, Bassign, Bassign_286, Nat.beq, lv_args, rlk, rs1, rs2, rdl, rky, rcd, rno, rsw, Value.category, List.filter, List.take, List.drop, List.reverse, List.reverseAux, List.cons_append, List.nil_append, Option.toList, Int.toNat, Int.reduceToNat, if_pos, if_neg, reduceIte, ↓reduceIte, Nat.reduceAdd, Nat.reduceEqDiff, Nat.reduceBEq, beq_self_eq_true, Bool.not_true, Bool.not_false, Bool.and_true, Bool.and_false, Bool.true_and, Bool.false_and, gI_sI, gI_sL, gI_sA, gI_sM, gL_sI, gL_sL, gL_sA, gL_sM, aI_sI, aI_sL, aI_sA, aI_sM, aL_sI, aL_sL, aL_sA, aL_sM, oi_3]; try dsimp only
          exact hW _ 287 [(0, .ref 1000), (1, .int x1), (2, .int x2), (3, .int x3), (4, .int x4), (5, .int x5), (6, .int x6), (7, .int x7), (8, .int x8)] _ _ _ (by simp [rdl, rky, Value.category]) ((ih m1 hm1).2.2.2.2.2.2.2.2.2.2.2.2.2.2.2.2.2.2.2.2.2.2.2.2.2.2.2.2.2.2.1 x1 x2 x3 x4 x5 x6 x7 x8 3 s0 _ hz)
        · intro x1 x2 x3 x4 x5 x6 x7 x8 s0 s1 Y hz
          refine hB _ _ _ _ _ (fun m1 hm1 => ?_)
          dsimp only [ugo, uwp, ust, uct, rfd, Bassign, Bassign_287, Nat.beq, lv_args, rlk, rs1, rs2, rdl, rky, rcd, rno, rsw, Value.category, List.filter, List.take, List.drop, List.reverse, List.reverseAux, List.cons_append, List.nil_append, Option.toList, Int.toNat, Int.reduceToNat, if_pos, if_neg, reduceIte, ↓reduceIte, Nat.reduceAdd, Nat.reduceEqDiff, Nat.reduceBEq, beq_self_eq_true, Bool.not_true, Bool.not_false, Bool.and_true, Bool.and_false, Bool.true_and, Bool.false_and, gI_sI, gI_sL, gI_sA, gI_sM, gL_sI, gL_sL, gL_sA, gL_sM, aI_sI, aI_sL, aI_sA, aI_sM, aL_sI, aL_sL, aL_sA, aL_sM]; try dsimp only
          intro p2
          exact hW _ 288 [(0, .ref 1000), (1, .int x1), (2, .int x2), (3, .int x3), (4, .int x4), (5, .int x5), (6, .int x6), (7, .int x7)] _ _ _ (by simp [rdl, rky, Value.category]) ((ih m1 hm1).2.2.2.2.2.2.2.2.2.2.2.2.2.2.2.2.2.2.2.2.2.2.2.2.2.2.2.2.2.2.2.1 x1 x2 x3 x4 x5 x6 x7 _ hz)
        · intro x1 x2 x3 x4 x5 x6 x7 Y hz
          refine hB _ _ _ _ _ (fun m1 hm1 => ?_)
          dsimp only [ugo, uwp, ust, uct, rfd, Bassign, Bassign_288, Nat.beq, lv_args, rlk, rs1, rs2, rdl, rky, rcd, rno, rsw, Value.category, List.filter, List.take, List.drop, List.reverse, List.reverseAux, List.cons_append, List.nil_append, Option.toList, Int.toNat, Int.reduceToNat, if_pos, if_neg, reduceIte, ↓reduceIte, Nat.reduceAdd, Nat.reduceEqDiff, Nat.reduceBEq, beq_self_eq_true, Bool.not_true, Bool.not_false, Bool.and_true, Bool.and_false, Bool.true_and, Bool.false_and, gI_sI, gI_sL, gI_sA, gI_sM, gL_sI, gL_sL, gL_sA, gL_sM, aI_sI, aI_sL, aI_sA, aI_sM, aL_sI, aL_sL, aL_sA, aL_sM]; try dsimp only
          refine ⟨fun h2 => ?_, fun h2 => ?_⟩
          · exact hW _ 313 [(0, .ref 1000), (1, .int x1), (2, .int x2), (3, .int x3), (4, .int x4), (5, .int x5), (6, .int x6), (7, .int x7)] _ _ _ (by simp [rdl, rky, Value.category]) ((ih m1 hm1).2.2.2.2.2.2.2.2.2.2.2.2.2.2.2.2.2.2.2.2.2.2.2.2.2.2.2.2.2.2.2.2.2.2.1 x1 x2 x3 x4 x5 x6 x7 _ hz)
          · exact hW _ 293 [(0, .ref 1000), (1, .int x1), (2, .int x2), (3, .int x3), (4, .int x4), (5, .int x5), (6, .int x6), (7, .int x7)] _ _ _ (by simp [rdl, rky, Value.category]) ((ih m1 hm1).2.2.2.2.2.2.2.2.2.2.2.2.2.2.2.2.2.2.2.2.2.2.2.2.2.2.2.2.2.2.2.2.1 x1 x2 x3 x4 x5 x6 x7 _ hz)
        · intro x1 x2 x3 x4 x5 x6 x7 Y hz
          refine hB _ _ _ _ _ (fun m1 hm1 => ?_)
          dsimp only [ugo, uwp, ust, uct, rfd, Bassign, Bassign_293, Nat.beq, lv_args, rlk, rs1, rs2, rdl, rky, rcd, rno, rsw, Value.category, List.filter, List.take, List.drop, List.reverse, List.reverseAux, List.cons_append, List.nil_append, Option.toList, Int.toNat, Int.reduceToNat, if_pos, if_neg, reduceIte, ↓reduceIte, Nat.reduceAdd, Nat.reduceEqDiff, Nat.reduceBEq, beq_self_eq_true, Bool.not_true, Bool.not_false, Bool.and_true, Bool.and_false, Bool.true_and, Bool.false_and, gI_sI, gI_sL, gI_sA, gI_sM, gL_sI, gL_sL, gL_sA, gL_sM, aI_sI, aI_sL, aI_sA, aI_sM, aL_sI, aL_sL, aL_sA, aL_sM]; try dsimp only
          refine ⟨trivial, fun w2 τ2 hq2 => ?_⟩
          obtain ⟨rfl, b2, rfl, hb2⟩ := hq2 trivial
          dsimp only [Option.toList, List.cons_append, List.nil_append, Nat.beq, gI_sI, gI_sL, gI_sA, gI_sM, gL_sI, gL_sL, gL_sA, gL_sM, aI_sI, aI_sL, aI_sA, aI_sM, aL_sI, aL_sL, aL_sA, aL_sM]
          refine ⟨fun h3 => ?_, fun h3 => ?_⟩
          · exact hW _ 313 [(0, .ref 1000), (1, .int x1), (2, .int x2), (3, .int x3), (4, .int x4), (5, .int x5), (6, .int x6), (7, .int x7)] _ _ _ (by simp [rdl, rky, Value.category]) ((ih m1 hm1).2.2.2.2.2.2.2.2.2.2.2.2.2.2.2.2.2.2.2.2.2.2.2.2.2.2.2.2.2.2.2.2.2.2.1 x1 x2 x3 x4 x5 x6 x7 _ hz)
          · exact hW _ 301 [(0, .ref 1000), (1, .int x1), (2, .int x2), (3, .int x3), (4, .int x4), (5, .int x5), (6, .int x6), (7, .int x7)] _ _ _ (by simp [rdl, rky, Value.category]) ((ih m1 hm1).2.2.2.2.2.2.2.2.2.2.2.2.2.2.2.2.2.2.2.2.2.2.2.2.2.2.2.2.2.2.2.2.2.1 x1 x2 x3 x4 x5 x6 x7 _ hz)
        · intro x1 x2 x3 x4 x5 x6 x7 Y hz
          refine hB _ _ _ _ _ (fun m1 hm1 => ?_)
          dsimp only [ugo, uwp, ust, uct, rfd, Bassign, Bassign_301, Nat.beq, lv_args, rlk, rs1, rs2, rdl, rky, rcd, rno, rsw, Value.category, List.filter, List.take, List.drop, List.reverse, List.reverseAux, List.cons_append, List.nil_append, Option.toList, Int.toNat, Int.reduceToNat, if_pos, if_neg, reduceIte, ↓reduceIte, Nat.reduceAdd, Nat.reduceEqDiff, Nat.reduceBEq, beq_self_eq_true, Bool.not_true, Bool.not_false, Bool.and_true, Bool.and_false, Bool.true_and, Bool.false_and, gI_sI, gI_sL, gI_sA, gI_sM, gL_sI, gL_sL, gL_sA, gL_sM, aI_sI, aI_sL, aI_sA, aI_sM, aL_sI, aL_sL, aL_sA, aL_sM, oi_0]; try dsimp only
          refine ⟨trivial, fun w2 τ2 hq2 => ?_⟩
          obtain ⟨rfl, rfl⟩ := hq2 trivial
          dsimp only [Option.toList, List.cons_append, List.nil_append, Nat.beq, gI_sI, gI_sL, gI_sA, gI_sM, gL_sI, gL_sL, gL_sA, gL_sM, aI_sI, aI_sL, aI_sA, aI_sM, aL_sI, aL_sL, aL_sA, aL_sM]
          exact hW _ 318 [(0, .ref 1000), (1, .int x1), (2, .int x2), (3, .int x3), (4, .int x4), (5, .int x5), (6, .int x6), (7, .int x7)] _ _ _ (by simp [rdl, rky, Value.category]) ((ih m1 hm1).2.2.2.2.2.2.2.2.2.2.2.2.2.2.2.2.2.2.2.2.2.2.2.2.2.2.2.2.2.2.2.2.2.2.2 x1 x2 x3 x4 x5 x6 x7 _ hz)
        · intro x1 x2 x3 x4 x5 x6 x7 Y hz
          refine hB _ _ _ _ _ (fun m1 hm1 => ?_)
          dsimp only [ugo, uwp, ust, uct, rfd, Bassign, Bassign_313, Nat.beq, lv_args, rlk, rs1, rs2, rdl, rky, rcd, rno, rsw, Value.category, List.filter, List.take, List.drop, List.reverse, List.reverseAux, List.cons_append, List.nil_append, Option.toList, Int.toNat, Int.reduceToNat, if_pos, if_neg, reduceIte, ↓reduceIte, Nat.reduceAdd, Nat.reduceEqDiff, Nat.reduceBEq, beq_self_eq_true, Bool.not_true, Bool.not_false, Bool.and_true, Bool.and_false, Bool.true_and, Bool.false_and, gI_sI, gI_sL, gI_sA, gI_sM, gL_sI, gL_sL, gL_sA, gL_sM, aI_sI, aI_sL, aI_sA, aI_sM, aL_sI, aL_sL, aL_sA, aL_sM]; try dsimp only
          refine ⟨trivial, fun w2 τ2 hq2 => ?_⟩
          obtain ⟨rfl, rfl⟩ := hq2 trivial
          dsimp only [Option.toList, List.cons_append, List.nil_append, Nat.beq, gI_sI, gI_sL, gI_sA, gI_sM, gL_sI, gL_sL, gL_sA, gL_sM, aI_sI, aI_sL, aI_sA, aI_sM, aL_sI, aL_sL, aL_sA, aL_sM]
          exact hW _ 318 [(0, .ref 1000), (1, .int x1), (2, .int x2), (3, .int x3), (4, .int x4), (5, .int x5), (6, .int x6), (7, .int x7)] _ _ _ (by simp [rdl, rky, Value.category]) ((ih m1 hm1).2.2.2.2.2.2.2.2.2.2.2.2.2.2.2.2.2.2.2.2.2.2.2.2.2.2.2.2.2.2.2.2.2.2.2 x1 x2 x3 x4 x5 x6 x7 _ hz)
        · intro x1 x2 x3 x4 x5 x6 x7 Y hz
          refine hB _ _ _ _ _ (fun m1 hm1 => ?_)
          dsimp only [ugo, uwp, ust, uct, rfd, Bassign, Bassign_318, Nat.beq, lv_args, rlk, rs1, rs2, rdl, rky, rcd, rno, rsw, Value.category, List.filter, List.take, List.drop, List.reverse, List.reverseAux, List.cons_append, List.nil_append, Option.toList, Int.toNat, Int.reduceToNat, if_pos, if_neg, reduceIte, ↓reduceIte, Nat.reduceAdd, Nat.reduceEqDiff, Nat.reduceBEq, beq_self_eq_true, Bool.not_true, Bool.not_false, Bool.and_true, Bool.and_false, Bool.true_and, Bool.false_and, gI_sI, gI_sL, gI_sA, gI_sM, gL_sI, gL_sL, gL_sA, gL_sM, aI_sI, aI_sL, aI_sA, aI_sM, aL_sI, aL_sL, aL_sA, aL_sM]; try dsimp only
          unfold Qv_assignB
          try dsimp only
          exact ⟨rfl, Or.inl ⟨hnn, hz⟩⟩
    intro n0
    refine hB _ _ _ _ _ (fun m1 hm1 => ?_)
    dsimp only [ugo, uwp, ust, uct, rfd, Bassign, Bassign_0, Nat.beq, lv_args, rlk, rs1, rs2, rdl, rky, rcd, rno, rsw, Value.category, List.filter, List.take, List.drop, List.reverse, List.reverseAux, List.cons_append, List.nil_append, Option.toList, Int.toNat, Int.reduceToNat, if_pos, if_neg, reduceIte, ↓reduceIte, Nat.reduceAdd, Nat.reduceEqDiff, Nat.reduceBEq, beq_self_eq_true, Bool.not_true, Bool.not_false, Bool.and_true, Bool.and_false, Bool.true_and, Bool.false_and, gI_sI, gI_sL, gI_sA, gI_sM, gL_sI, gL_sL, gL_sA, gL_sM, aI_sI, aI_sL, aI_sA, aI_sM, aL_sI, aL_sL, aL_sA, aL_sM, oi_1]; try dsimp only
    refine ⟨trivial, fun w2 τ2 hq2 => ?_⟩
    obtain ⟨rfl, r2, rfl, hr2⟩ := hq2 trivial
    have hfd2 := hl _ (hr2 h42)
    dsimp only [Option.toList, List.cons_append, List.nil_append, Nat.beq, gI_sI, gI_sL, gI_sA, gI_sM, gL_sI, gL_sL, gL_sA, gL_sM, aI_sI, aI_sL, aI_sA, aI_sM, aL_sI, aL_sL, aL_sA, aL_sM]
    intro p3
    refine ⟨fun h4 => ?_, fun h4 => ?_⟩
    · have c4 : 0 ≤ (r2).toInt := (cI (rfl : (r2).toInt = (r2).toInt) (rfl : (0 : Int32).toInt = 0)).2.2.2.2.mp h4
      refine hB _ _ _ _ _ (fun m5 hm5 => ?_)
      dsimp only [ugo, uwp, ust, uct, rfd, Bassign, Bassign_68, Nat.beq, lv_args, rlk, rs1, rs2, rdl, rky, rcd, rno, rsw, Value.category, List.filter, List.take, List.drop, List.reverse, List.reverseAux, List.cons_append, List.nil_append, Option.toList, Int.toNat, Int.reduceToNat, if_pos, if_neg, reduceIte, ↓reduceIte, Nat.reduceAdd, Nat.reduceEqDiff, Nat.reduceBEq, beq_self_eq_true, Bool.not_true, Bool.not_false, Bool.and_true, Bool.and_false, Bool.true_and, Bool.false_and, gI_sI, gI_sL, gI_sA, gI_sM, gL_sI, gL_sL, gL_sA, gL_sM, aI_sI, aI_sL, aI_sA, aI_sM, aL_sI, aL_sL, aL_sA, aL_sM]; try dsimp only
      have hre : r2.toInt = x.2.1.2.1 := by omega
      have hkn : knT C x.2.1.2.1 := hK (by omega)
      obtain ⟨v1, v2, v3, v4⟩ := hV hkn
      rw [show x.2.1.2.1.toNat = r2.toNatClampNeg by show _ = r2.toInt.toNat; rw [hre]] at v1 v2
      intro p6
      intro p7
      refine ⟨fun h8 => ?_, fun h8 => ?_⟩
      · have c8 : (¬ (vtT C x.2.1.2.1).2 = 0) := (v2).mp h8
        refine hB _ _ _ _ _ (fun m9 hm9 => ?_)
        dsimp only [ugo, uwp, ust, uct, rfd, Bassign, Bassign_90, Nat.beq, lv_args, rlk, rs1, rs2, rdl, rky, rcd, rno, rsw, Value.category, List.filter, List.take, List.drop, List.reverse, List.reverseAux, List.cons_append, List.nil_append, Option.toList, Int.toNat, Int.reduceToNat, if_pos, if_neg, reduceIte, ↓reduceIte, Nat.reduceAdd, Nat.reduceEqDiff, Nat.reduceBEq, beq_self_eq_true, Bool.not_true, Bool.not_false, Bool.and_true, Bool.and_false, Bool.true_and, Bool.false_and, gI_sI, gI_sL, gI_sA, gI_sM, gL_sI, gL_sL, gL_sA, gL_sM, aI_sI, aI_sL, aI_sA, aI_sM, aL_sI, aL_sL, aL_sA, aL_sM, oi_0]; try dsimp only
        refine hB _ _ _ _ _ (fun m10 hm10 => ?_)
        dsimp only [ugo, uwp, ust, uct, rfd, Bassign, Bassign_91, Nat.beq, lv_args, rlk, rs1, rs2, rdl, rky, rcd, rno, rsw, Value.category, List.filter, List.take, List.drop, List.reverse, List.reverseAux, List.cons_append, List.nil_append, Option.toList, Int.toNat, Int.reduceToNat, if_pos, if_neg, reduceIte, ↓reduceIte, Nat.reduceAdd, Nat.reduceEqDiff, Nat.reduceBEq, beq_self_eq_true, Bool.not_true, Bool.not_false, Bool.and_true, Bool.and_false, Bool.true_and, Bool.false_and, gI_sI, gI_sL, gI_sA, gI_sM, gL_sI, gL_sL, gL_sA, gL_sM, aI_sI, aI_sL, aI_sA, aI_sM, aL_sI, aL_sL, aL_sA, aL_sM]; try dsimp only
        refine ⟨fun h11 => absurd h11 (by decide), fun h11 => ?_⟩
        clear h11
        refine hB _ _ _ _ _ (fun m12 hm12 => ?_)
        dsimp only [ugo, uwp, ust, uct, rfd, Bassign, Bassign_98, Nat.beq, lv_args, rlk, rs1, rs2, rdl, rky, rcd, rno, rsw, Value.category, List.filter, List.take, List.drop, List.reverse, List.reverseAux, List.cons_append, List.nil_append, Option.toList, Int.toNat, Int.reduceToNat, if_pos, if_neg, reduceIte, ↓reduceIte, Nat.reduceAdd, Nat.reduceEqDiff, Nat.reduceBEq, beq_self_eq_true, Bool.not_true, Bool.not_false, Bool.and_true, Bool.and_false, Bool.true_and, Bool.false_and, gI_sI, gI_sL, gI_sA, gI_sM, gL_sI, gL_sL, gL_sA, gL_sM, aI_sI, aI_sL, aI_sA, aI_sM, aL_sI, aL_sL, aL_sA, aL_sM, oi_7]; try dsimp only
        refine ⟨trivial, fun w13 τ13 hq13 => ?_⟩
        obtain ⟨rfl, hz13⟩ := hq13 (show ¬ (7 : Int32) = 0 by decide)
        dsimp only [Option.toList, List.cons_append, List.nil_append, Nat.beq, gI_sI, gI_sL, gI_sA, gI_sM, gL_sI, gL_sL, gL_sA, gL_sM, aI_sI, aI_sL, aI_sA, aI_sM, aL_sI, aL_sL, aL_sA, aL_sM]
        exact hW _ 105 [(0, .ref 1000), (1, .int c), (2, .int t), (3, .int ((gI σ 69) - 1)), (4, .int r2), (5, .int 0)] _ _ _ (by simp [rdl, rky, Value.category]) ((bad (by unfold x9T; refine if_neg (fun q => ?_); obtain ⟨⟨q1, q2⟩, q3⟩ := q; first | omega | (rcases q3 with ⟨q4, q5⟩ | ⟨q4, q5, q6⟩; (first | omega | contradiction); (first | omega | contradiction))) _).2.2.2.2.2.2.2.2.2.1 c t ((gI σ 69) - 1) r2 0 _ hz13)
      · have c8 : ¬ ((¬ (vtT C x.2.1.2.1).2 = 0)) := fun q => (v2).mpr q h8
        refine hB _ _ _ _ _ (fun m14 hm14 => ?_)
        dsimp only [ugo, uwp, ust, uct, rfd, Bassign, Bassign_86, Nat.beq, lv_args, rlk, rs1, rs2, rdl, rky, rcd, rno, rsw, Value.category, List.filter, List.take, List.drop, List.reverse, List.reverseAux, List.cons_append, List.nil_append, Option.toList, Int.toNat, Int.reduceToNat, if_pos, if_neg, reduceIte, ↓reduceIte, Nat.reduceAdd, Nat.reduceEqDiff, Nat.reduceBEq, beq_self_eq_true, Bool.not_true, Bool.not_false, Bool.and_true, Bool.and_false, Bool.true_and, Bool.false_and, gI_sI, gI_sL, gI_sA, gI_sM, gL_sI, gL_sL, gL_sA, gL_sM, aI_sI, aI_sL, aI_sA, aI_sM, aL_sI, aL_sL, aL_sA, aL_sM, oi_1]; try dsimp only
        refine hB _ _ _ _ _ (fun m15 hm15 => ?_)
        dsimp only [ugo, uwp, ust, uct, rfd, Bassign, Bassign_91, Nat.beq, lv_args, rlk, rs1, rs2, rdl, rky, rcd, rno, rsw, Value.category, List.filter, List.take, List.drop, List.reverse, List.reverseAux, List.cons_append, List.nil_append, Option.toList, Int.toNat, Int.reduceToNat, if_pos, if_neg, reduceIte, ↓reduceIte, Nat.reduceAdd, Nat.reduceEqDiff, Nat.reduceBEq, beq_self_eq_true, Bool.not_true, Bool.not_false, Bool.and_true, Bool.and_false, Bool.true_and, Bool.false_and, gI_sI, gI_sL, gI_sA, gI_sM, gL_sI, gL_sL, gL_sA, gL_sM, aI_sI, aI_sL, aI_sA, aI_sM, aL_sI, aL_sL, aL_sA, aL_sM]; try dsimp only
        refine ⟨fun h16 => ?_, fun h16 => absurd h16 (by decide)⟩
        clear h16
        refine hB _ _ _ _ _ (fun m17 hm17 => ?_)
        dsimp only [ugo, uwp, ust, uct, rfd, Bassign, Bassign_105, Nat.beq, lv_args, rlk, rs1, rs2, rdl, rky, rcd, rno, rsw, Value.category, List.filter, List.take, List.drop, List.reverse, List.reverseAux, List.cons_append, List.nil_append, Option.toList, Int.toNat, Int.reduceToNat, if_pos, if_neg, reduceIte, ↓reduceIte, Nat.reduceAdd, Nat.reduceEqDiff, Nat.reduceBEq, beq_self_eq_true, Bool.not_true, Bool.not_false, Bool.and_true, Bool.and_false, Bool.true_and, Bool.false_and, gI_sI, gI_sL, gI_sA, gI_sM, gL_sI, gL_sL, gL_sA, gL_sM, aI_sI, aI_sL, aI_sA, aI_sM, aL_sI, aL_sL, aL_sA, aL_sM, oi_61]; try dsimp only
        intro p18
        intro p19
        refine ⟨fun h20 => ?_, fun h20 => ?_⟩
        · have c20 : ¬ (aI σ 20 c.toNatClampNeg).toInt = 61 := fun q => h20 ((cI (rfl : (aI σ 20 c.toNatClampNeg).toInt = (aI σ 20 c.toNatClampNeg).toInt) (rfl : (61 : Int32).toInt = 61)).1.mpr q)
          refine hB _ _ _ _ _ (fun m21 hm21 => ?_)
          dsimp only [ugo, uwp, ust, uct, rfd, Bassign, Bassign_164, Nat.beq, lv_args, rlk, rs1, rs2, rdl, rky, rcd, rno, rsw, Value.category, List.filter, List.take, List.drop, List.reverse, List.reverseAux, List.cons_append, List.nil_append, Option.toList, Int.toNat, Int.reduceToNat, if_pos, if_neg, reduceIte, ↓reduceIte, Nat.reduceAdd, Nat.reduceEqDiff, Nat.reduceBEq, beq_self_eq_true, Bool.not_true, Bool.not_false, Bool.and_true, Bool.and_false, Bool.true_and, Bool.false_and, gI_sI, gI_sL, gI_sA, gI_sM, gL_sI, gL_sL, gL_sA, gL_sM, aI_sI, aI_sL, aI_sA, aI_sM, aL_sI, aL_sL, aL_sA, aL_sM, oi_400]; try dsimp only
          obtain ⟨hs8, hm0, hs4⟩ : ¬ x.1.2.1 = 8 ∧ ((aI σ 20 c.toNatClampNeg).toInt - 400, x.1.2.1) ∈ sgT ∧ 22 ≤ x.1.2.1 ∧ x.1.2.1 ≤ 38 ∧ (x.1.2.1 ≤ 24 ∨ 31 ≤ x.1.2.1) := by
            rcases hop with q | q
            · omega
            · exact q
          have hm4 : ((aI σ 20 c.toNatClampNeg - 400).toInt, x.1.2.1) ∈ sgT := by
            have q4 := sgT_p _ hm0
            dsimp only at q4
            rw [i32_s (x := (aI σ 20 c.toNatClampNeg).toInt) (k := 400) (y := 400) rfl rfl (by omega) (by have := (aI σ 20 c.toNatClampNeg).toInt_lt; omega)]
            exact hm0
          have t213 : ∀ (M_ : Nat), ltT x.1.2.1 (vtT C x.2.1.2.1).1 → K M_ 213 [(0, .ref 1000), (1, .int c), (2, .int t), (3, .int ((gI σ 69) - 1)), (4, .int r2), (5, .int 1), (6, .int ((aI σ 44) (r2).toNatClampNeg)), (7, .int ((aI σ 20) (c).toNatClampNeg)), (8, .int (((aI σ 20) (c).toNatClampNeg) - 400))] [] (sA (sA (sI σ 69 ((gI σ 69) - 1)) 83 (upd (aI σ 83) (c).toNatClampNeg r2)) 80 (upd (aI σ 80) (t).toNatClampNeg r2)) := by
            intro M_ hlt
            refine hB _ _ _ _ _ (fun m22 hm22 => ?_)
            dsimp only [ugo, uwp, ust, uct, rfd, Bassign, Bassign_213, Nat.beq, lv_args, rlk, rs1, rs2, rdl, rky, rcd, rno, rsw, Value.category, List.filter, List.take, List.drop, List.reverse, List.reverseAux, List.cons_append, List.nil_append, Option.toList, Int.toNat, Int.reduceToNat, if_pos, if_neg, reduceIte, ↓reduceIte, Nat.reduceAdd, Nat.reduceEqDiff, Nat.reduceBEq, beq_self_eq_true, Bool.not_true, Bool.not_false, Bool.and_true, Bool.and_false, Bool.true_and, Bool.false_and, gI_sI, gI_sL, gI_sA, gI_sM, gL_sI, gL_sL, gL_sA, gL_sM, aI_sI, aI_sL, aI_sA, aI_sM, aL_sI, aL_sL, aL_sA, aL_sM]; try dsimp only
            have t234 : ∀ (M_ : Nat), rtT (vtT C x.2.1.2.1).1 b.1 → K M_ 234 [(0, .ref 1000), (1, .int c), (2, .int t), (3, .int ((gI σ 69) - 1)), (4, .int r2), (5, .int 1), (6, .int ((aI σ 44) (r2).toNatClampNeg)), (7, .int ((aI σ 20) (c).toNatClampNeg)), (8, .int (((aI σ 20) (c).toNatClampNeg) - 400))] [] (sA (sA (sI σ 69 ((gI σ 69) - 1)) 83 (upd (aI σ 83) (c).toNatClampNeg r2)) 80 (upd (aI σ 80) (t).toNatClampNeg r2)) := by
              intro M_ hrt
              refine hB _ _ _ _ _ (fun m23 hm23 => ?_)
              dsimp only [ugo, uwp, ust, uct, rfd, Bassign, Bassign_234, Nat.beq, lv_args, rlk, rs1, rs2, rdl, rky, rcd, rno, rsw, Value.category, List.filter, List.take, List.drop, List.reverse, List.reverseAux, List.cons_append, List.nil_append, Option.toList, Int.toNat, Int.reduceToNat, if_pos, if_neg, reduceIte, ↓reduceIte, Nat.reduceAdd, Nat.reduceEqDiff, Nat.reduceBEq, beq_self_eq_true, Bool.not_true, Bool.not_false, Bool.and_true, Bool.and_false, Bool.true_and, Bool.false_and, gI_sI, gI_sL, gI_sA, gI_sM, gL_sI, gL_sL, gL_sA, gL_sM, aI_sI, aI_sL, aI_sA, aI_sM, aL_sI, aL_sL, aL_sA, aL_sM]; try dsimp only
              have t287 : ∀ (M_ : Nat) (wk : Int32), wk.toInt = wrT x.1.2.1 (vtT C x.2.1.2.1).1 b.1 → K M_ 287 [(0, .ref 1000), (1, .int c), (2, .int t), (3, .int ((gI σ 69) - 1)), (4, .int r2), (5, .int 1), (6, .int ((aI σ 44) (r2).toNatClampNeg)), (7, .int ((aI σ 20) (c).toNatClampNeg)), (8, .int (((aI σ 20) (c).toNatClampNeg) - 400))] [.int wk, .int c, .ref 82] (sA (sA (sI σ 69 ((gI σ 69) - 1)) 83 (upd (aI σ 83) (c).toNatClampNeg r2)) 80 (upd (aI σ 80) (t).toNatClampNeg r2)) := by
                intro M_ wk hwk
                refine hB _ _ _ _ _ (fun m24 hm24 => ?_)
                dsimp only [ugo, uwp, ust, uct, rfd, Bassign, Bassign_287, Nat.beq, lv_args, rlk, rs1, rs2, rdl, rky, rcd, rno, rsw, Value.category, List.filter, List.take, List.drop, List.reverse, List.reverseAux, List.cons_append, List.nil_append, Option.toList, Int.toNat, Int.reduceToNat, if_pos, if_neg, reduceIte, ↓reduceIte, Nat.reduceAdd, Nat.reduceEqDiff, Nat.reduceBEq, beq_self_eq_true, Bool.not_true, Bool.not_false, Bool.and_true, Bool.and_false, Bool.true_and, Bool.false_and, gI_sI, gI_sL, gI_sA, gI_sM, gL_sI, gL_sL, gL_sA, gL_sM, aI_sI, aI_sL, aI_sA, aI_sM, aL_sI, aL_sL, aL_sA, aL_sM]; try dsimp only
                intro p25
                refine hB _ _ _ _ _ (fun m26 hm26 => ?_)
                dsimp only [ugo, uwp, ust, uct, rfd, Bassign, Bassign_288, Nat.beq, lv_args, rlk, rs1, rs2, rdl, rky, rcd, rno, rsw, Value.category, List.filter, List.take, List.drop, List.reverse, List.reverseAux, List.cons_append, List.nil_append, Option.toList, Int.toNat, Int.reduceToNat, if_pos, if_neg, reduceIte, ↓reduceIte, Nat.reduceAdd, Nat.reduceEqDiff, Nat.reduceBEq, beq_self_eq_true, Bool.not_true, Bool.not_false, Bool.and_true, Bool.and_false, Bool.true_and, Bool.false_and, gI_sI, gI_sL, gI_sA, gI_sM, gL_sI, gL_sL, gL_sA, gL_sM, aI_sI, aI_sL, aI_sA, aI_sM, aL_sI, aL_sL, aL_sA, aL_sM]; try dsimp only
                refine ⟨fun h27 => absurd h27 (by decide), fun h27 => ?_⟩
                clear h27
                refine hB _ _ _ _ _ (fun m28 hm28 => ?_)
                dsimp only [ugo, uwp, ust, uct, rfd, Bassign, Bassign_293, Nat.beq, lv_args, rlk, rs1, rs2, rdl, rky, rcd, rno, rsw, Value.category, List.filter, List.take, List.drop, List.reverse, List.reverseAux, List.cons_append, List.nil_append, Option.toList, Int.toNat, Int.reduceToNat, if_pos, if_neg, reduceIte, ↓reduceIte, Nat.reduceAdd, Nat.reduceEqDiff, Nat.reduceBEq, beq_self_eq_true, Bool.not_true, Bool.not_false, Bool.and_true, Bool.and_false, Bool.true_and, Bool.false_and, gI_sI, gI_sL, gI_sA, gI_sM, gL_sI, gL_sL, gL_sA, gL_sM, aI_sI, aI_sL, aI_sA, aI_sM, aL_sI, aL_sL, aL_sA, aL_sM]; try dsimp only
                refine ⟨trivial, fun w29 τ29 hq29 => ?_⟩
                obtain ⟨rfl, b29, rfl, hb29⟩ := hq29 trivial
                obtain rfl : b29 = 0 := Classical.byContradiction (fun q => absurd (hb29.mp q) (TeR.nb hb))
                dsimp only [Option.toList, List.cons_append, List.nil_append, Nat.beq, gI_sI, gI_sL, gI_sA, gI_sM, gL_sI, gL_sL, gL_sA, gL_sM, aI_sI, aI_sL, aI_sA, aI_sM, aL_sI, aL_sL, aL_sA, aL_sM]
                refine ⟨fun h30 => absurd h30 (by decide), fun h30 => ?_⟩
                clear h30
                refine hB _ _ _ _ _ (fun m31 hm31 => ?_)
                dsimp only [ugo, uwp, ust, uct, rfd, Bassign, Bassign_301, Nat.beq, lv_args, rlk, rs1, rs2, rdl, rky, rcd, rno, rsw, Value.category, List.filter, List.take, List.drop, List.reverse, List.reverseAux, List.cons_append, List.nil_append, Option.toList, Int.toNat, Int.reduceToNat, if_pos, if_neg, reduceIte, ↓reduceIte, Nat.reduceAdd, Nat.reduceEqDiff, Nat.reduceBEq, beq_self_eq_true, Bool.not_true, Bool.not_false, Bool.and_true, Bool.and_false, Bool.true_and, Bool.false_and, gI_sI, gI_sL, gI_sA, gI_sM, gL_sI, gL_sL, gL_sA, gL_sM, aI_sI, aI_sL, aI_sA, aI_sM, aL_sI, aL_sL, aL_sA, aL_sM, oi_0]; try dsimp only
                refine ⟨trivial, fun w32 τ32 hq32 => ?_⟩
                obtain ⟨rfl, rfl⟩ := hq32 trivial
                dsimp only [Option.toList, List.cons_append, List.nil_append, Nat.beq, gI_sI, gI_sL, gI_sA, gI_sM, gL_sI, gL_sL, gL_sA, gL_sM, aI_sI, aI_sL, aI_sA, aI_sM, aL_sI, aL_sL, aL_sA, aL_sM]
                refine hB _ _ _ _ _ (fun m33 hm33 => ?_)
                dsimp only [ugo, uwp, ust, uct, rfd, Bassign, Bassign_318, Nat.beq, lv_args, rlk, rs1, rs2, rdl, rky, rcd, rno, rsw, Value.category, List.filter, List.take, List.drop, List.reverse, List.reverseAux, List.cons_append, List.nil_append, Option.toList, Int.toNat, Int.reduceToNat, if_pos, if_neg, reduceIte, ↓reduceIte, Nat.reduceAdd, Nat.reduceEqDiff, Nat.reduceBEq, beq_self_eq_true, Bool.not_true, Bool.not_false, Bool.and_true, Bool.and_false, Bool.true_and, Bool.false_and, gI_sI, gI_sL, gI_sA, gI_sM, gL_sI, gL_sL, gL_sA, gL_sM, aI_sI, aI_sL, aI_sA, aI_sM, aL_sI, aL_sL, aL_sA, aL_sM]; try dsimp only
                unfold Qv_assignB
                try dsimp only
                refine ⟨rfl, Or.inr ?_⟩
                exact ⟨_, if_pos ⟨⟨hkn, by omega⟩, Or.inr ⟨hs8, hlt, hrt⟩⟩, r2, _, ((aI σ 44) (r2).toNatClampNeg), 0, 0, hre, Or.inr ⟨hs8, wk, hwk, rfl⟩, ⟨v1, ⟨fun q => absurd rfl q, fun q => absurd ht0 q⟩, fun q => absurd ht0 q⟩, rfl⟩
              refine ⟨fun h34 => ?_, fun h34 => ?_⟩
              · have c34 : ¬ (vtT C x.2.1.2.1).1 = 0 := fun q => h34 ((cI v1 (rfl : (0 : Int32).toInt = 0)).1.mpr q)
                refine hB _ _ _ _ _ (fun m35 hm35 => ?_)
                dsimp only [ugo, uwp, ust, uct, rfd, Bassign, Bassign_248, Nat.beq, lv_args, rlk, rs1, rs2, rdl, rky, rcd, rno, rsw, Value.category, List.filter, List.take, List.drop, List.reverse, List.reverseAux, List.cons_append, List.nil_append, Option.toList, Int.toNat, Int.reduceToNat, if_pos, if_neg, reduceIte, ↓reduceIte, Nat.reduceAdd, Nat.reduceEqDiff, Nat.reduceBEq, beq_self_eq_true, Bool.not_true, Bool.not_false, Bool.and_true, Bool.and_false, Bool.true_and, Bool.false_and, gI_sI, gI_sL, gI_sA, gI_sM, gL_sI, gL_sL, gL_sA, gL_sM, aI_sI, aI_sL, aI_sA, aI_sM, aL_sI, aL_sL, aL_sA, aL_sM]; try dsimp only
                refine ⟨trivial, fun w36 τ36 hq36 => ?_⟩
                obtain ⟨rfl, b36, rfl, hb36⟩ := hq36 trivial
                have hb36 : ¬ b36 = 0 ↔ (31 ≤ x.1.2.1 ∧ x.1.2.1 ≤ 33) := hb36.trans (sg_sh hm4)
                dsimp only [Option.toList, List.cons_append, List.nil_append, Nat.beq, gI_sI, gI_sL, gI_sA, gI_sM, gL_sI, gL_sL, gL_sA, gL_sM, aI_sI, aI_sL, aI_sA, aI_sM, aL_sI, aL_sL, aL_sA, aL_sM]
                refine ⟨fun h37 => ?_, fun h37 => ?_⟩
                · have c37 : ¬ ((31 ≤ x.1.2.1 ∧ x.1.2.1 ≤ 33)) := fun q => (hb36).mpr q h37
                  refine hB _ _ _ _ _ (fun m38 hm38 => ?_)
                  dsimp only [ugo, uwp, ust, uct, rfd, Bassign, Bassign_266, Nat.beq, lv_args, rlk, rs1, rs2, rdl, rky, rcd, rno, rsw, Value.category, List.filter, List.take, List.drop, List.reverse, List.reverseAux, List.cons_append, List.nil_append, Option.toList, Int.toNat, Int.reduceToNat, if_pos, if_neg, reduceIte, ↓reduceIte, Nat.reduceAdd, Nat.reduceEqDiff, Nat.reduceBEq, beq_self_eq_true, Bool.not_true, Bool.not_false, Bool.and_true, Bool.and_false, Bool.true_and, Bool.false_and, gI_sI, gI_sL, gI_sA, gI_sM, gL_sI, gL_sL, gL_sA, gL_sM, aI_sI, aI_sL, aI_sA, aI_sM, aL_sI, aL_sL, aL_sA, aL_sM, oi_4]; try dsimp only
                  refine ⟨fun h39 => ?_, fun h39 => ?_⟩
                  · have c39 : (vtT C x.2.1.2.1).1 = 4 := (cI v1 (rfl : (4 : Int32).toInt = 4)).1.mp h39
                    refine hB _ _ _ _ _ (fun m40 hm40 => ?_)
                    dsimp only [ugo, uwp, ust, uct, rfd, Bassign, Bassign_282, Nat.beq, lv_args, rlk, rs1, rs2, rdl, rky, rcd, rno, rsw, Value.category, List.filter, List.take, List.drop, List.reverse, List.reverseAux, List.cons_append, List.nil_append, Option.toList, Int.toNat, Int.reduceToNat, if_pos, if_neg, reduceIte, ↓reduceIte, Nat.reduceAdd, Nat.reduceEqDiff, Nat.reduceBEq, beq_self_eq_true, Bool.not_true, Bool.not_false, Bool.and_true, Bool.and_false, Bool.true_and, Bool.false_and, gI_sI, gI_sL, gI_sA, gI_sM, gL_sI, gL_sL, gL_sA, gL_sM, aI_sI, aI_sL, aI_sA, aI_sM, aL_sI, aL_sL, aL_sA, aL_sM, oi_4]; try dsimp only
                    exact hW _ 287 [(0, .ref 1000), (1, .int c), (2, .int t), (3, .int ((gI σ 69) - 1)), (4, .int r2), (5, .int 1), (6, .int ((aI σ 44) (r2).toNatClampNeg)), (7, .int ((aI σ 20) (c).toNatClampNeg)), (8, .int (((aI σ 20) (c).toNatClampNeg) - 400))] _ _ _ (by simp [rdl, rky, Value.category]) (t287 _ 4 (by unfold wrT; rw [if_neg (by omega), if_neg (by omega), if_pos (by omega)]; rfl))
                  · have c39 : ¬ (vtT C x.2.1.2.1).1 = 4 := fun q => h39 ((cI v1 (rfl : (4 : Int32).toInt = 4)).1.mpr q)
                    refine hB _ _ _ _ _ (fun m41 hm41 => ?_)
                    dsimp only [ugo, uwp, ust, uct, rfd, Bassign, Bassign_272, Nat.beq, lv_args, rlk, rs1, rs2, rdl, rky, rcd, rno, rsw, Value.category, List.filter, List.take, List.drop, List.reverse, List.reverseAux, List.cons_append, List.nil_append, Option.toList, Int.toNat, Int.reduceToNat, if_pos, if_neg, reduceIte, ↓reduceIte, Nat.reduceAdd, Nat.reduceEqDiff, Nat.reduceBEq, beq_self_eq_true, Bool.not_true, Bool.not_false, Bool.and_true, Bool.and_false, Bool.true_and, Bool.false_and, gI_sI, gI_sL, gI_sA, gI_sM, gL_sI, gL_sL, gL_sA, gL_sM, aI_sI, aI_sL, aI_sA, aI_sM, aL_sI, aL_sL, aL_sA, aL_sM, oi_4]; try dsimp only
                    intro p42
                    refine ⟨fun h43 => ?_, fun h43 => ?_⟩
                    · have c43 : ¬ b.1 = 4 := fun q => h43 ((cI (hb).1 (rfl : (4 : Int32).toInt = 4)).1.mpr q)
                      refine hB _ _ _ _ _ (fun m44 hm44 => ?_)
                      dsimp only [ugo, uwp, ust, uct, rfd, Bassign, Bassign_286, Nat.beq, lv_args, rlk, rs1, rs2, rdl, rky, rcd, rno, rsw, Value.category, List.filter, List.take, List.drop, List.reverse, List.reverseAux, List.cons_append, List.nil_append, Option.toList, Int.toNat, Int.reduceToNat, if_pos, if_neg, reduceIte, ↓reduceIte, Nat.reduceAdd, Nat.reduceEqDiff, Nat.reduceBEq, beq_self_eq_true, Bool.not_true, Bool.not_false, Bool.and_true, Bool.and_false, Bool.true_and, Bool.false_and, gI_sI, gI_sL, gI_sA, gI_sM, gL_sI, gL_sL, gL_sA, gL_sM, aI_sI, aI_sL, aI_sA, aI_sM, aL_sI, aL_sL, aL_sA, aL_sM, oi_3]; try dsimp only
                      exact hW _ 287 [(0, .ref 1000), (1, .int c), (2, .int t), (3, .int ((gI σ 69) - 1)), (4, .int r2), (5, .int 1), (6, .int ((aI σ 44) (r2).toNatClampNeg)), (7, .int ((aI σ 20) (c).toNatClampNeg)), (8, .int (((aI σ 20) (c).toNatClampNeg) - 400))] _ _ _ (by simp [rdl, rky, Value.category]) (t287 _ 3 (by unfold wrT; rw [if_neg (by omega), if_neg (by omega), if_neg (by omega)]; rfl))
                    · have c43 : b.1 = 4 := (cI (hb).1 (rfl : (4 : Int32).toInt = 4)).1.mp h43
                      refine hB _ _ _ _ _ (fun m45 hm45 => ?_)
                      dsimp only [ugo, uwp, ust, uct, rfd, Bassign, Bassign_282, Nat.beq, lv_args, rlk, rs1, rs2, rdl, rky, rcd, rno, rsw, Value.category, List.filter, List.take, List.drop, List.reverse, List.reverseAux, List.cons_append, List.nil_append, Option.toList, Int.toNat, Int.reduceToNat, if_pos, if_neg, reduceIte, ↓reduceIte, Nat.reduceAdd, Nat.reduceEqDiff, Nat.reduceBEq, beq_self_eq_true, Bool.not_true, Bool.not_false, Bool.and_true, Bool.and_false, Bool.true_and, Bool.false_and, gI_sI, gI_sL, gI_sA, gI_sM, gL_sI, gL_sL, gL_sA, gL_sM, aI_sI, aI_sL, aI_sA, aI_sM, aL_sI, aL_sL, aL_sA, aL_sM, oi_4]; try dsimp only
                      exact hW _ 287 [(0, .ref 1000), (1, .int c), (2, .int t), (3, .int ((gI σ 69) - 1)), (4, .int r2), (5, .int 1), (6, .int ((aI σ 44) (r2).toNatClampNeg)), (7, .int ((aI σ 20) (c).toNatClampNeg)), (8, .int (((aI σ 20) (c).toNatClampNeg) - 400))] _ _ _ (by simp [rdl, rky, Value.category]) (t287 _ 4 (by unfold wrT; rw [if_neg (by omega), if_neg (by omega), if_pos (by omega)]; rfl))
                · have c37 : (31 ≤ x.1.2.1 ∧ x.1.2.1 ≤ 33) := (hb36).mp h37
                  refine hB _ _ _ _ _ (fun m46 hm46 => ?_)
                  dsimp only [ugo, uwp, ust, uct, rfd, Bassign, Bassign_257, Nat.beq, lv_args, rlk, rs1, rs2, rdl, rky, rcd, rno, rsw, Value.category, List.filter, List.take, List.drop, List.reverse, List.reverseAux, List.cons_append, List.nil_append, Option.toList, Int.toNat, Int.reduceToNat, if_pos, if_neg, reduceIte, ↓reduceIte, Nat.reduceAdd, Nat.reduceEqDiff, Nat.reduceBEq, beq_self_eq_true, Bool.not_true, Bool.not_false, Bool.and_true, Bool.and_false, Bool.true_and, Bool.false_and, gI_sI, gI_sL, gI_sA, gI_sM, gL_sI, gL_sL, gL_sA, gL_sM, aI_sI, aI_sL, aI_sA, aI_sM, aL_sI, aL_sL, aL_sA, aL_sM]; try dsimp only
                  refine ⟨trivial, fun w47 τ47 hq47 => ?_⟩
                  obtain ⟨rfl, r47, rfl, hr47⟩ := hq47 trivial
                  try rw [show (((aI σ 44) (r2).toNatClampNeg)).toInt = (vtT C x.2.1.2.1).1 from v1] at hr47
                  have hr47 : r47.toInt = pmT ((vtT C x.2.1.2.1).1) := hr47
                  dsimp only [Option.toList, List.cons_append, List.nil_append, Nat.beq, gI_sI, gI_sL, gI_sA, gI_sM, gL_sI, gL_sL, gL_sA, gL_sM, aI_sI, aI_sL, aI_sA, aI_sM, aL_sI, aL_sL, aL_sA, aL_sM]
                  exact hW _ 287 [(0, .ref 1000), (1, .int c), (2, .int t), (3, .int ((gI σ 69) - 1)), (4, .int r2), (5, .int 1), (6, .int ((aI σ 44) (r2).toNatClampNeg)), (7, .int ((aI σ 20) (c).toNatClampNeg)), (8, .int (((aI σ 20) (c).toNatClampNeg) - 400))] _ _ _ (by simp [rdl, rky, Value.category]) (t287 _ r47 (by unfold wrT; rw [if_neg (by omega), if_pos (by omega)]; exact hr47))
              · have c34 : (vtT C x.2.1.2.1).1 = 0 := (cI v1 (rfl : (0 : Int32).toInt = 0)).1.mp h34
                refine hB _ _ _ _ _ (fun m48 hm48 => ?_)
                dsimp only [ugo, uwp, ust, uct, rfd, Bassign, Bassign_244, Nat.beq, lv_args, rlk, rs1, rs2, rdl, rky, rcd, rno, rsw, Value.category, List.filter, List.take, List.drop, List.reverse, List.reverseAux, List.cons_append, List.nil_append, Option.toList, Int.toNat, Int.reduceToNat, if_pos, if_neg, reduceIte, ↓reduceIte, Nat.reduceAdd, Nat.reduceEqDiff, Nat.reduceBEq, beq_self_eq_true, Bool.not_true, Bool.not_false, Bool.and_true, Bool.and_false, Bool.true_and, Bool.false_and, gI_sI, gI_sL, gI_sA, gI_sM, gL_sI, gL_sL, gL_sA, gL_sM, aI_sI, aI_sL, aI_sA, aI_sM, aL_sI, aL_sL, aL_sA, aL_sM, oi_0]; try dsimp only
                exact hW _ 287 [(0, .ref 1000), (1, .int c), (2, .int t), (3, .int ((gI σ 69) - 1)), (4, .int r2), (5, .int 1), (6, .int ((aI σ 44) (r2).toNatClampNeg)), (7, .int ((aI σ 20) (c).toNatClampNeg)), (8, .int (((aI σ 20) (c).toNatClampNeg) - 400))] _ _ _ (by simp [rdl, rky, Value.category]) (t287 _ 0 (by unfold wrT; rw [if_pos (by omega)]; rfl))
            refine ⟨fun h49 => ?_, fun h49 => ?_⟩
            · have c49 : ¬ (vtT C x.2.1.2.1).1 = 0 := fun q => h49 ((cI v1 (rfl : (0 : Int32).toInt = 0)).1.mpr q)
              refine hB _ _ _ _ _ (fun m50 hm50 => ?_)
              dsimp only [ugo, uwp, ust, uct, rfd, Bassign, Bassign_224, Nat.beq, lv_args, rlk, rs1, rs2, rdl, rky, rcd, rno, rsw, Value.category, List.filter, List.take, List.drop, List.reverse, List.reverseAux, List.cons_append, List.nil_append, Option.toList, Int.toNat, Int.reduceToNat, if_pos, if_neg, reduceIte, ↓reduceIte, Nat.reduceAdd, Nat.reduceEqDiff, Nat.reduceBEq, beq_self_eq_true, Bool.not_true, Bool.not_false, Bool.and_true, Bool.and_false, Bool.true_and, Bool.false_and, gI_sI, gI_sL, gI_sA, gI_sM, gL_sI, gL_sL, gL_sA, gL_sM, aI_sI, aI_sL, aI_sA, aI_sM, aL_sI, aL_sL, aL_sA, aL_sM, oi_1]; try dsimp only
              refine hB _ _ _ _ _ (fun m51 hm51 => ?_)
              dsimp only [ugo, uwp, ust, uct, rfd, Bassign, Bassign_225, Nat.beq, lv_args, rlk, rs1, rs2, rdl, rky, rcd, rno, rsw, Value.category, List.filter, List.take, List.drop, List.reverse, List.reverseAux, List.cons_append, List.nil_append, Option.toList, Int.toNat, Int.reduceToNat, if_pos, if_neg, reduceIte, ↓reduceIte, Nat.reduceAdd, Nat.reduceEqDiff, Nat.reduceBEq, beq_self_eq_true, Bool.not_true, Bool.not_false, Bool.and_true, Bool.and_false, Bool.true_and, Bool.false_and, gI_sI, gI_sL, gI_sA, gI_sM, gL_sI, gL_sL, gL_sA, gL_sM, aI_sI, aI_sL, aI_sA, aI_sM, aL_sI, aL_sL, aL_sA, aL_sM]; try dsimp only
              refine ⟨trivial, fun w52 τ52 hq52 => ?_⟩
              obtain ⟨hA52, b52, rfl, hb52⟩ := hq52 trivial
              rcases hb52 _ hb with ⟨rfl, rfl, hd52⟩ | ⟨rfl, hz52, hd52⟩
              · dsimp only [Option.toList, List.cons_append, List.nil_append, Nat.beq, gI_sI, gI_sL, gI_sA, gI_sM, gL_sI, gL_sL, gL_sA, gL_sM, aI_sI, aI_sL, aI_sA, aI_sM, aL_sI, aL_sL, aL_sA, aL_sM]
                have hd52 : nuT b.1 := (nd_f (by decide)).mp hd52
                refine ⟨fun h53 => ?_, fun h53 => absurd h53 (by decide)⟩
                clear h53
                exact hW _ 234 [(0, .ref 1000), (1, .int c), (2, .int t), (3, .int ((gI σ 69) - 1)), (4, .int r2), (5, .int 1), (6, .int ((aI σ 44) (r2).toNatClampNeg)), (7, .int ((aI σ 20) (c).toNatClampNeg)), (8, .int (((aI σ 20) (c).toNatClampNeg) - 400))] _ _ _ (by simp [rdl, rky, Value.category]) (t234 _ (by omega))
              · dsimp only [Option.toList, List.cons_append, List.nil_append, Nat.beq, gI_sI, gI_sL, gI_sA, gI_sM, gL_sI, gL_sL, gL_sA, gL_sM, aI_sI, aI_sL, aI_sA, aI_sM, aL_sI, aL_sL, aL_sA, aL_sM]
                have hd52 : ¬ (nuT b.1) := fun q => hd52 ((nd_f (by decide)).mpr q)
                refine ⟨fun h54 => absurd h54 (by decide), fun h54 => ?_⟩
                clear h54
                exact hW _ 231 [(0, .ref 1000), (1, .int c), (2, .int t), (3, .int ((gI σ 69) - 1)), (4, .int r2), (5, .int 1), (6, .int ((aI σ 44) (r2).toNatClampNeg)), (7, .int ((aI σ 20) (c).toNatClampNeg)), (8, .int (((aI σ 20) (c).toNatClampNeg) - 400))] _ _ _ (by simp [rdl, rky, Value.category]) ((bad (by unfold x9T; refine if_neg (fun q => ?_); obtain ⟨⟨q1, q2⟩, q3⟩ := q; first | omega | (rcases q3 with ⟨q4, q5⟩ | ⟨q4, q5, q6⟩; (first | omega | contradiction); (first | omega | contradiction))) _).2.2.2.2.2.2.2.2.2.2.2.2.2.2.2.2.2.2.2.2.2.1 c t ((gI σ 69) - 1) r2 1 ((aI σ 44) (r2).toNatClampNeg) ((aI σ 20) (c).toNatClampNeg) (((aI σ 20) (c).toNatClampNeg) - 400) _ hz52)
            · have c49 : (vtT C x.2.1.2.1).1 = 0 := (cI v1 (rfl : (0 : Int32).toInt = 0)).1.mp h49
              refine hB _ _ _ _ _ (fun m55 hm55 => ?_)
              dsimp only [ugo, uwp, ust, uct, rfd, Bassign, Bassign_220, Nat.beq, lv_args, rlk, rs1, rs2, rdl, rky, rcd, rno, rsw, Value.category, List.filter, List.take, List.drop, List.reverse, List.reverseAux, List.cons_append, List.nil_append, Option.toList, Int.toNat, Int.reduceToNat, if_pos, if_neg, reduceIte, ↓reduceIte, Nat.reduceAdd, Nat.reduceEqDiff, Nat.reduceBEq, beq_self_eq_true, Bool.not_true, Bool.not_false, Bool.and_true, Bool.and_false, Bool.true_and, Bool.false_and, gI_sI, gI_sL, gI_sA, gI_sM, gL_sI, gL_sL, gL_sA, gL_sM, aI_sI, aI_sL, aI_sA, aI_sM, aL_sI, aL_sL, aL_sA, aL_sM, oi_0]; try dsimp only
              refine hB _ _ _ _ _ (fun m56 hm56 => ?_)
              dsimp only [ugo, uwp, ust, uct, rfd, Bassign, Bassign_225, Nat.beq, lv_args, rlk, rs1, rs2, rdl, rky, rcd, rno, rsw, Value.category, List.filter, List.take, List.drop, List.reverse, List.reverseAux, List.cons_append, List.nil_append, Option.toList, Int.toNat, Int.reduceToNat, if_pos, if_neg, reduceIte, ↓reduceIte, Nat.reduceAdd, Nat.reduceEqDiff, Nat.reduceBEq, beq_self_eq_true, Bool.not_true, Bool.not_false, Bool.and_true, Bool.and_false, Bool.true_and, Bool.false_and, gI_sI, gI_sL, gI_sA, gI_sM, gL_sI, gL_sL, gL_sA, gL_sM, aI_sI, aI_sL, aI_sA, aI_sM, aL_sI, aL_sL, aL_sA, aL_sM]; try dsimp only
              refine ⟨trivial, fun w57 τ57 hq57 => ?_⟩
              obtain ⟨hA57, b57, rfl, hb57⟩ := hq57 trivial
              rcases hb57 _ hb with ⟨rfl, rfl, hd57⟩ | ⟨rfl, hz57, hd57⟩
              · dsimp only [Option.toList, List.cons_append, List.nil_append, Nat.beq, gI_sI, gI_sL, gI_sA, gI_sM, gL_sI, gL_sL, gL_sA, gL_sM, aI_sI, aI_sL, aI_sA, aI_sM, aL_sI, aL_sL, aL_sA, aL_sM]
                have hd57 : b.1 = 0 := (nd_t (rfl)).mp hd57
                refine ⟨fun h58 => ?_, fun h58 => absurd h58 (by decide)⟩
                clear h58
                exact hW _ 234 [(0, .ref 1000), (1, .int c), (2, .int t), (3, .int ((gI σ 69) - 1)), (4, .int r2), (5, .int 1), (6, .int ((aI σ 44) (r2).toNatClampNeg)), (7, .int ((aI σ 20) (c).toNatClampNeg)), (8, .int (((aI σ 20) (c).toNatClampNeg) - 400))] _ _ _ (by simp [rdl, rky, Value.category]) (t234 _ (by omega))
              · dsimp only [Option.toList, List.cons_append, List.nil_append, Nat.beq, gI_sI, gI_sL, gI_sA, gI_sM, gL_sI, gL_sL, gL_sA, gL_sM, aI_sI, aI_sL, aI_sA, aI_sM, aL_sI, aL_sL, aL_sA, aL_sM]
                have hd57 : ¬ (b.1 = 0) := fun q => hd57 ((nd_t (rfl)).mpr q)
                refine ⟨fun h59 => absurd h59 (by decide), fun h59 => ?_⟩
                clear h59
                exact hW _ 231 [(0, .ref 1000), (1, .int c), (2, .int t), (3, .int ((gI σ 69) - 1)), (4, .int r2), (5, .int 1), (6, .int ((aI σ 44) (r2).toNatClampNeg)), (7, .int ((aI σ 20) (c).toNatClampNeg)), (8, .int (((aI σ 20) (c).toNatClampNeg) - 400))] _ _ _ (by simp [rdl, rky, Value.category]) ((bad (by unfold x9T; refine if_neg (fun q => ?_); obtain ⟨⟨q1, q2⟩, q3⟩ := q; first | omega | (rcases q3 with ⟨q4, q5⟩ | ⟨q4, q5, q6⟩; (first | omega | contradiction); (first | omega | contradiction))) _).2.2.2.2.2.2.2.2.2.2.2.2.2.2.2.2.2.2.2.2.2.1 c t ((gI σ 69) - 1) r2 1 ((aI σ 44) (r2).toNatClampNeg) ((aI σ 20) (c).toNatClampNeg) (((aI σ 20) (c).toNatClampNeg) - 400) _ hz57)
          refine ⟨fun h60 => ?_, fun h60 => ?_⟩
          · have c60 : ¬ (vtT C x.2.1.2.1).1 = 0 := fun q => h60 ((cI v1 (rfl : (0 : Int32).toInt = 0)).1.mpr q)
            exact hW _ 213 [(0, .ref 1000), (1, .int c), (2, .int t), (3, .int ((gI σ 69) - 1)), (4, .int r2), (5, .int 1), (6, .int ((aI σ 44) (r2).toNatClampNeg)), (7, .int ((aI σ 20) (c).toNatClampNeg)), (8, .int (((aI σ 20) (c).toNatClampNeg) - 400))] _ _ _ (by simp [rdl, rky, Value.category]) (t213 _ (by omega))
          · have c60 : (vtT C x.2.1.2.1).1 = 0 := (cI v1 (rfl : (0 : Int32).toInt = 0)).1.mp h60
            refine hB _ _ _ _ _ (fun m61 hm61 => ?_)
            dsimp only [ugo, uwp, ust, uct, rfd, Bassign, Bassign_177, Nat.beq, lv_args, rlk, rs1, rs2, rdl, rky, rcd, rno, rsw, Value.category, List.filter, List.take, List.drop, List.reverse, List.reverseAux, List.cons_append, List.nil_append, Option.toList, Int.toNat, Int.reduceToNat, if_pos, if_neg, reduceIte, ↓reduceIte, Nat.reduceAdd, Nat.reduceEqDiff, Nat.reduceBEq, beq_self_eq_true, Bool.not_true, Bool.not_false, Bool.and_true, Bool.and_false, Bool.true_and, Bool.false_and, gI_sI, gI_sL, gI_sA, gI_sM, gL_sI, gL_sL, gL_sA, gL_sM, aI_sI, aI_sL, aI_sA, aI_sM, aL_sI, aL_sL, aL_sA, aL_sM]; try dsimp only
            refine ⟨trivial, fun w62 τ62 hq62 => ?_⟩
            obtain ⟨rfl, b62, rfl, hb62⟩ := hq62 trivial
            have hb62 : ¬ b62 = 0 ↔ (22 ≤ x.1.2.1 ∧ x.1.2.1 ≤ 24) := hb62.trans (sg_bi hm4)
            dsimp only [Option.toList, List.cons_append, List.nil_append, Nat.beq, gI_sI, gI_sL, gI_sA, gI_sM, gL_sI, gL_sL, gL_sA, gL_sM, aI_sI, aI_sL, aI_sA, aI_sM, aL_sI, aL_sL, aL_sA, aL_sM]
            refine ⟨fun h63 => ?_, fun h63 => ?_⟩
            · have c63 : (22 ≤ x.1.2.1 ∧ x.1.2.1 ≤ 24) := (hb62).mp h63
              exact hW _ 213 [(0, .ref 1000), (1, .int c), (2, .int t), (3, .int ((gI σ 69) - 1)), (4, .int r2), (5, .int 1), (6, .int ((aI σ 44) (r2).toNatClampNeg)), (7, .int ((aI σ 20) (c).toNatClampNeg)), (8, .int (((aI σ 20) (c).toNatClampNeg) - 400))] _ _ _ (by simp [rdl, rky, Value.category]) (t213 _ (by omega))
            · have c63 : ¬ ((22 ≤ x.1.2.1 ∧ x.1.2.1 ≤ 24)) := fun q => (hb62).mpr q h63
              refine hB _ _ _ _ _ (fun m64 hm64 => ?_)
              dsimp only [ugo, uwp, ust, uct, rfd, Bassign, Bassign_186, Nat.beq, lv_args, rlk, rs1, rs2, rdl, rky, rcd, rno, rsw, Value.category, List.filter, List.take, List.drop, List.reverse, List.reverseAux, List.cons_append, List.nil_append, Option.toList, Int.toNat, Int.reduceToNat, if_pos, if_neg, reduceIte, ↓reduceIte, Nat.reduceAdd, Nat.reduceEqDiff, Nat.reduceBEq, beq_self_eq_true, Bool.not_true, Bool.not_false, Bool.and_true, Bool.and_false, Bool.true_and, Bool.false_and, gI_sI, gI_sL, gI_sA, gI_sM, gL_sI, gL_sL, gL_sA, gL_sM, aI_sI, aI_sL, aI_sA, aI_sM, aL_sI, aL_sL, aL_sA, aL_sM, oi_0, oi_5]; try dsimp only
              refine ⟨trivial, fun w65 τ65 hq65 => ?_⟩
              obtain ⟨rfl, hz65⟩ := hq65 (show ¬ (5 : Int32) = 0 by decide)
              dsimp only [Option.toList, List.cons_append, List.nil_append, Nat.beq, gI_sI, gI_sL, gI_sA, gI_sM, gL_sI, gL_sL, gL_sA, gL_sM, aI_sI, aI_sL, aI_sA, aI_sM, aL_sI, aL_sL, aL_sA, aL_sM]
              refine ⟨trivial, fun w66 τ66 hq66 => ?_⟩
              obtain ⟨rfl, b66, rfl, hb66⟩ := hq66 trivial
              dsimp only [Option.toList, List.cons_append, List.nil_append, Nat.beq, gI_sI, gI_sL, gI_sA, gI_sM, gL_sI, gL_sL, gL_sA, gL_sM, aI_sI, aI_sL, aI_sA, aI_sM, aL_sI, aL_sL, aL_sA, aL_sM]
              refine ⟨fun h67 => ?_, fun h67 => ?_⟩
              · exact hW _ 234 [(0, .ref 1000), (1, .int c), (2, .int t), (3, .int ((gI σ 69) - 1)), (4, .int r2), (5, .int 0), (6, .int ((aI σ 44) (r2).toNatClampNeg)), (7, .int ((aI σ 20) (c).toNatClampNeg)), (8, .int (((aI σ 20) (c).toNatClampNeg) - 400))] _ _ _ (by simp [rdl, rky, Value.category]) ((bad (by unfold x9T; refine if_neg (fun q => ?_); obtain ⟨⟨q1, q2⟩, q3⟩ := q; first | omega | (rcases q3 with ⟨q4, q5⟩ | ⟨q4, q5, q6⟩; (first | omega | contradiction); (first | omega | contradiction))) _).2.2.2.2.2.2.2.2.2.2.2.2.2.2.2.2.2.2.2.2.2.2.1 c t ((gI σ 69) - 1) r2 0 ((aI σ 44) (r2).toNatClampNeg) ((aI σ 20) (c).toNatClampNeg) (((aI σ 20) (c).toNatClampNeg) - 400) _ hz65)
              · exact hW _ 203 [(0, .ref 1000), (1, .int c), (2, .int t), (3, .int ((gI σ 69) - 1)), (4, .int r2), (5, .int 0), (6, .int ((aI σ 44) (r2).toNatClampNeg)), (7, .int ((aI σ 20) (c).toNatClampNeg)), (8, .int (((aI σ 20) (c).toNatClampNeg) - 400))] _ _ _ (by simp [rdl, rky, Value.category]) ((bad (by unfold x9T; refine if_neg (fun q => ?_); obtain ⟨⟨q1, q2⟩, q3⟩ := q; first | omega | (rcases q3 with ⟨q4, q5⟩ | ⟨q4, q5, q6⟩; (first | omega | contradiction); (first | omega | contradiction))) _).2.2.2.2.2.2.2.2.2.2.2.2.2.2.2.2.1 c t ((gI σ 69) - 1) r2 0 ((aI σ 44) (r2).toNatClampNeg) ((aI σ 20) (c).toNatClampNeg) (((aI σ 20) (c).toNatClampNeg) - 400) _ hz65)
        · have c20 : (aI σ 20 c.toNatClampNeg).toInt = 61 := (cI (rfl : (aI σ 20 c.toNatClampNeg).toInt = (aI σ 20 c.toNatClampNeg).toInt) (rfl : (61 : Int32).toInt = 61)).1.mp h20
          refine hB _ _ _ _ _ (fun m68 hm68 => ?_)
          dsimp only [ugo, uwp, ust, uct, rfd, Bassign, Bassign_129, Nat.beq, lv_args, rlk, rs1, rs2, rdl, rky, rcd, rno, rsw, Value.category, List.filter, List.take, List.drop, List.reverse, List.reverseAux, List.cons_append, List.nil_append, Option.toList, Int.toNat, Int.reduceToNat, if_pos, if_neg, reduceIte, ↓reduceIte, Nat.reduceAdd, Nat.reduceEqDiff, Nat.reduceBEq, beq_self_eq_true, Bool.not_true, Bool.not_false, Bool.and_true, Bool.and_false, Bool.true_and, Bool.false_and, gI_sI, gI_sL, gI_sA, gI_sM, gL_sI, gL_sL, gL_sA, gL_sM, aI_sI, aI_sL, aI_sA, aI_sM, aL_sI, aL_sL, aL_sA, aL_sM]; try dsimp only
          have hs8 : x.1.2.1 = 8 := by
            rcases hop with q | ⟨q1, q2, q3⟩
            · exact q.1
            · have q4 := sgT_p _ q2
              dsimp only at q4
              omega
          refine ⟨trivial, fun w69 τ69 hq69 => ?_⟩
          obtain ⟨rfl, b69, rfl, hb69⟩ := hq69 trivial
          obtain rfl : b69 = 0 := Classical.byContradiction (fun q => absurd (hb69.mp q) (TeR.nb hb))
          dsimp only [Option.toList, List.cons_append, List.nil_append, Nat.beq, gI_sI, gI_sL, gI_sA, gI_sM, gL_sI, gL_sL, gL_sA, gL_sM, aI_sI, aI_sL, aI_sA, aI_sM, aL_sI, aL_sL, aL_sA, aL_sM]
          refine ⟨fun h70 => absurd h70 (by decide), fun h70 => ?_⟩
          clear h70
          refine hB _ _ _ _ _ (fun m71 hm71 => ?_)
          dsimp only [ugo, uwp, ust, uct, rfd, Bassign, Bassign_137, Nat.beq, lv_args, rlk, rs1, rs2, rdl, rky, rcd, rno, rsw, Value.category, List.filter, List.take, List.drop, List.reverse, List.reverseAux, List.cons_append, List.nil_append, Option.toList, Int.toNat, Int.reduceToNat, if_pos, if_neg, reduceIte, ↓reduceIte, Nat.reduceAdd, Nat.reduceEqDiff, Nat.reduceBEq, beq_self_eq_true, Bool.not_true, Bool.not_false, Bool.and_true, Bool.and_false, Bool.true_and, Bool.false_and, gI_sI, gI_sL, gI_sA, gI_sM, gL_sI, gL_sL, gL_sA, gL_sM, aI_sI, aI_sL, aI_sA, aI_sM, aL_sI, aL_sL, aL_sA, aL_sM]; try dsimp only
          refine ⟨trivial, fun w72 τ72 hq72 => ?_⟩
          obtain ⟨rfl, b72, rfl, hb72⟩ := hq72 trivial
          have hb72 := hb72 _ hb (by rw [show (((aI σ 44) (r2).toNatClampNeg) : Int32).toInt = (vtT C x.2.1.2.1).1 from v1]; first | omega | decide)
          rw [show (((aI σ 44) (r2).toNatClampNeg) : Int32).toInt = (vtT C x.2.1.2.1).1 from v1] at hb72
          dsimp only [Option.toList, List.cons_append, List.nil_append, Nat.beq, gI_sI, gI_sL, gI_sA, gI_sM, gL_sI, gL_sL, gL_sA, gL_sM, aI_sI, aI_sL, aI_sA, aI_sM, aL_sI, aL_sL, aL_sA, aL_sM]
          refine ⟨fun h73 => ?_, fun h73 => ?_⟩
          · have c73 : ftT b ((vtT C x.2.1.2.1).1) := (hb72).mp h73
            refine hB _ _ _ _ _ (fun m74 hm74 => ?_)
            dsimp only [ugo, uwp, ust, uct, rfd, Bassign, Bassign_288, Nat.beq, lv_args, rlk, rs1, rs2, rdl, rky, rcd, rno, rsw, Value.category, List.filter, List.take, List.drop, List.reverse, List.reverseAux, List.cons_append, List.nil_append, Option.toList, Int.toNat, Int.reduceToNat, if_pos, if_neg, reduceIte, ↓reduceIte, Nat.reduceAdd, Nat.reduceEqDiff, Nat.reduceBEq, beq_self_eq_true, Bool.not_true, Bool.not_false, Bool.and_true, Bool.and_false, Bool.true_and, Bool.false_and, gI_sI, gI_sL, gI_sA, gI_sM, gL_sI, gL_sL, gL_sA, gL_sM, aI_sI, aI_sL, aI_sA, aI_sM, aL_sI, aL_sL, aL_sA, aL_sM]; try dsimp only
            refine ⟨fun h75 => absurd h75 (by decide), fun h75 => ?_⟩
            clear h75
            refine hB _ _ _ _ _ (fun m76 hm76 => ?_)
            dsimp only [ugo, uwp, ust, uct, rfd, Bassign, Bassign_293, Nat.beq, lv_args, rlk, rs1, rs2, rdl, rky, rcd, rno, rsw, Value.category, List.filter, List.take, List.drop, List.reverse, List.reverseAux, List.cons_append, List.nil_append, Option.toList, Int.toNat, Int.reduceToNat, if_pos, if_neg, reduceIte, ↓reduceIte, Nat.reduceAdd, Nat.reduceEqDiff, Nat.reduceBEq, beq_self_eq_true, Bool.not_true, Bool.not_false, Bool.and_true, Bool.and_false, Bool.true_and, Bool.false_and, gI_sI, gI_sL, gI_sA, gI_sM, gL_sI, gL_sL, gL_sA, gL_sM, aI_sI, aI_sL, aI_sA, aI_sM, aL_sI, aL_sL, aL_sA, aL_sM]; try dsimp only
            refine ⟨trivial, fun w77 τ77 hq77 => ?_⟩
            obtain ⟨rfl, b77, rfl, hb77⟩ := hq77 trivial
            obtain rfl : b77 = 0 := Classical.byContradiction (fun q => absurd (hb77.mp q) (TeR.nb hb))
            dsimp only [Option.toList, List.cons_append, List.nil_append, Nat.beq, gI_sI, gI_sL, gI_sA, gI_sM, gL_sI, gL_sL, gL_sA, gL_sM, aI_sI, aI_sL, aI_sA, aI_sM, aL_sI, aL_sL, aL_sA, aL_sM]
            refine ⟨fun h78 => absurd h78 (by decide), fun h78 => ?_⟩
            clear h78
            refine hB _ _ _ _ _ (fun m79 hm79 => ?_)
            dsimp only [ugo, uwp, ust, uct, rfd, Bassign, Bassign_301, Nat.beq, lv_args, rlk, rs1, rs2, rdl, rky, rcd, rno, rsw, Value.category, List.filter, List.take, List.drop, List.reverse, List.reverseAux, List.cons_append, List.nil_append, Option.toList, Int.toNat, Int.reduceToNat, if_pos, if_neg, reduceIte, ↓reduceIte, Nat.reduceAdd, Nat.reduceEqDiff, Nat.reduceBEq, beq_self_eq_true, Bool.not_true, Bool.not_false, Bool.and_true, Bool.and_false, Bool.true_and, Bool.false_and, gI_sI, gI_sL, gI_sA, gI_sM, gL_sI, gL_sL, gL_sA, gL_sM, aI_sI, aI_sL, aI_sA, aI_sM, aL_sI, aL_sL, aL_sA, aL_sM, oi_0]; try dsimp only
            refine ⟨trivial, fun w80 τ80 hq80 => ?_⟩
            obtain ⟨rfl, rfl⟩ := hq80 trivial
            dsimp only [Option.toList, List.cons_append, List.nil_append, Nat.beq, gI_sI, gI_sL, gI_sA, gI_sM, gL_sI, gL_sL, gL_sA, gL_sM, aI_sI, aI_sL, aI_sA, aI_sM, aL_sI, aL_sL, aL_sA, aL_sM]
            refine hB _ _ _ _ _ (fun m81 hm81 => ?_)
            dsimp only [ugo, uwp, ust, uct, rfd, Bassign, Bassign_318, Nat.beq, lv_args, rlk, rs1, rs2, rdl, rky, rcd, rno, rsw, Value.category, List.filter, List.take, List.drop, List.reverse, List.reverseAux, List.cons_append, List.nil_append, Option.toList, Int.toNat, Int.reduceToNat, if_pos, if_neg, reduceIte, ↓reduceIte, Nat.reduceAdd, Nat.reduceEqDiff, Nat.reduceBEq, beq_self_eq_true, Bool.not_true, Bool.not_false, Bool.and_true, Bool.and_false, Bool.true_and, Bool.false_and, gI_sI, gI_sL, gI_sA, gI_sM, gL_sI, gL_sL, gL_sA, gL_sM, aI_sI, aI_sL, aI_sA, aI_sM, aL_sI, aL_sL, aL_sA, aL_sM]; try dsimp only
            unfold Qv_assignB
            try dsimp only
            refine ⟨rfl, Or.inr ?_⟩
            exact ⟨_, if_pos ⟨⟨hkn, by omega⟩, Or.inl ⟨hs8, by assumption⟩⟩, r2, _, ((aI σ 44) (r2).toNatClampNeg), 0, 0, hre, Or.inl ⟨hs8, rfl⟩, ⟨v1, ⟨fun q => absurd rfl q, fun q => absurd ht0 q⟩, fun q => absurd ht0 q⟩, rfl⟩
          · have c73 : ¬ (ftT b ((vtT C x.2.1.2.1).1)) := fun q => (hb72).mpr q h73
            refine hB _ _ _ _ _ (fun m82 hm82 => ?_)
            dsimp only [ugo, uwp, ust, uct, rfd, Bassign, Bassign_147, Nat.beq, lv_args, rlk, rs1, rs2, rdl, rky, rcd, rno, rsw, Value.category, List.filter, List.take, List.drop, List.reverse, List.reverseAux, List.cons_append, List.nil_append, Option.toList, Int.toNat, Int.reduceToNat, if_pos, if_neg, reduceIte, ↓reduceIte, Nat.reduceAdd, Nat.reduceEqDiff, Nat.reduceBEq, beq_self_eq_true, Bool.not_true, Bool.not_false, Bool.and_true, Bool.and_false, Bool.true_and, Bool.false_and, gI_sI, gI_sL, gI_sA, gI_sM, gL_sI, gL_sL, gL_sA, gL_sM, aI_sI, aI_sL, aI_sA, aI_sM, aL_sI, aL_sL, aL_sA, aL_sM, oi_0, oi_5]; try dsimp only
            intro p83
            refine ⟨trivial, fun w84 τ84 hq84 => ?_⟩
            obtain ⟨rfl, hz84⟩ := hq84 (show ¬ (5 : Int32) = 0 by decide)
            dsimp only [Option.toList, List.cons_append, List.nil_append, Nat.beq, gI_sI, gI_sL, gI_sA, gI_sM, gL_sI, gL_sL, gL_sA, gL_sM, aI_sI, aI_sL, aI_sA, aI_sM, aL_sI, aL_sL, aL_sA, aL_sM]
            exact hW _ 288 [(0, .ref 1000), (1, .int c), (2, .int t), (3, .int ((gI σ 69) - 1)), (4, .int r2), (5, .int 0), (6, .int ((aI σ 44) (r2).toNatClampNeg)), (7, .int ((aI σ 20) (c).toNatClampNeg))] _ _ _ (by simp [rdl, rky, Value.category]) ((bad (by unfold x9T; refine if_neg (fun q => ?_); obtain ⟨⟨q1, q2⟩, q3⟩ := q; first | omega | (rcases q3 with ⟨q4, q5⟩ | ⟨q4, q5, q6⟩; (first | omega | contradiction); (first | omega | contradiction))) _).2.2.2.2.2.2.2.2.2.2.2.2.2.2.2.2.2.2.2.2.2.2.2.2.2.2.2.2.2.2.2.1 c t ((gI σ 69) - 1) r2 0 ((aI σ 44) (r2).toNatClampNeg) ((aI σ 20) (c).toNatClampNeg) _ hz84)
    · have c4 : (r2).toInt < 0 := (cI (rfl : (r2).toInt = (r2).toInt) (rfl : (0 : Int32).toInt = 0)).2.1.mp (by first | exact h4 | exact Int32.not_lt.mp h4 | exact Int32.not_le.mp h4)
      refine hB _ _ _ _ _ (fun m85 hm85 => ?_)
      dsimp only [ugo, uwp, ust, uct, rfd, Bassign, Bassign_35, Nat.beq, lv_args, rlk, rs1, rs2, rdl, rky, rcd, rno, rsw, Value.category, List.filter, List.take, List.drop, List.reverse, List.reverseAux, List.cons_append, List.nil_append, Option.toList, Int.toNat, Int.reduceToNat, if_pos, if_neg, reduceIte, ↓reduceIte, Nat.reduceAdd, Nat.reduceEqDiff, Nat.reduceBEq, beq_self_eq_true, Bool.not_true, Bool.not_false, Bool.and_true, Bool.and_false, Bool.true_and, Bool.false_and, gI_sI, gI_sL, gI_sA, gI_sM, gL_sI, gL_sL, gL_sA, gL_sM, aI_sI, aI_sL, aI_sA, aI_sM, aL_sI, aL_sL, aL_sA, aL_sM, oi_3, oi_5]; try dsimp only
      refine ⟨trivial, fun w86 τ86 hq86 => ?_⟩
      obtain ⟨rfl, hz86⟩ := hq86 (show ¬ (3 : Int32) = 0 by decide)
      dsimp only [Option.toList, List.cons_append, List.nil_append, Nat.beq, gI_sI, gI_sL, gI_sA, gI_sM, gL_sI, gL_sL, gL_sA, gL_sM, aI_sI, aI_sL, aI_sA, aI_sM, aL_sI, aL_sL, aL_sA, aL_sM]
      intro p87
      refine ⟨fun h88 => ?_, fun h88 => ?_⟩
      · exact hW _ 62 [(0, .ref 1000), (1, .int c), (2, .int t), (3, .int ((gI σ 69) - 1)), (4, .int r2)] _ _ _ (by simp [rdl, rky, Value.category]) ((bad (by unfold x9T; refine if_neg (fun q => ?_); obtain ⟨⟨q1, q2⟩, q3⟩ := q; first | omega | (rcases q3 with ⟨q4, q5⟩ | ⟨q4, q5, q6⟩; (first | omega | contradiction); (first | omega | contradiction))) _).2.2.2.1 c t ((gI σ 69) - 1) r2 _ hz86)
      · exact hW _ 51 [(0, .ref 1000), (1, .int c), (2, .int t), (3, .int ((gI σ 69) - 1)), (4, .int r2)] _ _ _ (by simp [rdl, rky, Value.category]) ((bad (by unfold x9T; refine if_neg (fun q => ?_); obtain ⟨⟨q1, q2⟩, q3⟩ := q; first | omega | (rcases q3 with ⟨q4, q5⟩ | ⟨q4, q5, q6⟩; (first | omega | contradiction); (first | omega | contradiction))) _).2.2.1 c t ((gI σ 69) - 1) r2 _ hz86)
  next => exact hP.elim
theorem w_assignB : UMet 100 (fun _ _ => True) Qw_assignB := fun A1 σ _ w τ h C b t0 x hP => v_assignB C b t0 x A1 σ hP w τ h
def Pv_typeOfParam : UP1 := fun A1 σ => match A1 with
  | [.int m, .int i] => True
  | _ => False
def Qv_typeOfParam : UQ1 := fun A1 σ w τ => match A1 with
  | [.int m, .int i] => σ = τ ∧ ∃ r : Int32, w = some (.int r) ∧ r = (if m = 10 then 4 else aI σ 44 (aI σ 40 m.toNatClampNeg + i).toNatClampNeg)
  | _ => False
def Qw_typeOfParam : UQ1 := fun A1 σ w τ => Pv_typeOfParam A1 σ → Qv_typeOfParam A1 σ w τ
set_option maxRecDepth 100000 in
set_option maxHeartbeats 4000000 in
theorem v_typeOfParam : UMet 83 (Pv_typeOfParam) (Qv_typeOfParam) := by
  refine UMet.by BtypeOfParam [] rfl uc0 ?_
  intro A1 σ hP K hB hW
  unfold Pv_typeOfParam at hP
  split at hP
  next m i =>
    intro n0
    refine hB _ _ _ _ _ (fun m1 hm1 => ?_)
    dsimp only [ugo, uwp, ust, uct, rfd, BtypeOfParam, BtypeOfParam_0, Nat.beq, lv_args, rlk, rs1, rs2, rdl, rky, rcd, rno, rsw, Value.category, List.filter, List.take, List.drop, List.reverse, List.reverseAux, List.cons_append, List.nil_append, Option.toList, Int.toNat, Int.reduceToNat, if_pos, if_neg, reduceIte, ↓reduceIte, Nat.reduceAdd, Nat.reduceEqDiff, Nat.reduceBEq, beq_self_eq_true, Bool.not_true, Bool.not_false, Bool.and_true, Bool.and_false, Bool.true_and, Bool.false_and, gI_sI, gI_sL, gI_sA, gI_sM, gL_sI, gL_sL, gL_sA, gL_sM, aI_sI, aI_sL, aI_sA, aI_sM, aL_sI, aL_sL, aL_sA, aL_sM, oi_10]; try dsimp only
    refine ⟨fun h2 => ?_, fun h2 => ?_⟩
    · refine hB _ _ _ _ _ (fun m3 hm3 => ?_)
      dsimp only [ugo, uwp, ust, uct, rfd, BtypeOfParam, BtypeOfParam_10, Nat.beq, lv_args, rlk, rs1, rs2, rdl, rky, rcd, rno, rsw, Value.category, List.filter, List.take, List.drop, List.reverse, List.reverseAux, List.cons_append, List.nil_append, Option.toList, Int.toNat, Int.reduceToNat, if_pos, if_neg, reduceIte, ↓reduceIte, Nat.reduceAdd, Nat.reduceEqDiff, Nat.reduceBEq, beq_self_eq_true, Bool.not_true, Bool.not_false, Bool.and_true, Bool.and_false, Bool.true_and, Bool.false_and, gI_sI, gI_sL, gI_sA, gI_sM, gL_sI, gL_sL, gL_sA, gL_sM, aI_sI, aI_sL, aI_sA, aI_sM, aL_sI, aL_sL, aL_sA, aL_sM]; try dsimp only
      intro p4
      intro p5
      refine hB _ _ _ _ _ (fun m6 hm6 => ?_)
      dsimp only [ugo, uwp, ust, uct, rfd, BtypeOfParam, BtypeOfParam_23, Nat.beq, lv_args, rlk, rs1, rs2, rdl, rky, rcd, rno, rsw, Value.category, List.filter, List.take, List.drop, List.reverse, List.reverseAux, List.cons_append, List.nil_append, Option.toList, Int.toNat, Int.reduceToNat, if_pos, if_neg, reduceIte, ↓reduceIte, Nat.reduceAdd, Nat.reduceEqDiff, Nat.reduceBEq, beq_self_eq_true, Bool.not_true, Bool.not_false, Bool.and_true, Bool.and_false, Bool.true_and, Bool.false_and, gI_sI, gI_sL, gI_sA, gI_sM, gL_sI, gL_sL, gL_sA, gL_sM, aI_sI, aI_sL, aI_sA, aI_sM, aL_sI, aL_sL, aL_sA, aL_sM]; try dsimp only
      unfold Qv_typeOfParam
      try dsimp only
      refine ⟨rfl, _, rfl, ?_⟩
      repeat first | rfl | rw [if_pos (by assumption)] | rw [if_neg (by assumption)]
    · refine hB _ _ _ _ _ (fun m7 hm7 => ?_)
      dsimp only [ugo, uwp, ust, uct, rfd, BtypeOfParam, BtypeOfParam_6, Nat.beq, lv_args, rlk, rs1, rs2, rdl, rky, rcd, rno, rsw, Value.category, List.filter, List.take, List.drop, List.reverse, List.reverseAux, List.cons_append, List.nil_append, Option.toList, Int.toNat, Int.reduceToNat, if_pos, if_neg, reduceIte, ↓reduceIte, Nat.reduceAdd, Nat.reduceEqDiff, Nat.reduceBEq, beq_self_eq_true, Bool.not_true, Bool.not_false, Bool.and_true, Bool.and_false, Bool.true_and, Bool.false_and, gI_sI, gI_sL, gI_sA, gI_sM, gL_sI, gL_sL, gL_sA, gL_sM, aI_sI, aI_sL, aI_sA, aI_sM, aL_sI, aL_sL, aL_sA, aL_sM, oi_4]; try dsimp only
      refine hB _ _ _ _ _ (fun m8 hm8 => ?_)
      dsimp only [ugo, uwp, ust, uct, rfd, BtypeOfParam, BtypeOfParam_23, Nat.beq, lv_args, rlk, rs1, rs2, rdl, rky, rcd, rno, rsw, Value.category, List.filter, List.take, List.drop, List.reverse, List.reverseAux, List.cons_append, List.nil_append, Option.toList, Int.toNat, Int.reduceToNat, if_pos, if_neg, reduceIte, ↓reduceIte, Nat.reduceAdd, Nat.reduceEqDiff, Nat.reduceBEq, beq_self_eq_true, Bool.not_true, Bool.not_false, Bool.and_true, Bool.and_false, Bool.true_and, Bool.false_and, gI_sI, gI_sL, gI_sA, gI_sM, gL_sI, gL_sL, gL_sA, gL_sM, aI_sI, aI_sL, aI_sA, aI_sM, aL_sI, aL_sL, aL_sA, aL_sM]; try dsimp only
      unfold Qv_typeOfParam
      try dsimp only
      refine ⟨rfl, _, rfl, ?_⟩
      repeat first | rfl | rw [if_pos (by assumption)] | rw [if_neg (by assumption)]
  next => exact hP.elim
theorem w_typeOfParam : UMet 83 (fun _ _ => True) Qw_typeOfParam := fun A1 σ _ w τ h hP => v_typeOfParam A1 σ hP w τ h
def Pv_paramsOf : UP1 := fun A1 σ => match A1 with
  | [.int m] => True
  | _ => False
def Qv_paramsOf : UQ1 := fun A1 σ w τ => match A1 with
  | [.int m] => σ = τ ∧ ∃ r : Int32, w = some (.int r) ∧ r = (if m = 10 then 1 else if m = 11 then 0 else aI σ 39 m.toNatClampNeg)
  | _ => False
def Qw_paramsOf : UQ1 := fun A1 σ w τ => Pv_paramsOf A1 σ → Qv_paramsOf A1 σ w τ
set_option maxRecDepth 100000 in
set_option maxHeartbeats 4000000 in
theorem v_paramsOf : UMet 84 (Pv_paramsOf) (Qv_paramsOf) := by
  refine UMet.by BparamsOf [] rfl uc0 ?_
  intro A1 σ hP K hB hW
  unfold Pv_paramsOf at hP
  split at hP
  next m =>
    intro n0
    refine hB _ _ _ _ _ (fun m1 hm1 => ?_)
    dsimp only [ugo, uwp, ust, uct, rfd, BparamsOf, BparamsOf_0, Nat.beq, lv_args, rlk, rs1, rs2, rdl, rky, rcd, rno, rsw, Value.category, List.filter, List.take, List.drop, List.reverse, List.reverseAux, List.cons_append, List.nil_append, Option.toList, Int.toNat, Int.reduceToNat, if_pos, if_neg, reduceIte, ↓reduceIte, Nat.reduceAdd, Nat.reduceEqDiff, Nat.reduceBEq, beq_self_eq_true, Bool.not_true, Bool.not_false, Bool.and_true, Bool.and_false, Bool.true_and, Bool.false_and, gI_sI, gI_sL, gI_sA, gI_sM, gL_sI, gL_sL, gL_sA, gL_sM, aI_sI, aI_sL, aI_sA, aI_sM, aL_sI, aL_sL, aL_sA, aL_sM, oi_10]; try dsimp only
    refine ⟨fun h2 => ?_, fun h2 => ?_⟩
    · refine hB _ _ _ _ _ (fun m3 hm3 => ?_)
      dsimp only [ugo, uwp, ust, uct, rfd, BparamsOf, BparamsOf_10, Nat.beq, lv_args, rlk, rs1, rs2, rdl, rky, rcd, rno, rsw, Value.category, List.filter, List.take, List.drop, List.reverse, List.reverseAux, List.cons_append, List.nil_append, Option.toList, Int.toNat, Int.reduceToNat, if_pos, if_neg, reduceIte, ↓reduceIte, Nat.reduceAdd, Nat.reduceEqDiff, Nat.reduceBEq, beq_self_eq_true, Bool.not_true, Bool.not_false, Bool.and_true, Bool.and_false, Bool.true_and, Bool.false_and, gI_sI, gI_sL, gI_sA, gI_sM, gL_sI, gL_sL, gL_sA, gL_sM, aI_sI, aI_sL, aI_sA, aI_sM, aL_sI, aL_sL, aL_sA, aL_sM, oi_11]; try dsimp only
      refine ⟨fun h4 => ?_, fun h4 => ?_⟩
      · refine hB _ _ _ _ _ (fun m5 hm5 => ?_)
        dsimp only [ugo, uwp, ust, uct, rfd, BparamsOf, BparamsOf_20, Nat.beq, lv_args, rlk, rs1, rs2, rdl, rky, rcd, rno, rsw, Value.category, List.filter, List.take, List.drop, List.reverse, List.reverseAux, List.cons_append, List.nil_append, Option.toList, Int.toNat, Int.reduceToNat, if_pos, if_neg, reduceIte, ↓reduceIte, Nat.reduceAdd, Nat.reduceEqDiff, Nat.reduceBEq, beq_self_eq_true, Bool.not_true, Bool.not_false, Bool.and_true, Bool.and_false, Bool.true_and, Bool.false_and, gI_sI, gI_sL, gI_sA, gI_sM, gL_sI, gL_sL, gL_sA, gL_sM, aI_sI, aI_sL, aI_sA, aI_sM, aL_sI, aL_sL, aL_sA, aL_sM]; try dsimp only
        intro p6
        refine hB _ _ _ _ _ (fun m7 hm7 => ?_)
        dsimp only [ugo, uwp, ust, uct, rfd, BparamsOf, BparamsOf_26, Nat.beq, lv_args, rlk, rs1, rs2, rdl, rky, rcd, rno, rsw, Value.category, List.filter, List.take, List.drop, List.reverse, List.reverseAux, List.cons_append, List.nil_append, Option.toList, Int.toNat, Int.reduceToNat, if_pos, if_neg, reduceIte, ↓reduceIte, Nat.reduceAdd, Nat.reduceEqDiff, Nat.reduceBEq, beq_self_eq_true, Bool.not_true, Bool.not_false, Bool.and_true, Bool.and_false, Bool.true_and, Bool.false_and, gI_sI, gI_sL, gI_sA, gI_sM, gL_sI, gL_sL, gL_sA, gL_sM, aI_sI, aI_sL, aI_sA, aI_sM, aL_sI, aL_sL, aL_sA, aL_sM]; try dsimp only
        unfold Qv_paramsOf
        try dsimp only
        refine ⟨rfl, _, rfl, ?_⟩
        repeat first | rfl | rw [if_pos (by assumption)] | rw [if_neg (by assumption)]
      · refine hB _ _ _ _ _ (fun m8 hm8 => ?_)
        dsimp only [ugo, uwp, ust, uct, rfd, BparamsOf, BparamsOf_16, Nat.beq, lv_args, rlk, rs1, rs2, rdl, rky, rcd, rno, rsw, Value.category, List.filter, List.take, List.drop, List.reverse, List.reverseAux, List.cons_append, List.nil_append, Option.toList, Int.toNat, Int.reduceToNat, if_pos, if_neg, reduceIte, ↓reduceIte, Nat.reduceAdd, Nat.reduceEqDiff, Nat.reduceBEq, beq_self_eq_true, Bool.not_true, Bool.not_false, Bool.and_true, Bool.and_false, Bool.true_and, Bool.false_and, gI_sI, gI_sL, gI_sA, gI_sM, gL_sI, gL_sL, gL_sA, gL_sM, aI_sI, aI_sL, aI_sA, aI_sM, aL_sI, aL_sL, aL_sA, aL_sM, oi_0]; try dsimp only
        refine hB _ _ _ _ _ (fun m9 hm9 => ?_)
        dsimp only [ugo, uwp, ust, uct, rfd, BparamsOf, BparamsOf_26, Nat.beq, lv_args, rlk, rs1, rs2, rdl, rky, rcd, rno, rsw, Value.category, List.filter, List.take, List.drop, List.reverse, List.reverseAux, List.cons_append, List.nil_append, Option.toList, Int.toNat, Int.reduceToNat, if_pos, if_neg, reduceIte, ↓reduceIte, Nat.reduceAdd, Nat.reduceEqDiff, Nat.reduceBEq, beq_self_eq_true, Bool.not_true, Bool.not_false, Bool.and_true, Bool.and_false, Bool.true_and, Bool.false_and, gI_sI, gI_sL, gI_sA, gI_sM, gL_sI, gL_sL, gL_sA, gL_sM, aI_sI, aI_sL, aI_sA, aI_sM, aL_sI, aL_sL, aL_sA, aL_sM]; try dsimp only
        unfold Qv_paramsOf
        try dsimp only
        refine ⟨rfl, _, rfl, ?_⟩
        repeat first | rfl | rw [if_pos (by assumption)] | rw [if_neg (by assumption)]
    · refine hB _ _ _ _ _ (fun m10 hm10 => ?_)
      dsimp only [ugo, uwp, ust, uct, rfd, BparamsOf, BparamsOf_6, Nat.beq, lv_args, rlk, rs1, rs2, rdl, rky, rcd, rno, rsw, Value.category, List.filter, List.take, List.drop, List.reverse, List.reverseAux, List.cons_append, List.nil_append, Option.toList, Int.toNat, Int.reduceToNat, if_pos, if_neg, reduceIte, ↓reduceIte, Nat.reduceAdd, Nat.reduceEqDiff, Nat.reduceBEq, beq_self_eq_true, Bool.not_true, Bool.not_false, Bool.and_true, Bool.and_false, Bool.true_and, Bool.false_and, gI_sI, gI_sL, gI_sA, gI_sM, gL_sI, gL_sL, gL_sA, gL_sM, aI_sI, aI_sL, aI_sA, aI_sM, aL_sI, aL_sL, aL_sA, aL_sM, oi_1]; try dsimp only
      refine hB _ _ _ _ _ (fun m11 hm11 => ?_)
      dsimp only [ugo, uwp, ust, uct, rfd, BparamsOf, BparamsOf_26, Nat.beq, lv_args, rlk, rs1, rs2, rdl, rky, rcd, rno, rsw, Value.category, List.filter, List.take, List.drop, List.reverse, List.reverseAux, List.cons_append, List.nil_append, Option.toList, Int.toNat, Int.reduceToNat, if_pos, if_neg, reduceIte, ↓reduceIte, Nat.reduceAdd, Nat.reduceEqDiff, Nat.reduceBEq, beq_self_eq_true, Bool.not_true, Bool.not_false, Bool.and_true, Bool.and_false, Bool.true_and, Bool.false_and, gI_sI, gI_sL, gI_sA, gI_sM, gL_sI, gL_sL, gL_sA, gL_sM, aI_sI, aI_sL, aI_sA, aI_sM, aL_sI, aL_sL, aL_sA, aL_sM]; try dsimp only
      unfold Qv_paramsOf
      try dsimp only
      refine ⟨rfl, _, rfl, ?_⟩
      repeat first | rfl | rw [if_pos (by assumption)] | rw [if_neg (by assumption)]
  next => exact hP.elim
theorem w_paramsOf : UMet 84 (fun _ _ => True) Qw_paramsOf := fun A1 σ _ w τ h hP => v_paramsOf A1 σ hP w τ h
def Pv_resultOf : UP1 := fun A1 σ => match A1 with
  | [.int m] => True
  | _ => False
def Qv_resultOf : UQ1 := fun A1 σ w τ => match A1 with
  | [.int m] => σ = τ ∧ ∃ r : Int32, w = some (.int r) ∧ r = (if m = 10 then 5 else if m = 11 then 3 else aI σ 38 m.toNatClampNeg)
  | _ => False
def Qw_resultOf : UQ1 := fun A1 σ w τ => Pv_resultOf A1 σ → Qv_resultOf A1 σ w τ
set_option maxRecDepth 100000 in
set_option maxHeartbeats 4000000 in
theorem v_resultOf : UMet 85 (Pv_resultOf) (Qv_resultOf) := by
  refine UMet.by BresultOf [] rfl uc0 ?_
  intro A1 σ hP K hB hW
  unfold Pv_resultOf at hP
  split at hP
  next m =>
    intro n0
    refine hB _ _ _ _ _ (fun m1 hm1 => ?_)
    dsimp only [ugo, uwp, ust, uct, rfd, BresultOf, BresultOf_0, Nat.beq, lv_args, rlk, rs1, rs2, rdl, rky, rcd, rno, rsw, Value.category, List.filter, List.take, List.drop, List.reverse, List.reverseAux, List.cons_append, List.nil_append, Option.toList, Int.toNat, Int.reduceToNat, if_pos, if_neg, reduceIte, ↓reduceIte, Nat.reduceAdd, Nat.reduceEqDiff, Nat.reduceBEq, beq_self_eq_true, Bool.not_true, Bool.not_false, Bool.and_true, Bool.and_false, Bool.true_and, Bool.false_and, gI_sI, gI_sL, gI_sA, gI_sM, gL_sI, gL_sL, gL_sA, gL_sM, aI_sI, aI_sL, aI_sA, aI_sM, aL_sI, aL_sL, aL_sA, aL_sM, oi_10]; try dsimp only
    refine ⟨fun h2 => ?_, fun h2 => ?_⟩
    · refine hB _ _ _ _ _ (fun m3 hm3 => ?_)
      dsimp only [ugo, uwp, ust, uct, rfd, BresultOf, BresultOf_10, Nat.beq, lv_args, rlk, rs1, rs2, rdl, rky, rcd, rno, rsw, Value.category, List.filter, List.take, List.drop, List.reverse, List.reverseAux, List.cons_append, List.nil_append, Option.toList, Int.toNat, Int.reduceToNat, if_pos, if_neg, reduceIte, ↓reduceIte, Nat.reduceAdd, Nat.reduceEqDiff, Nat.reduceBEq, beq_self_eq_true, Bool.not_true, Bool.not_false, Bool.and_true, Bool.and_false, Bool.true_and, Bool.false_and, gI_sI, gI_sL, gI_sA, gI_sM, gL_sI, gL_sL, gL_sA, gL_sM, aI_sI, aI_sL, aI_sA, aI_sM, aL_sI, aL_sL, aL_sA, aL_sM, oi_11]; try dsimp only
      refine ⟨fun h4 => ?_, fun h4 => ?_⟩
      · refine hB _ _ _ _ _ (fun m5 hm5 => ?_)
        dsimp only [ugo, uwp, ust, uct, rfd, BresultOf, BresultOf_20, Nat.beq, lv_args, rlk, rs1, rs2, rdl, rky, rcd, rno, rsw, Value.category, List.filter, List.take, List.drop, List.reverse, List.reverseAux, List.cons_append, List.nil_append, Option.toList, Int.toNat, Int.reduceToNat, if_pos, if_neg, reduceIte, ↓reduceIte, Nat.reduceAdd, Nat.reduceEqDiff, Nat.reduceBEq, beq_self_eq_true, Bool.not_true, Bool.not_false, Bool.and_true, Bool.and_false, Bool.true_and, Bool.false_and, gI_sI, gI_sL, gI_sA, gI_sM, gL_sI, gL_sL, gL_sA, gL_sM, aI_sI, aI_sL, aI_sA, aI_sM, aL_sI, aL_sL, aL_sA, aL_sM]; try dsimp only
        intro p6
        refine hB _ _ _ _ _ (fun m7 hm7 => ?_)
        dsimp only [ugo, uwp, ust, uct, rfd, BresultOf, BresultOf_26, Nat.beq, lv_args, rlk, rs1, rs2, rdl, rky, rcd, rno, rsw, Value.category, List.filter, List.take, List.drop, List.reverse, List.reverseAux, List.cons_append, List.nil_append, Option.toList, Int.toNat, Int.reduceToNat, if_pos, if_neg, reduceIte, ↓reduceIte, Nat.reduceAdd, Nat.reduceEqDiff, Nat.reduceBEq, beq_self_eq_true, Bool.not_true, Bool.not_false, Bool.and_true, Bool.and_false, Bool.true_and, Bool.false_and, gI_sI, gI_sL, gI_sA, gI_sM, gL_sI, gL_sL, gL_sA, gL_sM, aI_sI, aI_sL, aI_sA, aI_sM, aL_sI, aL_sL, aL_sA, aL_sM]; try dsimp only
        unfold Qv_resultOf
        try dsimp only
        refine ⟨rfl, _, rfl, ?_⟩
        repeat first | rfl | rw [if_pos (by assumption)] | rw [if_neg (by assumption)]
      · refine hB _ _ _ _ _ (fun m8 hm8 => ?_)
        dsimp only [ugo, uwp, ust, uct, rfd, BresultOf, BresultOf_16, Nat.beq, lv_args, rlk, rs1, rs2, rdl, rky, rcd, rno, rsw, Value.category, List.filter, List.take, List.drop, List.reverse, List.reverseAux, List.cons_append, List.nil_append, Option.toList, Int.toNat, Int.reduceToNat, if_pos, if_neg, reduceIte, ↓reduceIte, Nat.reduceAdd, Nat.reduceEqDiff, Nat.reduceBEq, beq_self_eq_true, Bool.not_true, Bool.not_false, Bool.and_true, Bool.and_false, Bool.true_and, Bool.false_and, gI_sI, gI_sL, gI_sA, gI_sM, gL_sI, gL_sL, gL_sA, gL_sM, aI_sI, aI_sL, aI_sA, aI_sM, aL_sI, aL_sL, aL_sA, aL_sM, oi_3]; try dsimp only
        refine hB _ _ _ _ _ (fun m9 hm9 => ?_)
        dsimp only [ugo, uwp, ust, uct, rfd, BresultOf, BresultOf_26, Nat.beq, lv_args, rlk, rs1, rs2, rdl, rky, rcd, rno, rsw, Value.category, List.filter, List.take, List.drop, List.reverse, List.reverseAux, List.cons_append, List.nil_append, Option.toList, Int.toNat, Int.reduceToNat, if_pos, if_neg, reduceIte, ↓reduceIte, Nat.reduceAdd, Nat.reduceEqDiff, Nat.reduceBEq, beq_self_eq_true, Bool.not_true, Bool.not_false, Bool.and_true, Bool.and_false, Bool.true_and, Bool.false_and, gI_sI, gI_sL, gI_sA, gI_sM, gL_sI, gL_sL, gL_sA, gL_sM, aI_sI, aI_sL, aI_sA, aI_sM, aL_sI, aL_sL, aL_sA, aL_sM]; try dsimp only
        unfold Qv_resultOf
        try dsimp only
        refine ⟨rfl, _, rfl, ?_⟩
        repeat first | rfl | rw [if_pos (by assumption)] | rw [if_neg (by assumption)]
    · refine hB _ _ _ _ _ (fun m10 hm10 => ?_)
      dsimp only [ugo, uwp, ust, uct, rfd, BresultOf, BresultOf_6, Nat.beq, lv_args, rlk, rs1, rs2, rdl, rky, rcd, rno, rsw, Value.category, List.filter, List.take, List.drop, List.reverse, List.reverseAux, List.cons_append, List.nil_append, Option.toList, Int.toNat, Int.reduceToNat, if_pos, if_neg, reduceIte, ↓reduceIte, Nat.reduceAdd, Nat.reduceEqDiff, Nat.reduceBEq, beq_self_eq_true, Bool.not_true, Bool.not_false, Bool.and_true, Bool.and_false, Bool.true_and, Bool.false_and, gI_sI, gI_sL, gI_sA, gI_sM, gL_sI, gL_sL, gL_sA, gL_sM, aI_sI, aI_sL, aI_sA, aI_sM, aL_sI, aL_sL, aL_sA, aL_sM, oi_5]; try dsimp only
      refine hB _ _ _ _ _ (fun m11 hm11 => ?_)
      dsimp only [ugo, uwp, ust, uct, rfd, BresultOf, BresultOf_26, Nat.beq, lv_args, rlk, rs1, rs2, rdl, rky, rcd, rno, rsw, Value.category, List.filter, List.take, List.drop, List.reverse, List.reverseAux, List.cons_append, List.nil_append, Option.toList, Int.toNat, Int.reduceToNat, if_pos, if_neg, reduceIte, ↓reduceIte, Nat.reduceAdd, Nat.reduceEqDiff, Nat.reduceBEq, beq_self_eq_true, Bool.not_true, Bool.not_false, Bool.and_true, Bool.and_false, Bool.true_and, Bool.false_and, gI_sI, gI_sL, gI_sA, gI_sM, gL_sI, gL_sL, gL_sA, gL_sM, aI_sI, aI_sL, aI_sA, aI_sM, aL_sI, aL_sL, aL_sA, aL_sM]; try dsimp only
      unfold Qv_resultOf
      try dsimp only
      refine ⟨rfl, _, rfl, ?_⟩
      repeat first | rfl | rw [if_pos (by assumption)] | rw [if_neg (by assumption)]
  next => exact hP.elim
theorem w_resultOf : UMet 85 (fun _ _ => True) Qw_resultOf := fun A1 σ _ w τ h hP => v_resultOf A1 σ hP w τ h
def Pv_isMethod : UP1 := fun A1 σ => match A1 with
  | [.int m] => True
  | _ => False
def Qv_isMethod : UQ1 := fun A1 σ w τ => match A1 with
  | [.int m] => σ = τ ∧ ∃ b : Int32, w = some (.int b) ∧ (¬ b = 0 ↔ (m.toInt < (gI σ 36).toInt ∨ 10 ≤ m.toInt))
  | _ => False
def Qw_isMethod : UQ1 := fun A1 σ w τ => Pv_isMethod A1 σ → Qv_isMethod A1 σ w τ
set_option maxRecDepth 100000 in
set_option maxHeartbeats 4000000 in
theorem v_isMethod : UMet 103 (Pv_isMethod) (Qv_isMethod) := by
  refine UMet.by BisMethod [] rfl uc0 ?_
  intro A1 σ hP K hB hW
  unfold Pv_isMethod at hP
  split at hP
  next m =>
    intro n0
    refine hB _ _ _ _ _ (fun m1 hm1 => ?_)
    dsimp only [ugo, uwp, ust, uct, rfd, BisMethod, BisMethod_0, Nat.beq, lv_args, rlk, rs1, rs2, rdl, rky, rcd, rno, rsw, Value.category, List.filter, List.take, List.drop, List.reverse, List.reverseAux, List.cons_append, List.nil_append, Option.toList, Int.toNat, Int.reduceToNat, if_pos, if_neg, reduceIte, ↓reduceIte, Nat.reduceAdd, Nat.reduceEqDiff, Nat.reduceBEq, beq_self_eq_true, Bool.not_true, Bool.not_false, Bool.and_true, Bool.and_false, Bool.true_and, Bool.false_and, gI_sI, gI_sL, gI_sA, gI_sM, gL_sI, gL_sL, gL_sA, gL_sM, aI_sI, aI_sL, aI_sA, aI_sM, aL_sI, aL_sL, aL_sA, aL_sM]; try dsimp only
    refine ⟨fun h2 => ?_, fun h2 => ?_⟩
    · have c2 : (m).toInt < (gI σ 36).toInt := (cI (rfl : (m).toInt = (m).toInt) (rfl : (gI σ 36).toInt = (gI σ 36).toInt)).2.1.mp h2
      refine hB _ _ _ _ _ (fun m3 hm3 => ?_)
      dsimp only [ugo, uwp, ust, uct, rfd, BisMethod, BisMethod_14, Nat.beq, lv_args, rlk, rs1, rs2, rdl, rky, rcd, rno, rsw, Value.category, List.filter, List.take, List.drop, List.reverse, List.reverseAux, List.cons_append, List.nil_append, Option.toList, Int.toNat, Int.reduceToNat, if_pos, if_neg, reduceIte, ↓reduceIte, Nat.reduceAdd, Nat.reduceEqDiff, Nat.reduceBEq, beq_self_eq_true, Bool.not_true, Bool.not_false, Bool.and_true, Bool.and_false, Bool.true_and, Bool.false_and, gI_sI, gI_sL, gI_sA, gI_sM, gL_sI, gL_sL, gL_sA, gL_sM, aI_sI, aI_sL, aI_sA, aI_sM, aL_sI, aL_sL, aL_sA, aL_sM, oi_1]; try dsimp only
      refine hB _ _ _ _ _ (fun m4 hm4 => ?_)
      dsimp only [ugo, uwp, ust, uct, rfd, BisMethod, BisMethod_19, Nat.beq, lv_args, rlk, rs1, rs2, rdl, rky, rcd, rno, rsw, Value.category, List.filter, List.take, List.drop, List.reverse, List.reverseAux, List.cons_append, List.nil_append, Option.toList, Int.toNat, Int.reduceToNat, if_pos, if_neg, reduceIte, ↓reduceIte, Nat.reduceAdd, Nat.reduceEqDiff, Nat.reduceBEq, beq_self_eq_true, Bool.not_true, Bool.not_false, Bool.and_true, Bool.and_false, Bool.true_and, Bool.false_and, gI_sI, gI_sL, gI_sA, gI_sM, gL_sI, gL_sL, gL_sA, gL_sM, aI_sI, aI_sL, aI_sA, aI_sM, aL_sI, aL_sL, aL_sA, aL_sM]; try dsimp only
      unfold Qv_isMethod
      try dsimp only
      exact ⟨rfl, 1, rfl, b01 (by omega)⟩
    · have c2 : (gI σ 36).toInt ≤ (m).toInt := (cI (rfl : (m).toInt = (m).toInt) (rfl : (gI σ 36).toInt = (gI σ 36).toInt)).2.2.2.2.mp (by first | exact h2 | exact Int32.not_lt.mp h2 | exact Int32.not_le.mp h2)
      refine hB _ _ _ _ _ (fun m5 hm5 => ?_)
      dsimp only [ugo, uwp, ust, uct, rfd, BisMethod, BisMethod_8, Nat.beq, lv_args, rlk, rs1, rs2, rdl, rky, rcd, rno, rsw, Value.category, List.filter, List.take, List.drop, List.reverse, List.reverseAux, List.cons_append, List.nil_append, Option.toList, Int.toNat, Int.reduceToNat, if_pos, if_neg, reduceIte, ↓reduceIte, Nat.reduceAdd, Nat.reduceEqDiff, Nat.reduceBEq, beq_self_eq_true, Bool.not_true, Bool.not_false, Bool.and_true, Bool.and_false, Bool.true_and, Bool.false_and, gI_sI, gI_sL, gI_sA, gI_sM, gL_sI, gL_sL, gL_sA, gL_sM, aI_sI, aI_sL, aI_sA, aI_sM, aL_sI, aL_sL, aL_sA, aL_sM, oi_10]; try dsimp only
      refine ⟨fun h6 => ?_, fun h6 => ?_⟩
      · have c6 : (m).toInt < 10 := (cI (rfl : (m).toInt = (m).toInt) (rfl : (10 : Int32).toInt = 10)).2.1.mp h6
        refine hB _ _ _ _ _ (fun m7 hm7 => ?_)
        dsimp only [ugo, uwp, ust, uct, rfd, BisMethod, BisMethod_18, Nat.beq, lv_args, rlk, rs1, rs2, rdl, rky, rcd, rno, rsw, Value.category, List.filter, List.take, List.drop, List.reverse, List.reverseAux, List.cons_append, List.nil_append, Option.toList, Int.toNat, Int.reduceToNat, if_pos, if_neg, reduceIte, ↓reduceIte, Nat.reduceAdd, Nat.reduceEqDiff, Nat.reduceBEq, beq_self_eq_true, Bool.not_true, Bool.not_false, Bool.and_true, Bool.and_false, Bool.true_and, Bool.false_and, gI_sI, gI_sL, gI_sA, gI_sM, gL_sI, gL_sL, gL_sA, gL_sM, aI_sI, aI_sL, aI_sA, aI_sM, aL_sI, aL_sL, aL_sA, aL_sM, oi_0]; try dsimp only
        refine hB _ _ _ _ _ (fun m8 hm8 => ?_)
        dsimp only [ugo, uwp, ust, uct, rfd, BisMethod, BisMethod_19, Nat.beq, lv_args, rlk, rs1, rs2, rdl, rky, rcd, rno, rsw, Value.category, List.filter, List.take, List.drop, List.reverse, List.reverseAux, List.cons_append, List.nil_append, Option.toList, Int.toNat, Int.reduceToNat, if_pos, if_neg, reduceIte, ↓reduceIte, Nat.reduceAdd, Nat.reduceEqDiff, Nat.reduceBEq, beq_self_eq_true, Bool.not_true, Bool.not_false, Bool.and_true, Bool.and_false, Bool.true_and, Bool.false_and, gI_sI, gI_sL, gI_sA, gI_sM, gL_sI, gL_sL, gL_sA, gL_sM, aI_sI, aI_sL, aI_sA, aI_sM, aL_sI, aL_sL, aL_sA, aL_sM]; try dsimp only
        unfold Qv_isMethod
        try dsimp only
        exact ⟨rfl, 0, rfl, b00 (by omega)⟩
      · have c6 : 10 ≤ (m).toInt := (cI (rfl : (m).toInt = (m).toInt) (rfl : (10 : Int32).toInt = 10)).2.2.2.2.mp (by first | exact h6 | exact Int32.not_lt.mp h6 | exact Int32.not_le.mp h6)
        refine hB _ _ _ _ _ (fun m9 hm9 => ?_)
        dsimp only [ugo, uwp, ust, uct, rfd, BisMethod, BisMethod_14, Nat.beq, lv_args, rlk, rs1, rs2, rdl, rky, rcd, rno, rsw, Value.category, List.filter, List.take, List.drop, List.reverse, List.reverseAux, List.cons_append, List.nil_append, Option.toList, Int.toNat, Int.reduceToNat, if_pos, if_neg, reduceIte, ↓reduceIte, Nat.reduceAdd, Nat.reduceEqDiff, Nat.reduceBEq, beq_self_eq_true, Bool.not_true, Bool.not_false, Bool.and_true, Bool.and_false, Bool.true_and, Bool.false_and, gI_sI, gI_sL, gI_sA, gI_sM, gL_sI, gL_sL, gL_sA, gL_sM, aI_sI, aI_sL, aI_sA, aI_sM, aL_sI, aL_sL, aL_sA, aL_sM, oi_1]; try dsimp only
        refine hB _ _ _ _ _ (fun m10 hm10 => ?_)
        dsimp only [ugo, uwp, ust, uct, rfd, BisMethod, BisMethod_19, Nat.beq, lv_args, rlk, rs1, rs2, rdl, rky, rcd, rno, rsw, Value.category, List.filter, List.take, List.drop, List.reverse, List.reverseAux, List.cons_append, List.nil_append, Option.toList, Int.toNat, Int.reduceToNat, if_pos, if_neg, reduceIte, ↓reduceIte, Nat.reduceAdd, Nat.reduceEqDiff, Nat.reduceBEq, beq_self_eq_true, Bool.not_true, Bool.not_false, Bool.and_true, Bool.and_false, Bool.true_and, Bool.false_and, gI_sI, gI_sL, gI_sA, gI_sM, gL_sI, gL_sL, gL_sA, gL_sM, aI_sI, aI_sL, aI_sA, aI_sM, aL_sI, aL_sL, aL_sA, aL_sM]; try dsimp only
        unfold Qv_isMethod
        try dsimp only
        exact ⟨rfl, 1, rfl, b01 (by omega)⟩
  next => exact hP.elim
theorem w_isMethod : UMet 103 (fun _ _ => True) Qw_isMethod := fun A1 σ _ w τ h hP => v_isMethod A1 σ hP w τ h
def Pv_isNamed : UP1 := fun A1 σ => match A1 with
  | [.int m, .int t] => True
  | _ => False
def Qv_isNamed : UQ1 := fun A1 σ w τ => match A1 with
  | [.int m, .int t] => σ = τ ∧ ∃ b : Int32, w = some (.int b) ∧ (¬ b = 0 ↔ nmR σ m t.toNatClampNeg)
  | _ => False
def Qw_isNamed : UQ1 := fun A1 σ w τ => Pv_isNamed A1 σ → Qv_isNamed A1 σ w τ
set_option maxRecDepth 100000 in
set_option maxHeartbeats 4000000 in
theorem v_isNamed : UMet 86 (Pv_isNamed) (Qv_isNamed) := by
  refine UMet.by BisNamed [(63, (fun _ _ => True), Qw_sameNameZ)] rfl (ucc w_sameNameZ uc0) ?_
  intro A1 σ hP K hB hW
  unfold Pv_isNamed at hP
  split at hP
  next m t =>
    intro n0
    refine hB _ _ _ _ _ (fun m1 hm1 => ?_)
    dsimp only [ugo, uwp, ust, uct, rfd, BisNamed, BisNamed_0, Nat.beq, lv_args, rlk, rs1, rs2, rdl, rky, rcd, rno, rsw, Value.category, List.filter, List.take, List.drop, List.reverse, List.reverseAux, List.cons_append, List.nil_append, Option.toList, Int.toNat, Int.reduceToNat, if_pos, if_neg, reduceIte, ↓reduceIte, Nat.reduceAdd, Nat.reduceEqDiff, Nat.reduceBEq, beq_self_eq_true, Bool.not_true, Bool.not_false, Bool.and_true, Bool.and_false, Bool.true_and, Bool.false_and, gI_sI, gI_sL, gI_sA, gI_sM, gL_sI, gL_sL, gL_sA, gL_sM, aI_sI, aI_sL, aI_sA, aI_sM, aL_sI, aL_sL, aL_sA, aL_sM, oi_10]; try dsimp only
    refine ⟨fun h2 => ?_, fun h2 => ?_⟩
    · refine hB _ _ _ _ _ (fun m3 hm3 => ?_)
      dsimp only [ugo, uwp, ust, uct, rfd, BisNamed, BisNamed_18, Nat.beq, lv_args, rlk, rs1, rs2, rdl, rky, rcd, rno, rsw, Value.category, List.filter, List.take, List.drop, List.reverse, List.reverseAux, List.cons_append, List.nil_append, Option.toList, Int.toNat, Int.reduceToNat, if_pos, if_neg, reduceIte, ↓reduceIte, Nat.reduceAdd, Nat.reduceEqDiff, Nat.reduceBEq, beq_self_eq_true, Bool.not_true, Bool.not_false, Bool.and_true, Bool.and_false, Bool.true_and, Bool.false_and, gI_sI, gI_sL, gI_sA, gI_sM, gL_sI, gL_sL, gL_sA, gL_sM, aI_sI, aI_sL, aI_sA, aI_sM, aL_sI, aL_sL, aL_sA, aL_sM, oi_10]; try dsimp only
      refine ⟨fun h4 => ?_, fun h4 => ?_⟩
      · refine hB _ _ _ _ _ (fun m5 hm5 => ?_)
        dsimp only [ugo, uwp, ust, uct, rfd, BisNamed, BisNamed_30, Nat.beq, lv_args, rlk, rs1, rs2, rdl, rky, rcd, rno, rsw, Value.category, List.filter, List.take, List.drop, List.reverse, List.reverseAux, List.cons_append, List.nil_append, Option.toList, Int.toNat, Int.reduceToNat, if_pos, if_neg, reduceIte, ↓reduceIte, Nat.reduceAdd, Nat.reduceEqDiff, Nat.reduceBEq, beq_self_eq_true, Bool.not_true, Bool.not_false, Bool.and_true, Bool.and_false, Bool.true_and, Bool.false_and, gI_sI, gI_sL, gI_sA, gI_sM, gL_sI, gL_sL, gL_sA, gL_sM, aI_sI, aI_sL, aI_sA, aI_sM, aL_sI, aL_sL, aL_sA, aL_sM]; try dsimp only
        refine hB _ _ _ _ _ (fun m6 hm6 => ?_)
        dsimp only [ugo, uwp, ust, uct, rfd, BisNamed, BisNamed_33, Nat.beq, lv_args, rlk, rs1, rs2, rdl, rky, rcd, rno, rsw, Value.category, List.filter, List.take, List.drop, List.reverse, List.reverseAux, List.cons_append, List.nil_append, Option.toList, Int.toNat, Int.reduceToNat, if_pos, if_neg, reduceIte, ↓reduceIte, Nat.reduceAdd, Nat.reduceEqDiff, Nat.reduceBEq, beq_self_eq_true, Bool.not_true, Bool.not_false, Bool.and_true, Bool.and_false, Bool.true_and, Bool.false_and, gI_sI, gI_sL, gI_sA, gI_sM, gL_sI, gL_sL, gL_sA, gL_sM, aI_sI, aI_sL, aI_sA, aI_sM, aL_sI, aL_sL, aL_sA, aL_sM]; try dsimp only
        intro p7
        refine ⟨fun h8 => ?_, fun h8 => ?_⟩
        · have c8 : ¬ ((aL σ 7) (t).toNatClampNeg) = (Int64.ofInt 26990) := fun q => h8 ((cL (a := (Int64.ofInt 26990)) (b := ((aL σ 7) (t).toNatClampNeg))).1.mpr q)
          refine hB _ _ _ _ _ (fun m9 hm9 => ?_)
          dsimp only [ugo, uwp, ust, uct, rfd, BisNamed, BisNamed_69, Nat.beq, lv_args, rlk, rs1, rs2, rdl, rky, rcd, rno, rsw, Value.category, List.filter, List.take, List.drop, List.reverse, List.reverseAux, List.cons_append, List.nil_append, Option.toList, Int.toNat, Int.reduceToNat, if_pos, if_neg, reduceIte, ↓reduceIte, Nat.reduceAdd, Nat.reduceEqDiff, Nat.reduceBEq, beq_self_eq_true, Bool.not_true, Bool.not_false, Bool.and_true, Bool.and_false, Bool.true_and, Bool.false_and, gI_sI, gI_sL, gI_sA, gI_sM, gL_sI, gL_sL, gL_sA, gL_sM, aI_sI, aI_sL, aI_sA, aI_sM, aL_sI, aL_sL, aL_sA, aL_sM, oi_0]; try dsimp only
          refine hB _ _ _ _ _ (fun m10 hm10 => ?_)
          dsimp only [ugo, uwp, ust, uct, rfd, BisNamed, BisNamed_70, Nat.beq, lv_args, rlk, rs1, rs2, rdl, rky, rcd, rno, rsw, Value.category, List.filter, List.take, List.drop, List.reverse, List.reverseAux, List.cons_append, List.nil_append, Option.toList, Int.toNat, Int.reduceToNat, if_pos, if_neg, reduceIte, ↓reduceIte, Nat.reduceAdd, Nat.reduceEqDiff, Nat.reduceBEq, beq_self_eq_true, Bool.not_true, Bool.not_false, Bool.and_true, Bool.and_false, Bool.true_and, Bool.false_and, gI_sI, gI_sL, gI_sA, gI_sM, gL_sI, gL_sL, gL_sA, gL_sM, aI_sI, aI_sL, aI_sA, aI_sM, aL_sI, aL_sL, aL_sA, aL_sM]; try dsimp only
          unfold Qv_isNamed
          try dsimp only
          refine ⟨rfl, 0, rfl, b00 (fun q => ?_)⟩
          rcases q with q | q | q
          · exact absurd q.1 (by lia)
          · first | exact absurd q.1 (by lia) | exact absurd q.2.1 (by assumption) | exact absurd q.2.2 (by lia)
          · first | exact absurd q.1 (by lia) | exact absurd q.2.1 (by assumption) | exact absurd q.2.2 (by lia)
        · have c8 : ((aL σ 7) (t).toNatClampNeg) = (Int64.ofInt 26990) := (cL (a := (Int64.ofInt 26990)) (b := ((aL σ 7) (t).toNatClampNeg))).1.mp h8
          refine hB _ _ _ _ _ (fun m11 hm11 => ?_)
          dsimp only [ugo, uwp, ust, uct, rfd, BisNamed, BisNamed_45, Nat.beq, lv_args, rlk, rs1, rs2, rdl, rky, rcd, rno, rsw, Value.category, List.filter, List.take, List.drop, List.reverse, List.reverseAux, List.cons_append, List.nil_append, Option.toList, Int.toNat, Int.reduceToNat, if_pos, if_neg, reduceIte, ↓reduceIte, Nat.reduceAdd, Nat.reduceEqDiff, Nat.reduceBEq, beq_self_eq_true, Bool.not_true, Bool.not_false, Bool.and_true, Bool.and_false, Bool.true_and, Bool.false_and, gI_sI, gI_sL, gI_sA, gI_sM, gL_sI, gL_sL, gL_sA, gL_sM, aI_sI, aI_sL, aI_sA, aI_sM, aL_sI, aL_sL, aL_sA, aL_sM, oi_10]; try dsimp only
          intro p12
          refine ⟨fun h13 => ?_, fun h13 => ?_⟩
          · refine hB _ _ _ _ _ (fun m14 hm14 => ?_)
            dsimp only [ugo, uwp, ust, uct, rfd, BisNamed, BisNamed_61, Nat.beq, lv_args, rlk, rs1, rs2, rdl, rky, rcd, rno, rsw, Value.category, List.filter, List.take, List.drop, List.reverse, List.reverseAux, List.cons_append, List.nil_append, Option.toList, Int.toNat, Int.reduceToNat, if_pos, if_neg, reduceIte, ↓reduceIte, Nat.reduceAdd, Nat.reduceEqDiff, Nat.reduceBEq, beq_self_eq_true, Bool.not_true, Bool.not_false, Bool.and_true, Bool.and_false, Bool.true_and, Bool.false_and, gI_sI, gI_sL, gI_sA, gI_sM, gL_sI, gL_sL, gL_sA, gL_sM, aI_sI, aI_sL, aI_sA, aI_sM, aL_sI, aL_sL, aL_sA, aL_sM, oi_2]; try dsimp only
            refine hB _ _ _ _ _ (fun m15 hm15 => ?_)
            dsimp only [ugo, uwp, ust, uct, rfd, BisNamed, BisNamed_62, Nat.beq, lv_args, rlk, rs1, rs2, rdl, rky, rcd, rno, rsw, Value.category, List.filter, List.take, List.drop, List.reverse, List.reverseAux, List.cons_append, List.nil_append, Option.toList, Int.toNat, Int.reduceToNat, if_pos, if_neg, reduceIte, ↓reduceIte, Nat.reduceAdd, Nat.reduceEqDiff, Nat.reduceBEq, beq_self_eq_true, Bool.not_true, Bool.not_false, Bool.and_true, Bool.and_false, Bool.true_and, Bool.false_and, gI_sI, gI_sL, gI_sA, gI_sM, gL_sI, gL_sL, gL_sA, gL_sM, aI_sI, aI_sL, aI_sA, aI_sM, aL_sI, aL_sL, aL_sA, aL_sM]; try dsimp only
            refine ⟨fun h16 => ?_, fun h16 => ?_⟩
            · refine hB _ _ _ _ _ (fun m17 hm17 => ?_)
              dsimp only [ugo, uwp, ust, uct, rfd, BisNamed, BisNamed_69, Nat.beq, lv_args, rlk, rs1, rs2, rdl, rky, rcd, rno, rsw, Value.category, List.filter, List.take, List.drop, List.reverse, List.reverseAux, List.cons_append, List.nil_append, Option.toList, Int.toNat, Int.reduceToNat, if_pos, if_neg, reduceIte, ↓reduceIte, Nat.reduceAdd, Nat.reduceEqDiff, Nat.reduceBEq, beq_self_eq_true, Bool.not_true, Bool.not_false, Bool.and_true, Bool.and_false, Bool.true_and, Bool.false_and, gI_sI, gI_sL, gI_sA, gI_sM, gL_sI, gL_sL, gL_sA, gL_sM, aI_sI, aI_sL, aI_sA, aI_sM, aL_sI, aL_sL, aL_sA, aL_sM, oi_0]; try dsimp only
              refine hB _ _ _ _ _ (fun m18 hm18 => ?_)
              dsimp only [ugo, uwp, ust, uct, rfd, BisNamed, BisNamed_70, Nat.beq, lv_args, rlk, rs1, rs2, rdl, rky, rcd, rno, rsw, Value.category, List.filter, List.take, List.drop, List.reverse, List.reverseAux, List.cons_append, List.nil_append, Option.toList, Int.toNat, Int.reduceToNat, if_pos, if_neg, reduceIte, ↓reduceIte, Nat.reduceAdd, Nat.reduceEqDiff, Nat.reduceBEq, beq_self_eq_true, Bool.not_true, Bool.not_false, Bool.and_true, Bool.and_false, Bool.true_and, Bool.false_and, gI_sI, gI_sL, gI_sA, gI_sM, gL_sI, gL_sL, gL_sA, gL_sM, aI_sI, aI_sL, aI_sA, aI_sM, aL_sI, aL_sL, aL_sA, aL_sM]; try dsimp only
              unfold Qv_isNamed
              try dsimp only
              refine ⟨rfl, 0, rfl, b00 (fun q => ?_)⟩
              rcases q with q | q | q
              · exact absurd q.1 (by lia)
              · first | exact absurd q.1 (by lia) | exact absurd q.2.1 (by assumption) | exact absurd q.2.2 (by lia)
              · first | exact absurd q.1 (by lia) | exact absurd q.2.1 (by assumption) | exact absurd q.2.2 (by lia)
            · refine hB _ _ _ _ _ (fun m19 hm19 => ?_)
              dsimp only [ugo, uwp, ust, uct, rfd, BisNamed, BisNamed_65, Nat.beq, lv_args, rlk, rs1, rs2, rdl, rky, rcd, rno, rsw, Value.category, List.filter, List.take, List.drop, List.reverse, List.reverseAux, List.cons_append, List.nil_append, Option.toList, Int.toNat, Int.reduceToNat, if_pos, if_neg, reduceIte, ↓reduceIte, Nat.reduceAdd, Nat.reduceEqDiff, Nat.reduceBEq, beq_self_eq_true, Bool.not_true, Bool.not_false, Bool.and_true, Bool.and_false, Bool.true_and, Bool.false_and, gI_sI, gI_sL, gI_sA, gI_sM, gL_sI, gL_sL, gL_sA, gL_sM, aI_sI, aI_sL, aI_sA, aI_sM, aL_sI, aL_sL, aL_sA, aL_sM, oi_1]; try dsimp only
              refine hB _ _ _ _ _ (fun m20 hm20 => ?_)
              dsimp only [ugo, uwp, ust, uct, rfd, BisNamed, BisNamed_70, Nat.beq, lv_args, rlk, rs1, rs2, rdl, rky, rcd, rno, rsw, Value.category, List.filter, List.take, List.drop, List.reverse, List.reverseAux, List.cons_append, List.nil_append, Option.toList, Int.toNat, Int.reduceToNat, if_pos, if_neg, reduceIte, ↓reduceIte, Nat.reduceAdd, Nat.reduceEqDiff, Nat.reduceBEq, beq_self_eq_true, Bool.not_true, Bool.not_false, Bool.and_true, Bool.and_false, Bool.true_and, Bool.false_and, gI_sI, gI_sL, gI_sA, gI_sM, gL_sI, gL_sL, gL_sA, gL_sM, aI_sI, aI_sL, aI_sA, aI_sM, aL_sI, aL_sL, aL_sA, aL_sM]; try dsimp only
              unfold Qv_isNamed
              try dsimp only
              exact ⟨rfl, 1, rfl, b01 (Or.inr <| Or.inr ⟨by lia, by assumption, by lia⟩)⟩
          · refine hB _ _ _ _ _ (fun m21 hm21 => ?_)
            dsimp only [ugo, uwp, ust, uct, rfd, BisNamed, BisNamed_57, Nat.beq, lv_args, rlk, rs1, rs2, rdl, rky, rcd, rno, rsw, Value.category, List.filter, List.take, List.drop, List.reverse, List.reverseAux, List.cons_append, List.nil_append, Option.toList, Int.toNat, Int.reduceToNat, if_pos, if_neg, reduceIte, ↓reduceIte, Nat.reduceAdd, Nat.reduceEqDiff, Nat.reduceBEq, beq_self_eq_true, Bool.not_true, Bool.not_false, Bool.and_true, Bool.and_false, Bool.true_and, Bool.false_and, gI_sI, gI_sL, gI_sA, gI_sM, gL_sI, gL_sL, gL_sA, gL_sM, aI_sI, aI_sL, aI_sA, aI_sM, aL_sI, aL_sL, aL_sA, aL_sM, oi_3]; try dsimp only
            refine hB _ _ _ _ _ (fun m22 hm22 => ?_)
            dsimp only [ugo, uwp, ust, uct, rfd, BisNamed, BisNamed_62, Nat.beq, lv_args, rlk, rs1, rs2, rdl, rky, rcd, rno, rsw, Value.category, List.filter, List.take, List.drop, List.reverse, List.reverseAux, List.cons_append, List.nil_append, Option.toList, Int.toNat, Int.reduceToNat, if_pos, if_neg, reduceIte, ↓reduceIte, Nat.reduceAdd, Nat.reduceEqDiff, Nat.reduceBEq, beq_self_eq_true, Bool.not_true, Bool.not_false, Bool.and_true, Bool.and_false, Bool.true_and, Bool.false_and, gI_sI, gI_sL, gI_sA, gI_sM, gL_sI, gL_sL, gL_sA, gL_sM, aI_sI, aI_sL, aI_sA, aI_sM, aL_sI, aL_sL, aL_sA, aL_sM]; try dsimp only
            refine ⟨fun h23 => ?_, fun h23 => ?_⟩
            · refine hB _ _ _ _ _ (fun m24 hm24 => ?_)
              dsimp only [ugo, uwp, ust, uct, rfd, BisNamed, BisNamed_69, Nat.beq, lv_args, rlk, rs1, rs2, rdl, rky, rcd, rno, rsw, Value.category, List.filter, List.take, List.drop, List.reverse, List.reverseAux, List.cons_append, List.nil_append, Option.toList, Int.toNat, Int.reduceToNat, if_pos, if_neg, reduceIte, ↓reduceIte, Nat.reduceAdd, Nat.reduceEqDiff, Nat.reduceBEq, beq_self_eq_true, Bool.not_true, Bool.not_false, Bool.and_true, Bool.and_false, Bool.true_and, Bool.false_and, gI_sI, gI_sL, gI_sA, gI_sM, gL_sI, gL_sL, gL_sA, gL_sM, aI_sI, aI_sL, aI_sA, aI_sM, aL_sI, aL_sL, aL_sA, aL_sM, oi_0]; try dsimp only
              refine hB _ _ _ _ _ (fun m25 hm25 => ?_)
              dsimp only [ugo, uwp, ust, uct, rfd, BisNamed, BisNamed_70, Nat.beq, lv_args, rlk, rs1, rs2, rdl, rky, rcd, rno, rsw, Value.category, List.filter, List.take, List.drop, List.reverse, List.reverseAux, List.cons_append, List.nil_append, Option.toList, Int.toNat, Int.reduceToNat, if_pos, if_neg, reduceIte, ↓reduceIte, Nat.reduceAdd, Nat.reduceEqDiff, Nat.reduceBEq, beq_self_eq_true, Bool.not_true, Bool.not_false, Bool.and_true, Bool.and_false, Bool.true_and, Bool.false_and, gI_sI, gI_sL, gI_sA, gI_sM, gL_sI, gL_sL, gL_sA, gL_sM, aI_sI, aI_sL, aI_sA, aI_sM, aL_sI, aL_sL, aL_sA, aL_sM]; try dsimp only
              unfold Qv_isNamed
              try dsimp only
              refine ⟨rfl, 0, rfl, b00 (fun q => ?_)⟩
              rcases q with q | q | q
              · exact absurd q.1 (by lia)
              · first | exact absurd q.1 (by lia) | exact absurd q.2.1 (by assumption) | exact absurd q.2.2 (by lia)
              · first | exact absurd q.1 (by lia) | exact absurd q.2.1 (by assumption) | exact absurd q.2.2 (by lia)
            · refine hB _ _ _ _ _ (fun m26 hm26 => ?_)
              dsimp only [ugo, uwp, ust, uct, rfd, BisNamed, BisNamed_65, Nat.beq, lv_args, rlk, rs1, rs2, rdl, rky, rcd, rno, rsw, Value.category, List.filter, List.take, List.drop, List.reverse, List.reverseAux, List.cons_append, List.nil_append, Option.toList, Int.toNat, Int.reduceToNat, if_pos, if_neg, reduceIte, ↓reduceIte, Nat.reduceAdd, Nat.reduceEqDiff, Nat.reduceBEq, beq_self_eq_true, Bool.not_true, Bool.not_false, Bool.and_true, Bool.and_false, Bool.true_and, Bool.false_and, gI_sI, gI_sL, gI_sA, gI_sM, gL_sI, gL_sL, gL_sA, gL_sM, aI_sI, aI_sL, aI_sA, aI_sM, aL_sI, aL_sL, aL_sA, aL_sM, oi_1]; try dsimp only
              refine hB _ _ _ _ _ (fun m27 hm27 => ?_)
              dsimp only [ugo, uwp, ust, uct, rfd, BisNamed, BisNamed_70, Nat.beq, lv_args, rlk, rs1, rs2, rdl, rky, rcd, rno, rsw, Value.category, List.filter, List.take, List.drop, List.reverse, List.reverseAux, List.cons_append, List.nil_append, Option.toList, Int.toNat, Int.reduceToNat, if_pos, if_neg, reduceIte, ↓reduceIte, Nat.reduceAdd, Nat.reduceEqDiff, Nat.reduceBEq, beq_self_eq_true, Bool.not_true, Bool.not_false, Bool.and_true, Bool.and_false, Bool.true_and, Bool.false_and, gI_sI, gI_sL, gI_sA, gI_sM, gL_sI, gL_sL, gL_sA, gL_sM, aI_sI, aI_sL, aI_sA, aI_sM, aL_sI, aL_sL, aL_sA, aL_sM]; try dsimp only
              unfold Qv_isNamed
              try dsimp only
              exact ⟨rfl, 1, rfl, b01 (Or.inr <| Or.inr ⟨by lia, by assumption, by lia⟩)⟩
      · refine hB _ _ _ _ _ (fun m28 hm28 => ?_)
        dsimp only [ugo, uwp, ust, uct, rfd, BisNamed, BisNamed_24, Nat.beq, lv_args, rlk, rs1, rs2, rdl, rky, rcd, rno, rsw, Value.category, List.filter, List.take, List.drop, List.reverse, List.reverseAux, List.cons_append, List.nil_append, Option.toList, Int.toNat, Int.reduceToNat, if_pos, if_neg, reduceIte, ↓reduceIte, Nat.reduceAdd, Nat.reduceEqDiff, Nat.reduceBEq, beq_self_eq_true, Bool.not_true, Bool.not_false, Bool.and_true, Bool.and_false, Bool.true_and, Bool.false_and, gI_sI, gI_sL, gI_sA, gI_sM, gL_sI, gL_sL, gL_sA, gL_sM, aI_sI, aI_sL, aI_sA, aI_sM, aL_sI, aL_sL, aL_sA, aL_sM]; try dsimp only
        refine hB _ _ _ _ _ (fun m29 hm29 => ?_)
        dsimp only [ugo, uwp, ust, uct, rfd, BisNamed, BisNamed_33, Nat.beq, lv_args, rlk, rs1, rs2, rdl, rky, rcd, rno, rsw, Value.category, List.filter, List.take, List.drop, List.reverse, List.reverseAux, List.cons_append, List.nil_append, Option.toList, Int.toNat, Int.reduceToNat, if_pos, if_neg, reduceIte, ↓reduceIte, Nat.reduceAdd, Nat.reduceEqDiff, Nat.reduceBEq, beq_self_eq_true, Bool.not_true, Bool.not_false, Bool.and_true, Bool.and_false, Bool.true_and, Bool.false_and, gI_sI, gI_sL, gI_sA, gI_sM, gL_sI, gL_sL, gL_sA, gL_sM, aI_sI, aI_sL, aI_sA, aI_sM, aL_sI, aL_sL, aL_sA, aL_sM]; try dsimp only
        intro p30
        refine ⟨fun h31 => ?_, fun h31 => ?_⟩
        · have c31 : ¬ ((aL σ 7) (t).toNatClampNeg) = (Int64.ofInt 7304564) := fun q => h31 ((cL (a := (Int64.ofInt 7304564)) (b := ((aL σ 7) (t).toNatClampNeg))).1.mpr q)
          refine hB _ _ _ _ _ (fun m32 hm32 => ?_)
          dsimp only [ugo, uwp, ust, uct, rfd, BisNamed, BisNamed_69, Nat.beq, lv_args, rlk, rs1, rs2, rdl, rky, rcd, rno, rsw, Value.category, List.filter, List.take, List.drop, List.reverse, List.reverseAux, List.cons_append, List.nil_append, Option.toList, Int.toNat, Int.reduceToNat, if_pos, if_neg, reduceIte, ↓reduceIte, Nat.reduceAdd, Nat.reduceEqDiff, Nat.reduceBEq, beq_self_eq_true, Bool.not_true, Bool.not_false, Bool.and_true, Bool.and_false, Bool.true_and, Bool.false_and, gI_sI, gI_sL, gI_sA, gI_sM, gL_sI, gL_sL, gL_sA, gL_sM, aI_sI, aI_sL, aI_sA, aI_sM, aL_sI, aL_sL, aL_sA, aL_sM, oi_0]; try dsimp only
          refine hB _ _ _ _ _ (fun m33 hm33 => ?_)
          dsimp only [ugo, uwp, ust, uct, rfd, BisNamed, BisNamed_70, Nat.beq, lv_args, rlk, rs1, rs2, rdl, rky, rcd, rno, rsw, Value.category, List.filter, List.take, List.drop, List.reverse, List.reverseAux, List.cons_append, List.nil_append, Option.toList, Int.toNat, Int.reduceToNat, if_pos, if_neg, reduceIte, ↓reduceIte, Nat.reduceAdd, Nat.reduceEqDiff, Nat.reduceBEq, beq_self_eq_true, Bool.not_true, Bool.not_false, Bool.and_true, Bool.and_false, Bool.true_and, Bool.false_and, gI_sI, gI_sL, gI_sA, gI_sM, gL_sI, gL_sL, gL_sA, gL_sM, aI_sI, aI_sL, aI_sA, aI_sM, aL_sI, aL_sL, aL_sA, aL_sM]; try dsimp only
          unfold Qv_isNamed
          try dsimp only
          refine ⟨rfl, 0, rfl, b00 (fun q => ?_)⟩
          rcases q with q | q | q
          · exact absurd q.1 (by lia)
          · first | exact absurd q.1 (by lia) | exact absurd q.2.1 (by assumption) | exact absurd q.2.2 (by lia)
          · first | exact absurd q.1 (by lia) | exact absurd q.2.1 (by assumption) | exact absurd q.2.2 (by lia)
        · have c31 : ((aL σ 7) (t).toNatClampNeg) = (Int64.ofInt 7304564) := (cL (a := (Int64.ofInt 7304564)) (b := ((aL σ 7) (t).toNatClampNeg))).1.mp h31
          refine hB _ _ _ _ _ (fun m34 hm34 => ?_)
          dsimp only [ugo, uwp, ust, uct, rfd, BisNamed, BisNamed_45, Nat.beq, lv_args, rlk, rs1, rs2, rdl, rky, rcd, rno, rsw, Value.category, List.filter, List.take, List.drop, List.reverse, List.reverseAux, List.cons_append, List.nil_append, Option.toList, Int.toNat, Int.reduceToNat, if_pos, if_neg, reduceIte, ↓reduceIte, Nat.reduceAdd, Nat.reduceEqDiff, Nat.reduceBEq, beq_self_eq_true, Bool.not_true, Bool.not_false, Bool.and_true, Bool.and_false, Bool.true_and, Bool.false_and, gI_sI, gI_sL, gI_sA, gI_sM, gL_sI, gL_sL, gL_sA, gL_sM, aI_sI, aI_sL, aI_sA, aI_sM, aL_sI, aL_sL, aL_sA, aL_sM, oi_10]; try dsimp only
          intro p35
          refine ⟨fun h36 => ?_, fun h36 => ?_⟩
          · refine hB _ _ _ _ _ (fun m37 hm37 => ?_)
            dsimp only [ugo, uwp, ust, uct, rfd, BisNamed, BisNamed_61, Nat.beq, lv_args, rlk, rs1, rs2, rdl, rky, rcd, rno, rsw, Value.category, List.filter, List.take, List.drop, List.reverse, List.reverseAux, List.cons_append, List.nil_append, Option.toList, Int.toNat, Int.reduceToNat, if_pos, if_neg, reduceIte, ↓reduceIte, Nat.reduceAdd, Nat.reduceEqDiff, Nat.reduceBEq, beq_self_eq_true, Bool.not_true, Bool.not_false, Bool.and_true, Bool.and_false, Bool.true_and, Bool.false_and, gI_sI, gI_sL, gI_sA, gI_sM, gL_sI, gL_sL, gL_sA, gL_sM, aI_sI, aI_sL, aI_sA, aI_sM, aL_sI, aL_sL, aL_sA, aL_sM, oi_2]; try dsimp only
            refine hB _ _ _ _ _ (fun m38 hm38 => ?_)
            dsimp only [ugo, uwp, ust, uct, rfd, BisNamed, BisNamed_62, Nat.beq, lv_args, rlk, rs1, rs2, rdl, rky, rcd, rno, rsw, Value.category, List.filter, List.take, List.drop, List.reverse, List.reverseAux, List.cons_append, List.nil_append, Option.toList, Int.toNat, Int.reduceToNat, if_pos, if_neg, reduceIte, ↓reduceIte, Nat.reduceAdd, Nat.reduceEqDiff, Nat.reduceBEq, beq_self_eq_true, Bool.not_true, Bool.not_false, Bool.and_true, Bool.and_false, Bool.true_and, Bool.false_and, gI_sI, gI_sL, gI_sA, gI_sM, gL_sI, gL_sL, gL_sA, gL_sM, aI_sI, aI_sL, aI_sA, aI_sM, aL_sI, aL_sL, aL_sA, aL_sM]; try dsimp only
            refine ⟨fun h39 => ?_, fun h39 => ?_⟩
            · refine hB _ _ _ _ _ (fun m40 hm40 => ?_)
              dsimp only [ugo, uwp, ust, uct, rfd, BisNamed, BisNamed_69, Nat.beq, lv_args, rlk, rs1, rs2, rdl, rky, rcd, rno, rsw, Value.category, List.filter, List.take, List.drop, List.reverse, List.reverseAux, List.cons_append, List.nil_append, Option.toList, Int.toNat, Int.reduceToNat, if_pos, if_neg, reduceIte, ↓reduceIte, Nat.reduceAdd, Nat.reduceEqDiff, Nat.reduceBEq, beq_self_eq_true, Bool.not_true, Bool.not_false, Bool.and_true, Bool.and_false, Bool.true_and, Bool.false_and, gI_sI, gI_sL, gI_sA, gI_sM, gL_sI, gL_sL, gL_sA, gL_sM, aI_sI, aI_sL, aI_sA, aI_sM, aL_sI, aL_sL, aL_sA, aL_sM, oi_0]; try dsimp only
              refine hB _ _ _ _ _ (fun m41 hm41 => ?_)
              dsimp only [ugo, uwp, ust, uct, rfd, BisNamed, BisNamed_70, Nat.beq, lv_args, rlk, rs1, rs2, rdl, rky, rcd, rno, rsw, Value.category, List.filter, List.take, List.drop, List.reverse, List.reverseAux, List.cons_append, List.nil_append, Option.toList, Int.toNat, Int.reduceToNat, if_pos, if_neg, reduceIte, ↓reduceIte, Nat.reduceAdd, Nat.reduceEqDiff, Nat.reduceBEq, beq_self_eq_true, Bool.not_true, Bool.not_false, Bool.and_true, Bool.and_false, Bool.true_and, Bool.false_and, gI_sI, gI_sL, gI_sA, gI_sM, gL_sI, gL_sL, gL_sA, gL_sM, aI_sI, aI_sL, aI_sA, aI_sM, aL_sI, aL_sL, aL_sA, aL_sM]; try dsimp only
              unfold Qv_isNamed
              try dsimp only
              refine ⟨rfl, 0, rfl, b00 (fun q => ?_)⟩
              rcases q with q | q | q
              · exact absurd q.1 (by lia)
              · first | exact absurd q.1 (by lia) | exact absurd q.2.1 (by assumption) | exact absurd q.2.2 (by lia)
              · first | exact absurd q.1 (by lia) | exact absurd q.2.1 (by assumption) | exact absurd q.2.2 (by lia)
            · refine hB _ _ _ _ _ (fun m42 hm42 => ?_)
              dsimp only [ugo, uwp, ust, uct, rfd, BisNamed, BisNamed_65, Nat.beq, lv_args, rlk, rs1, rs2, rdl, rky, rcd, rno, rsw, Value.category, List.filter, List.take, List.drop, List.reverse, List.reverseAux, List.cons_append, List.nil_append, Option.toList, Int.toNat, Int.reduceToNat, if_pos, if_neg, reduceIte, ↓reduceIte, Nat.reduceAdd, Nat.reduceEqDiff, Nat.reduceBEq, beq_self_eq_true, Bool.not_true, Bool.not_false, Bool.and_true, Bool.and_false, Bool.true_and, Bool.false_and, gI_sI, gI_sL, gI_sA, gI_sM, gL_sI, gL_sL, gL_sA, gL_sM, aI_sI, aI_sL, aI_sA, aI_sM, aL_sI, aL_sL, aL_sA, aL_sM, oi_1]; try dsimp only
              refine hB _ _ _ _ _ (fun m43 hm43 => ?_)
              dsimp only [ugo, uwp, ust, uct, rfd, BisNamed, BisNamed_70, Nat.beq, lv_args, rlk, rs1, rs2, rdl, rky, rcd, rno, rsw, Value.category, List.filter, List.take, List.drop, List.reverse, List.reverseAux, List.cons_append, List.nil_append, Option.toList, Int.toNat, Int.reduceToNat, if_pos, if_neg, reduceIte, ↓reduceIte, Nat.reduceAdd, Nat.reduceEqDiff, Nat.reduceBEq, beq_self_eq_true, Bool.not_true, Bool.not_false, Bool.and_true, Bool.and_false, Bool.true_and, Bool.false_and, gI_sI, gI_sL, gI_sA, gI_sM, gL_sI, gL_sL, gL_sA, gL_sM, aI_sI, aI_sL, aI_sA, aI_sM, aL_sI, aL_sL, aL_sA, aL_sM]; try dsimp only
              unfold Qv_isNamed
              try dsimp only
              exact ⟨rfl, 1, rfl, b01 (Or.inr <| Or.inl ⟨by lia, by assumption, by lia⟩)⟩
          · refine hB _ _ _ _ _ (fun m44 hm44 => ?_)
            dsimp only [ugo, uwp, ust, uct, rfd, BisNamed, BisNamed_57, Nat.beq, lv_args, rlk, rs1, rs2, rdl, rky, rcd, rno, rsw, Value.category, List.filter, List.take, List.drop, List.reverse, List.reverseAux, List.cons_append, List.nil_append, Option.toList, Int.toNat, Int.reduceToNat, if_pos, if_neg, reduceIte, ↓reduceIte, Nat.reduceAdd, Nat.reduceEqDiff, Nat.reduceBEq, beq_self_eq_true, Bool.not_true, Bool.not_false, Bool.and_true, Bool.and_false, Bool.true_and, Bool.false_and, gI_sI, gI_sL, gI_sA, gI_sM, gL_sI, gL_sL, gL_sA, gL_sM, aI_sI, aI_sL, aI_sA, aI_sM, aL_sI, aL_sL, aL_sA, aL_sM, oi_3]; try dsimp only
            refine hB _ _ _ _ _ (fun m45 hm45 => ?_)
            dsimp only [ugo, uwp, ust, uct, rfd, BisNamed, BisNamed_62, Nat.beq, lv_args, rlk, rs1, rs2, rdl, rky, rcd, rno, rsw, Value.category, List.filter, List.take, List.drop, List.reverse, List.reverseAux, List.cons_append, List.nil_append, Option.toList, Int.toNat, Int.reduceToNat, if_pos, if_neg, reduceIte, ↓reduceIte, Nat.reduceAdd, Nat.reduceEqDiff, Nat.reduceBEq, beq_self_eq_true, Bool.not_true, Bool.not_false, Bool.and_true, Bool.and_false, Bool.true_and, Bool.false_and, gI_sI, gI_sL, gI_sA, gI_sM, gL_sI, gL_sL, gL_sA, gL_sM, aI_sI, aI_sL, aI_sA, aI_sM, aL_sI, aL_sL, aL_sA, aL_sM]; try dsimp only
            refine ⟨fun h46 => ?_, fun h46 => ?_⟩
            · refine hB _ _ _ _ _ (fun m47 hm47 => ?_)
              dsimp only [ugo, uwp, ust, uct, rfd, BisNamed, BisNamed_69, Nat.beq, lv_args, rlk, rs1, rs2, rdl, rky, rcd, rno, rsw, Value.category, List.filter, List.take, List.drop, List.reverse, List.reverseAux, List.cons_append, List.nil_append, Option.toList, Int.toNat, Int.reduceToNat, if_pos, if_neg, reduceIte, ↓reduceIte, Nat.reduceAdd, Nat.reduceEqDiff, Nat.reduceBEq, beq_self_eq_true, Bool.not_true, Bool.not_false, Bool.and_true, Bool.and_false, Bool.true_and, Bool.false_and, gI_sI, gI_sL, gI_sA, gI_sM, gL_sI, gL_sL, gL_sA, gL_sM, aI_sI, aI_sL, aI_sA, aI_sM, aL_sI, aL_sL, aL_sA, aL_sM, oi_0]; try dsimp only
              refine hB _ _ _ _ _ (fun m48 hm48 => ?_)
              dsimp only [ugo, uwp, ust, uct, rfd, BisNamed, BisNamed_70, Nat.beq, lv_args, rlk, rs1, rs2, rdl, rky, rcd, rno, rsw, Value.category, List.filter, List.take, List.drop, List.reverse, List.reverseAux, List.cons_append, List.nil_append, Option.toList, Int.toNat, Int.reduceToNat, if_pos, if_neg, reduceIte, ↓reduceIte, Nat.reduceAdd, Nat.reduceEqDiff, Nat.reduceBEq, beq_self_eq_true, Bool.not_true, Bool.not_false, Bool.and_true, Bool.and_false, Bool.true_and, Bool.false_and, gI_sI, gI_sL, gI_sA, gI_sM, gL_sI, gL_sL, gL_sA, gL_sM, aI_sI, aI_sL, aI_sA, aI_sM, aL_sI, aL_sL, aL_sA, aL_sM]; try dsimp only
              unfold Qv_isNamed
              try dsimp only
              refine ⟨rfl, 0, rfl, b00 (fun q => ?_)⟩
              rcases q with q | q | q
              · exact absurd q.1 (by lia)
              · first | exact absurd q.1 (by lia) | exact absurd q.2.1 (by assumption) | exact absurd q.2.2 (by lia)
              · first | exact absurd q.1 (by lia) | exact absurd q.2.1 (by assumption) | exact absurd q.2.2 (by lia)
            · refine hB _ _ _ _ _ (fun m49 hm49 => ?_)
              dsimp only [ugo, uwp, ust, uct, rfd, BisNamed, BisNamed_65, Nat.beq, lv_args, rlk, rs1, rs2, rdl, rky, rcd, rno, rsw, Value.category, List.filter, List.take, List.drop, List.reverse, List.reverseAux, List.cons_append, List.nil_append, Option.toList, Int.toNat, Int.reduceToNat, if_pos, if_neg, reduceIte, ↓reduceIte, Nat.reduceAdd, Nat.reduceEqDiff, Nat.reduceBEq, beq_self_eq_true, Bool.not_true, Bool.not_false, Bool.and_true, Bool.and_false, Bool.true_and, Bool.false_and, gI_sI, gI_sL, gI_sA, gI_sM, gL_sI, gL_sL, gL_sA, gL_sM, aI_sI, aI_sL, aI_sA, aI_sM, aL_sI, aL_sL, aL_sA, aL_sM, oi_1]; try dsimp only
              refine hB _ _ _ _ _ (fun m50 hm50 => ?_)
              dsimp only [ugo, uwp, ust, uct, rfd, BisNamed, BisNamed_70, Nat.beq, lv_args, rlk, rs1, rs2, rdl, rky, rcd, rno, rsw, Value.category, List.filter, List.take, List.drop, List.reverse, List.reverseAux, List.cons_append, List.nil_append, Option.toList, Int.toNat, Int.reduceToNat, if_pos, if_neg, reduceIte, ↓reduceIte, Nat.reduceAdd, Nat.reduceEqDiff, Nat.reduceBEq, beq_self_eq_true, Bool.not_true, Bool.not_false, Bool.and_true, Bool.and_false, Bool.true_and, Bool.false_and, gI_sI, gI_sL, gI_sA, gI_sM, gL_sI, gL_sL, gL_sA, gL_sM, aI_sI, aI_sL, aI_sA, aI_sM, aL_sI, aL_sL, aL_sA, aL_sM]; try dsimp only
              unfold Qv_isNamed
              try dsimp only
              exact ⟨rfl, 1, rfl, b01 (Or.inr <| Or.inl ⟨by lia, by assumption, by lia⟩)⟩
    · refine hB _ _ _ _ _ (fun m51 hm51 => ?_)
      dsimp only [ugo, uwp, ust, uct, rfd, BisNamed, BisNamed_6, Nat.beq, lv_args, rlk, rs1, rs2, rdl, rky, rcd, rno, rsw, Value.category, List.filter, List.take, List.drop, List.reverse, List.reverseAux, List.cons_append, List.nil_append, Option.toList, Int.toNat, Int.reduceToNat, if_pos, if_neg, reduceIte, ↓reduceIte, Nat.reduceAdd, Nat.reduceEqDiff, Nat.reduceBEq, beq_self_eq_true, Bool.not_true, Bool.not_false, Bool.and_true, Bool.and_false, Bool.true_and, Bool.false_and, gI_sI, gI_sL, gI_sA, gI_sM, gL_sI, gL_sL, gL_sA, gL_sM, aI_sI, aI_sL, aI_sA, aI_sM, aL_sI, aL_sL, aL_sA, aL_sM]; try dsimp only
      intro p52
      refine ⟨trivial, fun w53 τ53 hq53 => ?_⟩
      obtain ⟨rfl, hb53⟩ := hq53 trivial
      rcases hb53 with ⟨rfl, hs53⟩ | ⟨rfl, hs53⟩
      · dsimp only [Option.toList, List.cons_append, List.nil_append, Nat.beq, gI_sI, gI_sL, gI_sA, gI_sM, gL_sI, gL_sL, gL_sA, gL_sM, aI_sI, aI_sL, aI_sA, aI_sM, aL_sI, aL_sL, aL_sA, aL_sM]
        have hs53 : sameR σ (((aI σ 37) (m).toNatClampNeg)).toNatClampNeg (t).toNatClampNeg := hs53
        unfold Qv_isNamed
        try dsimp only
        exact ⟨rfl, 1, rfl, b01 (Or.inl ⟨by lia, hs53⟩)⟩
      · dsimp only [Option.toList, List.cons_append, List.nil_append, Nat.beq, gI_sI, gI_sL, gI_sA, gI_sM, gL_sI, gL_sL, gL_sA, gL_sM, aI_sI, aI_sL, aI_sA, aI_sM, aL_sI, aL_sL, aL_sA, aL_sM]
        have hs53 : ¬ sameR σ (((aI σ 37) (m).toNatClampNeg)).toNatClampNeg (t).toNatClampNeg := hs53
        unfold Qv_isNamed
        try dsimp only
        refine ⟨rfl, 0, rfl, b00 (fun q => ?_)⟩
        rcases q with q | q | q
        · exact hs53 q.2
        · exact absurd q.1 (by lia)
        · exact absurd q.1 (by lia)
  next => exact hP.elim
theorem w_isNamed : UMet 86 (fun _ _ => True) Qw_isNamed := fun A1 σ _ w τ h hP => v_isNamed A1 σ hP w τ h

/-! the reference judges one exp, where none is told -/
theorem an_v {a b : Int64} (ha : a = 0 ∨ a = 1) (hb : b = 0 ∨ b = 1) : a &&& b = if ¬ a = 0 ∧ ¬ b = 0 then 1 else 0 := by
  rcases ha with rfl | rfl <;> rcases hb with rfl | rfl <;> decide
theorem or_v {a b : Int64} (ha : a = 0 ∨ a = 1) (hb : b = 0 ∨ b = 1) : a ||| b = if ¬ a = 0 ∨ ¬ b = 0 then 1 else 0 := by
  rcases ha with rfl | rfl <;> rcases hb with rfl | rfl <;> decide
theorem JgR.k {τ : RS} {r : Option TvT} {F : TvT → RS → Prop} (h : JgR τ r F) : JgR τ r (fun e τ => r = some e ∧ F e τ) := by
  rcases h with q | ⟨e, q1, q2⟩
  · exact Or.inl q
  · exact Or.inr ⟨e, q1, q1, q2⟩
/-- what it asks of the state -/
def XpR (σ : RS) (c : Int32) (C : CxT) (T : TbT) (i : Nat) (x : XrZ) : Prop :=
  ccZ σ c.toNatClampNeg x ∧ (0 ≤ x.1.1 ∧ x.1.1 ≤ 14) ∧ (x.1.1 ≤ 1 → (((aI σ 3 (aI σ 22 c.toNatClampNeg).toNatClampNeg = 2 ∧ (aI σ 11 (aI σ 22 c.toNatClampNeg).toNatClampNeg = 2 ∨ (aI σ 11 (aI σ 22 c.toNatClampNeg).toNatClampNeg = 1 ∧ aI σ 21 c.toNatClampNeg = 0))) ↔ exT C T i x = none) ∧ ∀ e, exT C T i x = some e → (aI σ 20 c.toNatClampNeg).toInt = e.1 ∧ ¬ e.2.1 = 0 ∧ e.2.2.1 = (if aI σ 3 (aI σ 22 c.toNatClampNeg).toNatClampNeg = 4 then (if aI σ 6 (aI σ 22 c.toNatClampNeg).toNatClampNeg = 22 then 1 else 0) else if aI σ 20 c.toNatClampNeg = 3 then (aL σ 9 (aI σ 22 c.toNatClampNeg).toNatClampNeg).toInt32.toInt64 else aL σ 9 (aI σ 22 c.toNatClampNeg).toNatClampNeg))) ∧
  ((x.1.1 = 2 ∨ x.1.1 = 6 ∨ x.1.1 = 9) → 0 ≤ (gI σ 42).toInt ∧ (∀ r, FdR σ (aI σ 22 c.toNatClampNeg) r → r = x.2.1.2.1 ∨ (r < 0 ∧ x.2.1.2.1 < 0)) ∧ (0 ≤ x.2.1.2.1 → knT C x.2.1.2.1) ∧ (knT C x.2.1.2.1 → (aI σ 44 x.2.1.2.1.toNat).toInt = (vtT C x.2.1.2.1).1 ∧ (¬ aI σ 45 x.2.1.2.1.toNat = 0 ↔ ¬ (vtT C x.2.1.2.1).2 = 0) ∧ 0 ≤ (vtT C x.2.1.2.1).1 ∧ (vtT C x.2.1.2.1).1 ≤ 4)) ∧
  (x.1.1 = 2 → knT C x.2.1.2.1 → (¬ aI σ 86 x.2.1.2.1.toNat = 0 ↔ ¬ (T.2 x.2.1.2.1.toNat).1 = 0) ∧ (¬ (T.2 x.2.1.2.1.toNat).1 = 0 → aL σ 87 x.2.1.2.1.toNat = (T.2 x.2.1.2.1.toNat).2 ∧ ¬ (vtT C x.2.1.2.1).2 = 0)) ∧
  ((x.1.1 = 2 ∨ x.1.1 = 6 ∨ x.1.1 = 9 ∨ x.1.1 = 10) → (T.1 i).2.1 = 0) ∧
  (x.1.1 = 3 ∨ x.1.1 = 4 ∨ x.1.1 = 5 → TeR σ (gI σ 69 - 1).toNatClampNeg (opT T x.2.2.1.2.1)) ∧
  (x.1.1 = 9 → TeR σ (gI σ 69 - 1).toNatClampNeg (opT T x.2.2.1.2.2.1)) ∧
  (x.1.1 = 7 → TeR σ (gI σ 69 - 2).toNatClampNeg (opT T x.2.2.1.2.1) ∧ TeR σ (gI σ 69 - 2 + 1).toNatClampNeg (opT T x.2.2.1.2.2.1)) ∧
  (x.1.1 = 8 → TeR σ (gI σ 69 - 3).toNatClampNeg (opT T x.2.2.1.2.1) ∧ TeR σ (gI σ 69 - 3 + 1).toNatClampNeg (opT T x.2.2.1.2.2.1) ∧ TeR σ (gI σ 69 - 3 + 2).toNatClampNeg (opT T x.2.2.1.2.2.2.1)) ∧
  (x.1.1 = 10 → AsR σ (gI σ 69 - aI σ 20 c.toNatClampNeg) (aI σ 20 c.toNatClampNeg) (agT T x.2.2.2) ∧ (∀ q ∈ (agT T x.2.2.2), 0 ≤ q ∧ q ≤ 5) ∧ MsR σ (aI σ 22 c.toNatClampNeg) (C.1 x.1.2.2.1) C.2.2.2 ∧ NdT C.2.2.2) ∧
  ((x.1.1 = 4 → x.1.2.1 = 34 ∨ x.1.2.1 = 35 ∨ x.1.2.1 = 39 ∨ x.1.2.1 = 40) ∧ (x.1.1 = 5 → 0 ≤ x.2.1.2.2 ∧ x.2.1.2.2 ≤ 4) ∧ (x.1.1 = 7 → 20 ≤ x.1.2.1 ∧ x.1.2.1 ≤ 38) ∧ (x.1.1 = 9 → x.1.2.1 = 8 ∨ (22 ≤ x.1.2.1 ∧ x.1.2.1 ≤ 38 ∧ (x.1.2.1 ≤ 24 ∨ 31 ≤ x.1.2.1))))
def Pv_judgeExpB (C : CxT) (T : TbT) (i : Nat) (x : XrZ) : UP1 := fun A1 σ => match A1 with
  | [.int c] => gI σ 66 = 0 ∧ XpR σ c C T i x
  | _ => False
def Qv_judgeExpB (C : CxT) (T : TbT) (i : Nat) (x : XrZ) : UQ1 := fun A1 σ w τ => match A1 with
  | [.int c] => w = none ∧ JgR τ (exT C T i x) (fun e τ => GoR σ c (aI σ 22 c.toNatClampNeg) x e τ)
  | _ => False
def Qw_judgeExpB : UQ1 := fun A1 σ w τ => ∀ (C : CxT) (T : TbT) (i : Nat) (x : XrZ), Pv_judgeExpB C T i x A1 σ → Qv_judgeExpB C T i x A1 σ w τ
set_option maxRecDepth 100000 in
set_option maxHeartbeats 4000000 in
theorem v_judgeExpB (C : CxT) (T : TbT) (i : Nat) (x : XrZ) : UMet 88 (Pv_judgeExpB C T i x) (Qv_judgeExpB C T i x) := by
  refine UMet.by BjudgeExp [(100, (fun _ _ => True), Qw_assignJ), (95, (fun _ _ => True), Qw_binaryJ), (104, (fun _ _ => True), Qw_callJ), (92, (fun _ _ => True), Qw_castsJ), (98, (fun _ _ => True), Qw_choiceJ), (70, (fun _ _ => True), Qw_err), (71, (fun _ _ => True), Qw_find), (77, (fun _ _ => True), Qw_lie), (89, (fun _ _ => True), Qw_literalJ), (80, (fun _ _ => True), Qw_need), (78, (fun _ _ => True), Qw_none), (90, (fun _ _ => True), Qw_stepJ), (91, (fun _ _ => True), Qw_unaryJ)] rfl (ucc w_assignJ (ucc w_binaryJ (ucc w_callJ (ucc w_castsJ (ucc w_choiceJ (ucc w_err (ucc w_find (ucc w_lie (ucc w_literalJ (ucc w_need (ucc w_none (ucc w_stepJ (ucc w_unaryJ uc0))))))))))))) ?_
  intro A1 σ hP K hB hW
  unfold Pv_judgeExpB at hP
  split at hP
  next c =>
    obtain ⟨hE, hcc, hk, hlit, hfd, hvs, ht0, ho1, ho9, ho7, ho8, hoa, hsg⟩ := hP
    have hok := opk_c hk.1 hk.2
    have bad : exT C T i x = none → ∀ N : Nat, (∀ (x1 : Int32) (Y : RS), ¬ gI Y 66 = 0 → K N 0 [(0, .ref 1000), (1, .int x1)] [] Y) ∧ (∀ (x1 : Int32) (x2 : Int32) (Y : RS), ¬ gI Y 66 = 0 → K N 100 [(0, .ref 1000), (1, .int x1), (2, .int x2)] [] Y) ∧ (∀ (x1 : Int32) (x2 : Int32) (Y : RS), ¬ gI Y 66 = 0 → K N 107 [(0, .ref 1000), (1, .int x1), (2, .int x2)] [] Y) ∧ (∀ (x1 : Int32) (x2 : Int32) (x3 : Int32) (Y : RS), ¬ gI Y 66 = 0 → K N 124 [(0, .ref 1000), (1, .int x1), (2, .int x2), (3, .int x3)] [] Y) ∧ (∀ (x1 : Int32) (x2 : Int32) (x3 : Int32) (Y : RS), ¬ gI Y 66 = 0 → K N 138 [(0, .ref 1000), (1, .int x1), (2, .int x2), (3, .int x3)] [] Y) ∧ (∀ (x1 : Int32) (x2 : Int32) (x3 : Int32) (s0 : Int32) (s1 : Int32) (Y : RS), ¬ gI Y 66 = 0 → K N 162 [(0, .ref 1000), (1, .int x1), (2, .int x2), (3, .int x3)] [.int s0, .int s1, .ref 1000] Y) ∧ (∀ (x1 : Int32) (x2 : Int32) (x3 : Int32) (s0 : Int32) (s1 : Int32) (Y : RS), ¬ gI Y 66 = 0 → K N 171 [(0, .ref 1000), (1, .int x1), (2, .int x2), (3, .int x3)] [.int s0, .int s1, .ref 1000] Y) ∧ (∀ (x1 : Int32) (x2 : Int32) (x3 : Int32) (s0 : Int32) (s1 : Int32) (Y : RS), ¬ gI Y 66 = 0 → K N 175 [(0, .ref 1000), (1, .int x1), (2, .int x2), (3, .int x3)] [.int s0, .int s1, .ref 1000] Y) ∧ (∀ (x1 : Int32) (x2 : Int32) (x3 : Int32) (s0 : Int32) (s1 : Int32) (s2 : Int32) (Y : RS), ¬ gI Y 66 = 0 → K N 176 [(0, .ref 1000), (1, .int x1), (2, .int x2), (3, .int x3)] [.int s0, .int s1, .int s2, .ref 1000] Y) ∧ (∀ (x1 : Int32) (x2 : Int32) (x3 : Int32) (Y : RS), ¬ gI Y 66 = 0 → K N 185 [(0, .ref 1000), (1, .int x1), (2, .int x2), (3, .int x3)] [] Y) ∧ (∀ (x1 : Int32) (x2 : Int32) (Y : RS), ¬ gI Y 66 = 0 → K N 186 [(0, .ref 1000), (1, .int x1), (2, .int x2)] [] Y) ∧ (∀ (x1 : Int32) (x2 : Int32) (Y : RS), ¬ gI Y 66 = 0 → K N 193 [(0, .ref 1000), (1, .int x1), (2, .int x2)] [] Y) ∧ (∀ (x1 : Int32) (x2 : Int32) (Y : RS), ¬ gI Y 66 = 0 → K N 199 [(0, .ref 1000), (1, .int x1), (2, .int x2)] [] Y) ∧ (∀ (x1 : Int32) (x2 : Int32) (Y : RS), ¬ gI Y 66 = 0 → K N 205 [(0, .ref 1000), (1, .int x1), (2, .int x2)] [] Y) ∧ (∀ (x1 : Int32) (x2 : Int32) (Y : RS), ¬ gI Y 66 = 0 → K N 211 [(0, .ref 1000), (1, .int x1), (2, .int x2)] [] Y) ∧ (∀ (x1 : Int32) (x2 : Int32) (x4 : Int32) (x5 : Int32) (Y : RS), ¬ gI Y 66 = 0 → K N 250 [(0, .ref 1000), (1, .int x1), (2, .int x2), (4, .int x4), (5, .int x5)] [] Y) ∧ (∀ (x1 : Int32) (x2 : Int32) (x4 : Int32) (x5 : Int32) (Y : RS), ¬ gI Y 66 = 0 → K N 255 [(0, .ref 1000), (1, .int x1), (2, .int x2), (4, .int x4), (5, .int x5)] [] Y) ∧ (∀ (x1 : Int32) (x2 : Int32) (x4 : Int32) (x5 : Int32) (Y : RS), ¬ gI Y 66 = 0 → K N 263 [(0, .ref 1000), (1, .int x1), (2, .int x2), (4, .int x4), (5, .int x5)] [] Y) ∧ (∀ (x1 : Int32) (x2 : Int32) (x4 : Int32) (x5 : Int32) (Y : RS), ¬ gI Y 66 = 0 → K N 275 [(0, .ref 1000), (1, .int x1), (2, .int x2), (4, .int x4), (5, .int x5)] [] Y) ∧ (∀ (x1 : Int32) (x2 : Int32) (x4 : Int32) (x5 : Int32) (Y : RS), ¬ gI Y 66 = 0 → K N 289 [(0, .ref 1000), (1, .int x1), (2, .int x2), (4, .int x4), (5, .int x5)] [] Y) ∧ (∀ (x1 : Int32) (x2 : Int32) (x4 : Int32) (x5 : Int32) (Y : RS), ¬ gI Y 66 = 0 → K N 293 [(0, .ref 1000), (1, .int x1), (2, .int x2), (4, .int x4), (5, .int x5)] [] Y) ∧ (∀ (x1 : Int32) (x2 : Int32) (x4 : Int32) (x5 : Int32) (s0 : Int32) (Y : RS), ¬ gI Y 66 = 0 → K N 294 [(0, .ref 1000), (1, .int x1), (2, .int x2), (4, .int x4), (5, .int x5)] [.int s0] Y) ∧ (∀ (x1 : Int32) (x2 : Int32) (x4 : Int32) (x5 : Int32) (x6 : Int32) (Y : RS), ¬ gI Y 66 = 0 → K N 310 [(0, .ref 1000), (1, .int x1), (2, .int x2), (4, .int x4), (5, .int x5), (6, .int x6)] [] Y) ∧ (∀ (x1 : Int32) (x2 : Int32) (x4 : Int32) (x5 : Int32) (x6 : Int32) (Y : RS), ¬ gI Y 66 = 0 → K N 326 [(0, .ref 1000), (1, .int x1), (2, .int x2), (4, .int x4), (5, .int x5), (6, .int x6)] [] Y) ∧ (∀ (x1 : Int32) (x2 : Int32) (x4 : Int32) (x5 : Int32) (x6 : Int32) (Y : RS), ¬ gI Y 66 = 0 → K N 330 [(0, .ref 1000), (1, .int x1), (2, .int x2), (4, .int x4), (5, .int x5), (6, .int x6)] [] Y) ∧ (∀ (x1 : Int32) (x2 : Int32) (x4 : Int32) (x5 : Int32) (x6 : Int32) (s0 : Int32) (Y : RS), ¬ gI Y 66 = 0 → K N 331 [(0, .ref 1000), (1, .int x1), (2, .int x2), (4, .int x4), (5, .int x5), (6, .int x6)] [.int s0] Y) ∧ (∀ (x1 : Int32) (x2 : Int32) (x4 : Int32) (x5 : Int32) (x6 : Int32) (x7 : Int32) (Y : RS), ¬ gI Y 66 = 0 → K N 347 [(0, .ref 1000), (1, .int x1), (2, .int x2), (4, .int x4), (5, .int x5), (6, .int x6), (7, .int x7)] [] Y) ∧ (∀ (x1 : Int32) (x2 : Int32) (x4 : Int32) (x5 : Int32) (x6 : Int32) (x7 : Int32) (Y : RS), ¬ gI Y 66 = 0 → K N 363 [(0, .ref 1000), (1, .int x1), (2, .int x2), (4, .int x4), (5, .int x5), (6, .int x6), (7, .int x7)] [] Y) ∧ (∀ (x1 : Int32) (x2 : Int32) (x4 : Int32) (x5 : Int32) (x6 : Int32) (x7 : Int32) (Y : RS), ¬ gI Y 66 = 0 → K N 367 [(0, .ref 1000), (1, .int x1), (2, .int x2), (4, .int x4), (5, .int x5), (6, .int x6), (7, .int x7)] [] Y) ∧ (∀ (x1 : Int32) (x2 : Int32) (x4 : Int32) (x5 : Int32) (x6 : Int32) (x7 : Int32) (s0 : Int32) (Y : RS), ¬ gI Y 66 = 0 → K N 368 [(0, .ref 1000), (1, .int x1), (2, .int x2), (4, .int x4), (5, .int x5), (6, .int x6), (7, .int x7)] [.int s0] Y) ∧ (∀ (x1 : Int32) (x2 : Int32) (x4 : Int32) (x5 : Int32) (x6 : Int32) (x7 : Int32) (x8 : Int32) (s0 : Int32) (s1 : Int32) (s2 : Int32) (Y : RS), ¬ gI Y 66 = 0 → K N 386 [(0, .ref 1000), (1, .int x1), (2, .int x2), (4, .int x4), (5, .int x5), (6, .int x6), (7, .int x7), (8, .int x8)] [.int s0, .int s1, .int s2, .ref 1000] Y) ∧ (∀ (x1 : Int32) (x2 : Int32) (x4 : Int32) (x5 : Int32) (x6 : Int32) (x7 : Int32) (x8 : Int32) (s0 : Int32) (s1 : Int32) (s2 : Int32) (Y : RS), ¬ gI Y 66 = 0 → K N 391 [(0, .ref 1000), (1, .int x1), (2, .int x2), (4, .int x4), (5, .int x5), (6, .int x6), (7, .int x7), (8, .int x8)] [.int s0, .int s1, .int s2, .ref 1000] Y) ∧ (∀ (x1 : Int32) (x2 : Int32) (x4 : Int32) (x5 : Int32) (x6 : Int32) (x7 : Int32) (x8 : Int32) (s0 : Int32) (s1 : Int32) (s2 : Int32) (Y : RS), ¬ gI Y 66 = 0 → K N 394 [(0, .ref 1000), (1, .int x1), (2, .int x2), (4, .int x4), (5, .int x5), (6, .int x6), (7, .int x7), (8, .int x8)] [.int s0, .int s1, .int s2, .ref 1000] Y) ∧ (∀ (x1 : Int32) (x2 : Int32) (x4 : Int32) (x5 : Int32) (x6 : Int32) (x7 : Int32) (x8 : Int32) (s0 : Int32) (s1 : Int32) (s2 : Int32) (Y : RS), ¬ gI Y 66 = 0 → K N 399 [(0, .ref 1000), (1, .int x1), (2, .int x2), (4, .int x4), (5, .int x5), (6, .int x6), (7, .int x7), (8, .int x8)] [.int s0, .int s1, .int s2, .ref 1000] Y) ∧ (∀ (x1 : Int32) (x2 : Int32) (x4 : Int32) (x5 : Int32) (x6 : Int32) (x7 : Int32) (x8 : Int32) (s0 : Int32) (s1 : Int32) (s2 : Int32) (Y : RS), ¬ gI Y 66 = 0 → K N 403 [(0, .ref 1000), (1, .int x1), (2, .int x2), (4, .int x4), (5, .int x5), (6, .int x6), (7, .int x7), (8, .int x8)] [.int s0, .int s1, .int s2, .ref 1000] Y) ∧ (∀ (x1 : Int32) (x2 : Int32) (x4 : Int32) (x5 : Int32) (x6 : Int32) (x7 : Int32) (x8 : Int32) (s0 : Int64) (s1 : Int32) (s2 : Int32) (s3 : Int32) (Y : RS), ¬ gI Y 66 = 0 → K N 404 [(0, .ref 1000), (1, .int x1), (2, .int x2), (4, .int x4), (5, .int x5), (6, .int x6), (7, .int x7), (8, .int x8)] [.long s0, .int s1, .int s2, .int s3, .ref 1000] Y) ∧ (∀ (x1 : Int32) (x2 : Int32) (x4 : Int32) (x5 : Int32) (Y : RS), ¬ gI Y 66 = 0 → K N 407 [(0, .ref 1000), (1, .int x1), (2, .int x2), (4, .int x4), (5, .int x5)] [] Y) ∧ (∀ (x1 : Int32) (x2 : Int32) (Y : RS), ¬ gI Y 66 = 0 → K N 408 [(0, .ref 1000), (1, .int x1), (2, .int x2)] [] Y) ∧ (∀ (x1 : Int32) (x2 : Int32) (Y : RS), ¬ gI Y 66 = 0 → K N 414 [(0, .ref 1000), (1, .int x1), (2, .int x2)] [] Y) ∧ (∀ (x1 : Int32) (x2 : Int32) (Y : RS), ¬ gI Y 66 = 0 → K N 457 [(0, .ref 1000), (1, .int x1), (2, .int x2)] [] Y) ∧ (∀ (x1 : Int32) (x2 : Int32) (Y : RS), ¬ gI Y 66 = 0 → K N 464 [(0, .ref 1000), (1, .int x1), (2, .int x2)] [] Y) ∧ (∀ (x1 : Int32) (x2 : Int32) (Y : RS), ¬ gI Y 66 = 0 → K N 471 [(0, .ref 1000), (1, .int x1), (2, .int x2)] [] Y) := by
      intro hnn
      intro N
      induction N using Nat.strongRecOn with
      | ind N ih =>
        refine ⟨?_, ?_, ?_, ?_, ?_, ?_, ?_, ?_, ?_, ?_, ?_, ?_, ?_, ?_, ?_, ?_, ?_, ?_, ?_, ?_, ?_, ?_, ?_, ?_, ?_, ?_, ?_, ?_, ?_, ?_, ?_, ?_, ?_, ?_, ?_, ?_, ?_, ?_, ?_, ?_, ?_, ?_⟩
        · intro x1 Y hz
          refine hB _ _ _ _ _ (fun m1 hm1 => ?_)
          dsimp only [ugo, uwp, ust, uct, rfd, BjudgeExp, BjudgeExp_0, Nat.beq, lv_args, rlk, rs1, rs2, rdl, rky, rcd, rno, rsw, Value.category, List.filter, List.take, List.drop, List.reverse, List.reverseAux, List.cons_append, List.nil_append, Option.toList, Int.toNat, Int.reduceToNat, if_pos, if_neg, reduceIte, ↓reduceIte, Nat.reduceAdd, Nat.reduceEqDiff, Nat.reduceBEq, beq_self_eq_true, Bool.not_true, Bool.not_false, Bool.and_true, Bool.and_false, Bool.true_and, Bool.false_and, gI_sI, gI_sL, gI_sA, gI_sM, gL_sI, gL_sL, gL_sA, gL_sM, aI_sI, aI_sL, aI_sA, aI_sM, aL_sI, aL_sL, aL_sA, aL_sM]; try dsimp only
          intro p2
          intro p3
          refine ⟨fun h4 => ?_, fun h4 => ?_⟩
          · exact hW _ 100 [(0, .ref 1000), (1, .int x1), (2, .int ((aI Y 22) (x1).toNatClampNeg))] _ _ _ (by simp [rdl, rky, Value.category]) ((ih m1 hm1).2.1 x1 ((aI Y 22) (x1).toNatClampNeg) _ hz)
          refine ⟨fun h5 => ?_, fun h5 => ?_⟩
          · exact hW _ 107 [(0, .ref 1000), (1, .int x1), (2, .int ((aI Y 22) (x1).toNatClampNeg))] _ _ _ (by simp [rdl, rky, Value.category]) ((ih m1 hm1).2.2.1 x1 ((aI Y 22) (x1).toNatClampNeg) _ hz)
          refine ⟨fun h6 => ?_, fun h6 => ?_⟩
          · exact hW _ 186 [(0, .ref 1000), (1, .int x1), (2, .int ((aI Y 22) (x1).toNatClampNeg))] _ _ _ (by simp [rdl, rky, Value.category]) ((ih m1 hm1).2.2.2.2.2.2.2.2.2.2.1 x1 ((aI Y 22) (x1).toNatClampNeg) _ hz)
          refine ⟨fun h7 => ?_, fun h7 => ?_⟩
          · exact hW _ 186 [(0, .ref 1000), (1, .int x1), (2, .int ((aI Y 22) (x1).toNatClampNeg))] _ _ _ (by simp [rdl, rky, Value.category]) ((ih m1 hm1).2.2.2.2.2.2.2.2.2.2.1 x1 ((aI Y 22) (x1).toNatClampNeg) _ hz)
          refine ⟨fun h8 => ?_, fun h8 => ?_⟩
          · exact hW _ 193 [(0, .ref 1000), (1, .int x1), (2, .int ((aI Y 22) (x1).toNatClampNeg))] _ _ _ (by simp [rdl, rky, Value.category]) ((ih m1 hm1).2.2.2.2.2.2.2.2.2.2.2.1 x1 ((aI Y 22) (x1).toNatClampNeg) _ hz)
          refine ⟨fun h9 => ?_, fun h9 => ?_⟩
          · exact hW _ 199 [(0, .ref 1000), (1, .int x1), (2, .int ((aI Y 22) (x1).toNatClampNeg))] _ _ _ (by simp [rdl, rky, Value.category]) ((ih m1 hm1).2.2.2.2.2.2.2.2.2.2.2.2.1 x1 ((aI Y 22) (x1).toNatClampNeg) _ hz)
          refine ⟨fun h10 => ?_, fun h10 => ?_⟩
          · exact hW _ 205 [(0, .ref 1000), (1, .int x1), (2, .int ((aI Y 22) (x1).toNatClampNeg))] _ _ _ (by simp [rdl, rky, Value.category]) ((ih m1 hm1).2.2.2.2.2.2.2.2.2.2.2.2.2.1 x1 ((aI Y 22) (x1).toNatClampNeg) _ hz)
          refine ⟨fun h11 => ?_, fun h11 => ?_⟩
          · exact hW _ 471 [(0, .ref 1000), (1, .int x1), (2, .int ((aI Y 22) (x1).toNatClampNeg))] _ _ _ (by simp [rdl, rky, Value.category]) ((ih m1 hm1).2.2.2.2.2.2.2.2.2.2.2.2.2.2.2.2.2.2.2.2.2.2.2.2.2.2.2.2.2.2.2.2.2.2.2.2.2.2.2.2.2 x1 ((aI Y 22) (x1).toNatClampNeg) _ hz)
          refine ⟨fun h12 => ?_, fun h12 => ?_⟩
          · exact hW _ 211 [(0, .ref 1000), (1, .int x1), (2, .int ((aI Y 22) (x1).toNatClampNeg))] _ _ _ (by simp [rdl, rky, Value.category]) ((ih m1 hm1).2.2.2.2.2.2.2.2.2.2.2.2.2.2.1 x1 ((aI Y 22) (x1).toNatClampNeg) _ hz)
          refine ⟨fun h13 => ?_, fun h13 => ?_⟩
          · exact hW _ 471 [(0, .ref 1000), (1, .int x1), (2, .int ((aI Y 22) (x1).toNatClampNeg))] _ _ _ (by simp [rdl, rky, Value.category]) ((ih m1 hm1).2.2.2.2.2.2.2.2.2.2.2.2.2.2.2.2.2.2.2.2.2.2.2.2.2.2.2.2.2.2.2.2.2.2.2.2.2.2.2.2.2 x1 ((aI Y 22) (x1).toNatClampNeg) _ hz)
          refine ⟨fun h14 => ?_, fun h14 => ?_⟩
          · exact hW _ 211 [(0, .ref 1000), (1, .int x1), (2, .int ((aI Y 22) (x1).toNatClampNeg))] _ _ _ (by simp [rdl, rky, Value.category]) ((ih m1 hm1).2.2.2.2.2.2.2.2.2.2.2.2.2.2.1 x1 ((aI Y 22) (x1).toNatClampNeg) _ hz)
          refine ⟨fun h15 => ?_, fun h15 => ?_⟩
          · exact hW _ 471 [(0, .ref 1000), (1, .int x1), (2, .int ((aI Y 22) (x1).toNatClampNeg))] _ _ _ (by simp [rdl, rky, Value.category]) ((ih m1 hm1).2.2.2.2.2.2.2.2.2.2.2.2.2.2.2.2.2.2.2.2.2.2.2.2.2.2.2.2.2.2.2.2.2.2.2.2.2.2.2.2.2 x1 ((aI Y 22) (x1).toNatClampNeg) _ hz)
          refine ⟨fun h16 => ?_, fun h16 => ?_⟩
          · exact hW _ 471 [(0, .ref 1000), (1, .int x1), (2, .int ((aI Y 22) (x1).toNatClampNeg))] _ _ _ (by simp [rdl, rky, Value.category]) ((ih m1 hm1).2.2.2.2.2.2.2.2.2.2.2.2.2.2.2.2.2.2.2.2.2.2.2.2.2.2.2.2.2.2.2.2.2.2.2.2.2.2.2.2.2 x1 ((aI Y 22) (x1).toNatClampNeg) _ hz)
          refine ⟨fun h17 => ?_, fun h17 => ?_⟩
          · exact hW _ 408 [(0, .ref 1000), (1, .int x1), (2, .int ((aI Y 22) (x1).toNatClampNeg))] _ _ _ (by simp [rdl, rky, Value.category]) ((ih m1 hm1).2.2.2.2.2.2.2.2.2.2.2.2.2.2.2.2.2.2.2.2.2.2.2.2.2.2.2.2.2.2.2.2.2.2.2.2.2.1 x1 ((aI Y 22) (x1).toNatClampNeg) _ hz)
          refine ⟨fun h18 => ?_, fun h18 => ?_⟩
          · exact hW _ 414 [(0, .ref 1000), (1, .int x1), (2, .int ((aI Y 22) (x1).toNatClampNeg))] _ _ _ (by simp [rdl, rky, Value.category]) ((ih m1 hm1).2.2.2.2.2.2.2.2.2.2.2.2.2.2.2.2.2.2.2.2.2.2.2.2.2.2.2.2.2.2.2.2.2.2.2.2.2.2.1 x1 ((aI Y 22) (x1).toNatClampNeg) _ hz)
          refine ⟨fun h19 => ?_, fun h19 => ?_⟩
          · exact hW _ 471 [(0, .ref 1000), (1, .int x1), (2, .int ((aI Y 22) (x1).toNatClampNeg))] _ _ _ (by simp [rdl, rky, Value.category]) ((ih m1 hm1).2.2.2.2.2.2.2.2.2.2.2.2.2.2.2.2.2.2.2.2.2.2.2.2.2.2.2.2.2.2.2.2.2.2.2.2.2.2.2.2.2 x1 ((aI Y 22) (x1).toNatClampNeg) _ hz)
          refine ⟨fun h20 => ?_, fun h20 => ?_⟩
          · exact hW _ 457 [(0, .ref 1000), (1, .int x1), (2, .int ((aI Y 22) (x1).toNatClampNeg))] _ _ _ (by simp [rdl, rky, Value.category]) ((ih m1 hm1).2.2.2.2.2.2.2.2.2.2.2.2.2.2.2.2.2.2.2.2.2.2.2.2.2.2.2.2.2.2.2.2.2.2.2.2.2.2.2.1 x1 ((aI Y 22) (x1).toNatClampNeg) _ hz)
          refine ⟨fun h21 => ?_, fun h21 => ?_⟩
          · exact hW _ 464 [(0, .ref 1000), (1, .int x1), (2, .int ((aI Y 22) (x1).toNatClampNeg))] _ _ _ (by simp [rdl, rky, Value.category]) ((ih m1 hm1).2.2.2.2.2.2.2.2.2.2.2.2.2.2.2.2.2.2.2.2.2.2.2.2.2.2.2.2.2.2.2.2.2.2.2.2.2.2.2.2.1 x1 ((aI Y 22) (x1).toNatClampNeg) _ hz)
          exact hW _ 471 [(0, .ref 1000), (1, .int x1), (2, .int ((aI Y 22) (x1).toNatClampNeg))] _ _ _ (by simp [rdl, rky, Value.category]) ((ih m1 hm1).2.2.2.2.2.2.2.2.2.2.2.2.2.2.2.2.2.2.2.2.2.2.2.2.2.2.2.2.2.2.2.2.2.2.2.2.2.2.2.2.2 x1 ((aI Y 22) (x1).toNatClampNeg) _ hz)
        · intro x1 x2 Y hz
          refine hB _ _ _ _ _ (fun m1 hm1 => ?_)
          dsimp only [ugo, uwp, ust, uct, rfd, BjudgeExp, BjudgeExp_100, Nat.beq, lv_args, rlk, rs1, rs2, rdl, rky, rcd, rno, rsw, Value.category, List.filter, List.take, List.drop, List.reverse, List.reverseAux, List.cons_append, List.nil_append, Option.toList, Int.toNat, Int.reduceToNat, if_pos, if_neg, reduceIte, ↓reduceIte, Nat.reduceAdd, Nat.reduceEqDiff, Nat.reduceBEq, beq_self_eq_true, Bool.not_true, Bool.not_false, Bool.and_true, Bool.and_false, Bool.true_and, Bool.false_and, gI_sI, gI_sL, gI_sA, gI_sM, gL_sI, gL_sL, gL_sA, gL_sM, aI_sI, aI_sL, aI_sA, aI_sM, aL_sI, aL_sL, aL_sA, aL_sM]; try dsimp only
          refine ⟨trivial, fun w2 τ2 hq2 => ?_⟩
          obtain ⟨rfl, hz2⟩ := hq2.1 hz
          dsimp only [Option.toList, List.cons_append, List.nil_append, Nat.beq, gI_sI, gI_sL, gI_sA, gI_sM, gL_sI, gL_sL, gL_sA, gL_sM, aI_sI, aI_sL, aI_sA, aI_sM, aL_sI, aL_sL, aL_sA, aL_sM]
          unfold Qv_judgeExpB
          try dsimp only
          exact ⟨rfl, Or.inl ⟨hnn, hz2⟩⟩
        · intro x1 x2 Y hz
          refine hB _ _ _ _ _ (fun m1 hm1 => ?_)
          dsimp only [ugo, uwp, ust, uct, rfd, BjudgeExp, BjudgeExp_107, Nat.beq, lv_args, rlk, rs1, rs2, rdl, rky, rcd, rno, rsw, Value.category, List.filter, List.take, List.drop, List.reverse, List.reverseAux, List.cons_append, List.nil_append, Option.toList, Int.toNat, Int.reduceToNat, if_pos, if_neg, reduceIte, ↓reduceIte, Nat.reduceAdd, Nat.reduceEqDiff, Nat.reduceBEq, beq_self_eq_true, Bool.not_true, Bool.not_false, Bool.and_true, Bool.and_false, Bool.true_and, Bool.false_and, gI_sI, gI_sL, gI_sA, gI_sM, gL_sI, gL_sL, gL_sA, gL_sM, aI_sI, aI_sL, aI_sA, aI_sM, aL_sI, aL_sL, aL_sA, aL_sM]; try dsimp only
          refine ⟨trivial, fun w2 τ2 hq2 => ?_⟩
          obtain ⟨rfl, r2, rfl, hr2⟩ := hq2 trivial
          dsimp only [Option.toList, List.cons_append, List.nil_append, Nat.beq, gI_sI, gI_sL, gI_sA, gI_sM, gL_sI, gL_sL, gL_sA, gL_sM, aI_sI, aI_sL, aI_sA, aI_sM, aL_sI, aL_sL, aL_sA, aL_sM]
          intro p3
          refine ⟨fun h4 => ?_, fun h4 => ?_⟩
          · exact hW _ 138 [(0, .ref 1000), (1, .int x1), (2, .int x2), (3, .int r2)] _ _ _ (by simp [rdl, rky, Value.category]) ((ih m1 hm1).2.2.2.2.1 x1 x2 r2 _ hz)
          · exact hW _ 124 [(0, .ref 1000), (1, .int x1), (2, .int x2), (3, .int r2)] _ _ _ (by simp [rdl, rky, Value.category]) ((ih m1 hm1).2.2.2.1 x1 x2 r2 _ hz)
        · intro x1 x2 x3 Y hz
          refine hB _ _ _ _ _ (fun m1 hm1 => ?_)
          dsimp only [ugo, uwp, ust, uct, rfd, BjudgeExp, BjudgeExp_124, Nat.beq, lv_args, rlk, rs1, rs2, rdl, rky, rcd, rno, rsw, Value.category, List.filter, List.take, List.drop, List.reverse, List.reverseAux, List.cons_append, List.nil_append, Option.toList, Int.toNat, Int.reduceToNat, if_pos, if_neg, reduceIte, ↓reduceIte, Nat.reduceAdd, Nat.reduceEqDiff, Nat.reduceBEq, beq_self_eq_true, Bool.not_true, Bool.not_false, Bool.and_true, Bool.and_false, Bool.true_and, Bool.false_and, gI_sI, gI_sL, gI_sA, gI_sM, gL_sI, gL_sL, gL_sA, gL_sM, aI_sI, aI_sL, aI_sA, aI_sM, aL_sI, aL_sL, aL_sA, aL_sM, oi_3]; try dsimp only
          refine ⟨trivial, fun w2 τ2 hq2 => ?_⟩
          obtain ⟨rfl, hz2⟩ := hq2 (show ¬ (3 : Int32) = 0 by decide)
          dsimp only [Option.toList, List.cons_append, List.nil_append, Nat.beq, gI_sI, gI_sL, gI_sA, gI_sM, gL_sI, gL_sL, gL_sA, gL_sM, aI_sI, aI_sL, aI_sA, aI_sM, aL_sI, aL_sL, aL_sA, aL_sM]
          refine ⟨trivial, fun w3 τ3 hq3 => ?_⟩
          obtain ⟨rfl, rfl⟩ := hq3 trivial
          dsimp only [Option.toList, List.cons_append, List.nil_append, Nat.beq, gI_sI, gI_sL, gI_sA, gI_sM, gL_sI, gL_sL, gL_sA, gL_sM, aI_sI, aI_sL, aI_sA, aI_sM, aL_sI, aL_sL, aL_sA, aL_sM]
          exact hW _ 185 [(0, .ref 1000), (1, .int x1), (2, .int x2), (3, .int x3)] _ _ _ (by simp [rdl, rky, Value.category]) ((ih m1 hm1).2.2.2.2.2.2.2.2.2.1 x1 x2 x3 _ hz2)
        · intro x1 x2 x3 Y hz
          refine hB _ _ _ _ _ (fun m1 hm1 => ?_)
          dsimp only [ugo, uwp, ust, uct, rfd, BjudgeExp, BjudgeExp_138, Nat.beq, lv_args, rlk, rs1, rs2, rdl, rky, rcd, rno, rsw, Value.category, List.filter, List.take, List.drop, List.reverse, List.reverseAux, List.cons_append, List.nil_append, Option.toList, Int.toNat, Int.reduceToNat, if_pos, if_neg, reduceIte, ↓reduceIte, Nat.reduceAdd, Nat.reduceEqDiff, Nat.reduceBEq, beq_self_eq_true, Bool.not_true, Bool.not_false, Bool.and_true, Bool.and_false, Bool.true_and, Bool.false_and, gI_sI, gI_sL, gI_sA, gI_sM, gL_sI, gL_sL, gL_sA, gL_sM, aI_sI, aI_sL, aI_sA, aI_sM, aL_sI, aL_sL, aL_sA, aL_sM]; try dsimp only
          intro p2
          intro p3
          intro p4
          refine ⟨fun h5 => ?_, fun h5 => ?_⟩
          · exact hW _ 175 [(0, .ref 1000), (1, .int x1), (2, .int x2), (3, .int x3)] _ _ _ (by simp [rdl, rky, Value.category]) ((ih m1 hm1).2.2.2.2.2.2.2.1 x1 x2 x3 ((aI Y 44) (x3).toNatClampNeg) x1 _ hz)
          · exact hW _ 162 [(0, .ref 1000), (1, .int x1), (2, .int x2), (3, .int x3)] _ _ _ (by simp [rdl, rky, Value.category]) ((ih m1 hm1).2.2.2.2.2.1 x1 x2 x3 ((aI Y 44) (x3).toNatClampNeg) x1 _ hz)
        · intro x1 x2 x3 s0 s1 Y hz
          refine hB _ _ _ _ _ (fun m1 hm1 => ?_)
          dsimp only [ugo, uwp, ust, uct, rfd, BjudgeExp, BjudgeExp_162, Nat.beq, lv_args, rlk, rs1, rs2, rdl, rky, rcd, rno, rsw, Value.category, List.filter, List.take, List.drop, List.reverse, List.reverseAux, List.cons_append, List.nil_append, Option.toList, Int.toNat, Int.reduceToNat, if_pos, if_neg, reduceIte, ↓reduceIte, Nat.reduceAdd, Nat.reduceEqDiff, Nat.reduceBEq, beq_self_eq_true, Bool.not_true, Bool.not_false, Bool.and_true, Bool.and_false, Bool.true_and, Bool.false_and, gI_sI, gI_sL, gI_sA, gI_sM, gL_sI, gL_sL, gL_sA, gL_sM, aI_sI, aI_sL, aI_sA, aI_sM, aL_sI, aL_sL, aL_sA, aL_sM]; try dsimp only
          intro p2
          refine ⟨fun h3 => ?_, fun h3 => ?_⟩
          · exact hW _ 175 [(0, .ref 1000), (1, .int x1), (2, .int x2), (3, .int x3)] _ _ _ (by simp [rdl, rky, Value.category]) ((ih m1 hm1).2.2.2.2.2.2.2.1 x1 x2 x3 s0 s1 _ hz)
          · exact hW _ 171 [(0, .ref 1000), (1, .int x1), (2, .int x2), (3, .int x3)] _ _ _ (by simp [rdl, rky, Value.category]) ((ih m1 hm1).2.2.2.2.2.2.1 x1 x2 x3 s0 s1 _ hz)
        · intro x1 x2 x3 s0 s1 Y hz
          refine hB _ _ _ _ _ (fun m1 hm1 => ?_)
          dsimp only [ugo, uwp, ust, uct, rfd, BjudgeExp, BjudgeExp_171, Nat.beq, lv_args, rlk, rs1, rs2, rdl, rky, rcd, rno, rsw, Value.category, List.filter, List.take, List.drop, List.reverse, List.reverseAux, List.cons_append, List.nil_append, Option.toList, Int.toNat, Int.reduceToNat, if_pos, if_neg, reduceIte, ↓reduceIte, Nat.reduceAdd, Nat.reduceEqDiff, Nat.reduceBEq, beq_self_eq_true, Bool.not_true, Bool.not_false, Bool.and_true, Bool.and_false, Bool.true_and, Bool.false_and, gI_sI, gI_sL, gI_sA, gI_sM, gL_sI, gL_sL, gL_sA, gL_sM, aI_sI, aI_sL, aI_sA, aI_sM, aL_sI, aL_sL, aL_sA, aL_sM, oi_1]; try dsimp only
          exact hW _ 176 [(0, .ref 1000), (1, .int x1), (2, .int x2), (3, .int x3)] _ _ _ (by simp [rdl, rky, Value.category]) ((ih m1 hm1).2.2.2.2.2.2.2.2.1 x1 x2 x3 1 s0 s1 _ hz)
        · intro x1 x2 x3 s0 s1 Y hz
          refine hB _ _ _ _ _ (fun m1 hm1 => ?_)
          dsimp only [ugo, uwp, ust, uct, rfd, BjudgeExp, BjudgeExp_175, Nat.beq, lv_args, rlk, rs1, rs2, rdl, rky, rcd, rno, rsw, Value.category, List.filter, List.take, List.drop, List.reverse, List.reverseAux, List.cons_append, List.nil_append, Option.toList, Int.toNat, Int.reduceToNat, if_pos, if_neg, reduceIte, ↓reduceIte, Nat.reduceAdd, Nat.reduceEqDiff, Nat.reduceBEq, beq_self_eq_true, Bool.not_true, Bool.not_false, Bool.and_true, Bool.and_false, Bool.true_and, Bool.false_and, gI_sI, gI_sL, gI_sA, gI_sM, gL_sI, gL_sL, gL_sA, gL_sM, aI_sI, aI_sL, aI_sA, aI_sM, aL_sI, aL_sL, aL_sA, aL_sM, oi_0]; try dsimp only
          exact hW _ 176 [(0, .ref 1000), (1, .int x1), (2, .int x2), (3, .int x3)] _ _ _ (by simp [rdl, rky, Value.category]) ((ih m1 hm1).2.2.2.2.2.2.2.2.1 x1 x2 x3 0 s0 s1 _ hz)
        · intro x1 x2 x3 s0 s1 s2 Y hz
          refine hB _ _ _ _ _ (fun m1 hm1 => ?_)
          dsimp only [ugo, uwp, ust, uct, rfd, BjudgeExp, BjudgeExp_176, Nat.beq, lv_args, rlk, rs1, rs2, rdl, rky, rcd, rno, rsw, Value.category, List.filter, List.take, List.drop, List.reverse, List.reverseAux, List.cons_append, List.nil_append, Option.toList, Int.toNat, Int.reduceToNat, if_pos, if_neg, reduceIte, ↓reduceIte, Nat.reduceAdd, Nat.reduceEqDiff, Nat.reduceBEq, beq_self_eq_true, Bool.not_true, Bool.not_false, Bool.and_true, Bool.and_false, Bool.true_and, Bool.false_and, gI_sI, gI_sL, gI_sA, gI_sM, gL_sI, gL_sL, gL_sA, gL_sM, aI_sI, aI_sL, aI_sA, aI_sM, aL_sI, aL_sL, aL_sA, aL_sM]; try dsimp only
          intro p2
          refine ⟨trivial, fun w3 τ3 hq3 => ?_⟩
          obtain ⟨rfl, rfl⟩ := hq3 trivial
          dsimp only [Option.toList, List.cons_append, List.nil_append, Nat.beq, gI_sI, gI_sL, gI_sA, gI_sM, gL_sI, gL_sL, gL_sA, gL_sM, aI_sI, aI_sL, aI_sA, aI_sM, aL_sI, aL_sL, aL_sA, aL_sM]
          exact hW _ 185 [(0, .ref 1000), (1, .int x1), (2, .int x2), (3, .int x3)] _ _ _ (by simp [rdl, rky, Value.category]) ((ih m1 hm1).2.2.2.2.2.2.2.2.2.1 x1 x2 x3 _ hz)
        · intro x1 x2 x3 Y hz
          refine hB _ _ _ _ _ (fun m1 hm1 => ?_)
          dsimp only [ugo, uwp, ust, uct, rfd, BjudgeExp, BjudgeExp_185, Nat.beq, lv_args, rlk, rs1, rs2, rdl, rky, rcd, rno, rsw, Value.category, List.filter, List.take, List.drop, List.reverse, List.reverseAux, List.cons_append, List.nil_append, Option.toList, Int.toNat, Int.reduceToNat, if_pos, if_neg, reduceIte, ↓reduceIte, Nat.reduceAdd, Nat.reduceEqDiff, Nat.reduceBEq, beq_self_eq_true, Bool.not_true, Bool.not_false, Bool.and_true, Bool.and_false, Bool.true_and, Bool.false_and, gI_sI, gI_sL, gI_sA, gI_sM, gL_sI, gL_sL, gL_sA, gL_sM, aI_sI, aI_sL, aI_sA, aI_sM, aL_sI, aL_sL, aL_sA, aL_sM]; try dsimp only
          unfold Qv_judgeExpB
          try dsimp only
          exact ⟨rfl, Or.inl ⟨hnn, hz⟩⟩
        · intro x1 x2 Y hz
          refine hB _ _ _ _ _ (fun m1 hm1 => ?_)
          dsimp only [ugo, uwp, ust, uct, rfd, BjudgeExp, BjudgeExp_186, Nat.beq, lv_args, rlk, rs1, rs2, rdl, rky, rcd, rno, rsw, Value.category, List.filter, List.take, List.drop, List.reverse, List.reverseAux, List.cons_append, List.nil_append, Option.toList, Int.toNat, Int.reduceToNat, if_pos, if_neg, reduceIte, ↓reduceIte, Nat.reduceAdd, Nat.reduceEqDiff, Nat.reduceBEq, beq_self_eq_true, Bool.not_true, Bool.not_false, Bool.and_true, Bool.and_false, Bool.true_and, Bool.false_and, gI_sI, gI_sL, gI_sA, gI_sM, gL_sI, gL_sL, gL_sA, gL_sM, aI_sI, aI_sL, aI_sA, aI_sM, aL_sI, aL_sL, aL_sA, aL_sM]; try dsimp only
          refine ⟨trivial, fun w2 τ2 hq2 => ?_⟩
          obtain ⟨rfl, hz2⟩ := hq2.1 hz
          dsimp only [Option.toList, List.cons_append, List.nil_append, Nat.beq, gI_sI, gI_sL, gI_sA, gI_sM, gL_sI, gL_sL, gL_sA, gL_sM, aI_sI, aI_sL, aI_sA, aI_sM, aL_sI, aL_sL, aL_sA, aL_sM]
          unfold Qv_judgeExpB
          try dsimp only
          exact ⟨rfl, Or.inl ⟨hnn, hz2⟩⟩
        · intro x1 x2 Y hz
          refine hB _ _ _ _ _ (fun m1 hm1 => ?_)
          dsimp only [ugo, uwp, ust, uct, rfd, BjudgeExp, BjudgeExp_193, Nat.beq, lv_args, rlk, rs1, rs2, rdl, rky, rcd, rno, rsw, Value.category, List.filter, List.take, List.drop, List.reverse, List.reverseAux, List.cons_append, List.nil_append, Option.toList, Int.toNat, Int.reduceToNat, if_pos, if_neg, reduceIte, ↓reduceIte, Nat.reduceAdd, Nat.reduceEqDiff, Nat.reduceBEq, beq_self_eq_true, Bool.not_true, Bool.not_false, Bool.and_true, Bool.and_false, Bool.true_and, Bool.false_and, gI_sI, gI_sL, gI_sA, gI_sM, gL_sI, gL_sL, gL_sA, gL_sM, aI_sI, aI_sL, aI_sA, aI_sM, aL_sI, aL_sL, aL_sA, aL_sM]; try dsimp only
          refine ⟨trivial, fun w2 τ2 hq2 => ?_⟩
          obtain ⟨rfl, hz2⟩ := hq2.1 hz
          dsimp only [Option.toList, List.cons_append, List.nil_append, Nat.beq, gI_sI, gI_sL, gI_sA, gI_sM, gL_sI, gL_sL, gL_sA, gL_sM, aI_sI, aI_sL, aI_sA, aI_sM, aL_sI, aL_sL, aL_sA, aL_sM]
          unfold Qv_judgeExpB
          try dsimp only
          exact ⟨rfl, Or.inl ⟨hnn, hz2⟩⟩
        · intro x1 x2 Y hz
          refine hB _ _ _ _ _ (fun m1 hm1 => ?_)
          dsimp only [ugo, uwp, ust, uct, rfd, BjudgeExp, BjudgeExp_199, Nat.beq, lv_args, rlk, rs1, rs2, rdl, rky, rcd, rno, rsw, Value.category, List.filter, List.take, List.drop, List.reverse, List.reverseAux, List.cons_append, List.nil_append, Option.toList, Int.toNat, Int.reduceToNat, if_pos, if_neg, reduceIte, ↓reduceIte, Nat.reduceAdd, Nat.reduceEqDiff, Nat.reduceBEq, beq_self_eq_true, Bool.not_true, Bool.not_false, Bool.and_true, Bool.and_false, Bool.true_and, Bool.false_and, gI_sI, gI_sL, gI_sA, gI_sM, gL_sI, gL_sL, gL_sA, gL_sM, aI_sI, aI_sL, aI_sA, aI_sM, aL_sI, aL_sL, aL_sA, aL_sM]; try dsimp only
          refine ⟨trivial, fun w2 τ2 hq2 => ?_⟩
          obtain ⟨rfl, hz2⟩ := hq2.1 hz
          dsimp only [Option.toList, List.cons_append, List.nil_append, Nat.beq, gI_sI, gI_sL, gI_sA, gI_sM, gL_sI, gL_sL, gL_sA, gL_sM, aI_sI, aI_sL, aI_sA, aI_sM, aL_sI, aL_sL, aL_sA, aL_sM]
          unfold Qv_judgeExpB
          try dsimp only
          exact ⟨rfl, Or.inl ⟨hnn, hz2⟩⟩
        · intro x1 x2 Y hz
          refine hB _ _ _ _ _ (fun m1 hm1 => ?_)
          dsimp only [ugo, uwp, ust, uct, rfd, BjudgeExp, BjudgeExp_205, Nat.beq, lv_args, rlk, rs1, rs2, rdl, rky, rcd, rno, rsw, Value.category, List.filter, List.take, List.drop, List.reverse, List.reverseAux, List.cons_append, List.nil_append, Option.toList, Int.toNat, Int.reduceToNat, if_pos, if_neg, reduceIte, ↓reduceIte, Nat.reduceAdd, Nat.reduceEqDiff, Nat.reduceBEq, beq_self_eq_true, Bool.not_true, Bool.not_false, Bool.and_true, Bool.and_false, Bool.true_and, Bool.false_and, gI_sI, gI_sL, gI_sA, gI_sM, gL_sI, gL_sL, gL_sA, gL_sM, aI_sI, aI_sL, aI_sA, aI_sM, aL_sI, aL_sL, aL_sA, aL_sM]; try dsimp only
          refine ⟨trivial, fun w2 τ2 hq2 => ?_⟩
          obtain ⟨rfl, hz2⟩ := hq2.1 hz
          dsimp only [Option.toList, List.cons_append, List.nil_append, Nat.beq, gI_sI, gI_sL, gI_sA, gI_sM, gL_sI, gL_sL, gL_sA, gL_sM, aI_sI, aI_sL, aI_sA, aI_sM, aL_sI, aL_sL, aL_sA, aL_sM]
          unfold Qv_judgeExpB
          try dsimp only
          exact ⟨rfl, Or.inl ⟨hnn, hz2⟩⟩
        · intro x1 x2 Y hz
          refine hB _ _ _ _ _ (fun m1 hm1 => ?_)
          dsimp only [ugo, uwp, ust, uct, rfd, BjudgeExp, BjudgeExp_211, Nat.beq, lv_args, rlk, rs1, rs2, rdl, rky, rcd, rno, rsw, Value.category, List.filter, List.take, List.drop, List.reverse, List.reverseAux, List.cons_append, List.nil_append, Option.toList, Int.toNat, Int.reduceToNat, if_pos, if_neg, reduceIte, ↓reduceIte, Nat.reduceAdd, Nat.reduceEqDiff, Nat.reduceBEq, beq_self_eq_true, Bool.not_true, Bool.not_false, Bool.and_true, Bool.and_false, Bool.true_and, Bool.false_and, gI_sI, gI_sL, gI_sA, gI_sM, gL_sI, gL_sL, gL_sA, gL_sM, aI_sI, aI_sL, aI_sA, aI_sM, aL_sI, aL_sL, aL_sA, aL_sM, oi_0, oi_1, oi_2]; try dsimp only
          refine ⟨trivial, fun w2 τ2 hq2 => ?_⟩
          obtain ⟨hA2, b2, rfl, hb2⟩ := hq2 trivial
          have hz2 := hA2 hz
          dsimp only [Option.toList, List.cons_append, List.nil_append, Nat.beq, gI_sI, gI_sL, gI_sA, gI_sM, gL_sI, gL_sL, gL_sA, gL_sM, aI_sI, aI_sL, aI_sA, aI_sM, aL_sI, aL_sL, aL_sA, aL_sM]
          refine ⟨trivial, fun w3 τ3 hq3 => ?_⟩
          obtain ⟨hA3, b3, rfl, hb3⟩ := hq3 trivial
          have hz3 := hA3 hz2
          dsimp only [Option.toList, List.cons_append, List.nil_append, Nat.beq, gI_sI, gI_sL, gI_sA, gI_sM, gL_sI, gL_sL, gL_sA, gL_sM, aI_sI, aI_sL, aI_sA, aI_sM, aL_sI, aL_sL, aL_sA, aL_sM]
          refine ⟨fun h4 => ?_, fun h4 => ?_⟩
          · exact hW _ 255 [(0, .ref 1000), (1, .int x1), (2, .int x2), (4, .int b2), (5, .int b3)] _ _ _ (by simp [rdl, rky, Value.category]) ((ih m1 hm1).2.2.2.2.2.2.2.2.2.2.2.2.2.2.2.2.1 x1 x2 b2 b3 _ hz3)
          · exact hW _ 250 [(0, .ref 1000), (1, .int x1), (2, .int x2), (4, .int b2), (5, .int b3)] _ _ _ (by simp [rdl, rky, Value.category]) ((ih m1 hm1).2.2.2.2.2.2.2.2.2.2.2.2.2.2.2.1 x1 x2 b2 b3 _ hz3)
        · intro x1 x2 x4 x5 Y hz
          refine hB _ _ _ _ _ (fun m1 hm1 => ?_)
          dsimp only [ugo, uwp, ust, uct, rfd, BjudgeExp, BjudgeExp_250, Nat.beq, lv_args, rlk, rs1, rs2, rdl, rky, rcd, rno, rsw, Value.category, List.filter, List.take, List.drop, List.reverse, List.reverseAux, List.cons_append, List.nil_append, Option.toList, Int.toNat, Int.reduceToNat, if_pos, if_neg, reduceIte, ↓reduceIte, Nat.reduceAdd, Nat.reduceEqDiff, Nat.reduceBEq, beq_self_eq_true, Bool.not_true, Bool.not_false, Bool.and_true, Bool.and_false, Bool.true_and, Bool.false_and, gI_sI, gI_sL, gI_sA, gI_sM, gL_sI, gL_sL, gL_sA, gL_sM, aI_sI, aI_sL, aI_sA, aI_sM, aL_sI, aL_sL, aL_sA, aL_sM]; try dsimp only
          refine ⟨fun h2 => ?_, fun h2 => ?_⟩
          · exact hW _ 263 [(0, .ref 1000), (1, .int x1), (2, .int x2), (4, .int x4), (5, .int x5)] _ _ _ (by simp [rdl, rky, Value.category]) ((ih m1 hm1).2.2.2.2.2.2.2.2.2.2.2.2.2.2.2.2.2.1 x1 x2 x4 x5 _ hz)
          · exact hW _ 255 [(0, .ref 1000), (1, .int x1), (2, .int x2), (4, .int x4), (5, .int x5)] _ _ _ (by simp [rdl, rky, Value.category]) ((ih m1 hm1).2.2.2.2.2.2.2.2.2.2.2.2.2.2.2.2.1 x1 x2 x4 x5 _ hz)
        · intro x1 x2 x4 x5 Y hz
          refine hB _ _ _ _ _ (fun m1 hm1 => ?_)
          dsimp only [ugo, uwp, ust, uct, rfd, BjudgeExp, BjudgeExp_255, Nat.beq, lv_args, rlk, rs1, rs2, rdl, rky, rcd, rno, rsw, Value.category, List.filter, List.take, List.drop, List.reverse, List.reverseAux, List.cons_append, List.nil_append, Option.toList, Int.toNat, Int.reduceToNat, if_pos, if_neg, reduceIte, ↓reduceIte, Nat.reduceAdd, Nat.reduceEqDiff, Nat.reduceBEq, beq_self_eq_true, Bool.not_true, Bool.not_false, Bool.and_true, Bool.and_false, Bool.true_and, Bool.false_and, gI_sI, gI_sL, gI_sA, gI_sM, gL_sI, gL_sL, gL_sA, gL_sM, aI_sI, aI_sL, aI_sA, aI_sM, aL_sI, aL_sL, aL_sA, aL_sM]; try dsimp only
          refine ⟨trivial, fun w2 τ2 hq2 => ?_⟩
          obtain ⟨rfl, rfl⟩ := hq2 trivial
          dsimp only [Option.toList, List.cons_append, List.nil_append, Nat.beq, gI_sI, gI_sL, gI_sA, gI_sM, gL_sI, gL_sL, gL_sA, gL_sM, aI_sI, aI_sL, aI_sA, aI_sM, aL_sI, aL_sL, aL_sA, aL_sM]
          exact hW _ 407 [(0, .ref 1000), (1, .int x1), (2, .int x2), (4, .int x4), (5, .int x5)] _ _ _ (by simp [rdl, rky, Value.category]) ((ih m1 hm1).2.2.2.2.2.2.2.2.2.2.2.2.2.2.2.2.2.2.2.2.2.2.2.2.2.2.2.2.2.2.2.2.2.2.2.2.1 x1 x2 x4 x5 _ hz)
        · intro x1 x2 x4 x5 Y hz
          refine hB _ _ _ _ _ (fun m1 hm1 => ?_)
          dsimp only [ugo, uwp, ust, uct, rfd, BjudgeExp, BjudgeExp_263, Nat.beq, lv_args, rlk, rs1, rs2, rdl, rky, rcd, rno, rsw, Value.category, List.filter, List.take, List.drop, List.reverse, List.reverseAux, List.cons_append, List.nil_append, Option.toList, Int.toNat, Int.reduceToNat, if_pos, if_neg, reduceIte, ↓reduceIte, Nat.reduceAdd, Nat.reduceEqDiff, Nat.reduceBEq, beq_self_eq_true, Bool.not_true, Bool.not_false, Bool.and_true, Bool.and_false, Bool.true_and, Bool.false_and, gI_sI, gI_sL, gI_sA, gI_sM, gL_sI, gL_sL, gL_sA, gL_sM, aI_sI, aI_sL, aI_sA, aI_sM, aL_sI, aL_sL, aL_sA, aL_sM]; try dsimp only
          intro p2
          refine ⟨fun h3 => ?_, fun h3 => ?_⟩
          · exact hW _ 293 [(0, .ref 1000), (1, .int x1), (2, .int x2), (4, .int x4), (5, .int x5)] _ _ _ (by simp [rdl, rky, Value.category]) ((ih m1 hm1).2.2.2.2.2.2.2.2.2.2.2.2.2.2.2.2.2.2.2.2.1 x1 x2 x4 x5 _ hz)
          · exact hW _ 275 [(0, .ref 1000), (1, .int x1), (2, .int x2), (4, .int x4), (5, .int x5)] _ _ _ (by simp [rdl, rky, Value.category]) ((ih m1 hm1).2.2.2.2.2.2.2.2.2.2.2.2.2.2.2.2.2.2.1 x1 x2 x4 x5 _ hz)
        · intro x1 x2 x4 x5 Y hz
          refine hB _ _ _ _ _ (fun m1 hm1 => ?_)
          dsimp only [ugo, uwp, ust, uct, rfd, BjudgeExp, BjudgeExp_275, Nat.beq, lv_args, rlk, rs1, rs2, rdl, rky, rcd, rno, rsw, Value.category, List.filter, List.take, List.drop, List.reverse, List.reverseAux, List.cons_append, List.nil_append, Option.toList, Int.toNat, Int.reduceToNat, if_pos, if_neg, reduceIte, ↓reduceIte, Nat.reduceAdd, Nat.reduceEqDiff, Nat.reduceBEq, beq_self_eq_true, Bool.not_true, Bool.not_false, Bool.and_true, Bool.and_false, Bool.true_and, Bool.false_and, gI_sI, gI_sL, gI_sA, gI_sM, gL_sI, gL_sL, gL_sA, gL_sM, aI_sI, aI_sL, aI_sA, aI_sM, aL_sI, aL_sL, aL_sA, aL_sM, oi_1]; try dsimp only
          intro p2
          refine ⟨fun h3 => ?_, fun h3 => ?_⟩
          · exact hW _ 293 [(0, .ref 1000), (1, .int x1), (2, .int x2), (4, .int x4), (5, .int x5)] _ _ _ (by simp [rdl, rky, Value.category]) ((ih m1 hm1).2.2.2.2.2.2.2.2.2.2.2.2.2.2.2.2.2.2.2.2.1 x1 x2 x4 x5 _ hz)
          · exact hW _ 289 [(0, .ref 1000), (1, .int x1), (2, .int x2), (4, .int x4), (5, .int x5)] _ _ _ (by simp [rdl, rky, Value.category]) ((ih m1 hm1).2.2.2.2.2.2.2.2.2.2.2.2.2.2.2.2.2.2.2.1 x1 x2 x4 x5 _ hz)
        · intro x1 x2 x4 x5 Y hz
          refine hB _ _ _ _ _ (fun m1 hm1 => ?_)
          dsimp only [ugo, uwp, ust, uct, rfd, BjudgeExp, BjudgeExp_289, Nat.beq, lv_args, rlk, rs1, rs2, rdl, rky, rcd, rno, rsw, Value.category, List.filter, List.take, List.drop, List.reverse, List.reverseAux, List.cons_append, List.nil_append, Option.toList, Int.toNat, Int.reduceToNat, if_pos, if_neg, reduceIte, ↓reduceIte, Nat.reduceAdd, Nat.reduceEqDiff, Nat.reduceBEq, beq_self_eq_true, Bool.not_true, Bool.not_false, Bool.and_true, Bool.and_false, Bool.true_and, Bool.false_and, gI_sI, gI_sL, gI_sA, gI_sM, gL_sI, gL_sL, gL_sA, gL_sM, aI_sI, aI_sL, aI_sA, aI_sM, aL_sI, aL_sL, aL_sA, aL_sM, oi_1]; try dsimp only
          exact hW _ 294 [(0, .ref 1000), (1, .int x1), (2, .int x2), (4, .int x4), (5, .int x5)] _ _ _ (by simp [rdl, rky, Value.category]) ((ih m1 hm1).2.2.2.2.2.2.2.2.2.2.2.2.2.2.2.2.2.2.2.2.2.1 x1 x2 x4 x5 1 _ hz)
        · intro x1 x2 x4 x5 Y hz
          refine hB _ _ _ _ _ (fun m1 hm1 => ?_)
          dsimp only [ugo, uwp, ust, uct, rfd, BjudgeExp, BjudgeExp_293, Nat.beq, lv_args, rlk, rs1, rs2, rdl, rky, rcd, rno, rsw, Value.category, List.filter, List.take, List.drop, List.reverse, List.reverseAux, List.cons_append, List.nil_append, Option.toList, Int.toNat, Int.reduceToNat, if_pos, if_neg, reduceIte, ↓reduceIte, Nat.reduceAdd, Nat.reduceEqDiff, Nat.reduceBEq, beq_self_eq_true, Bool.not_true, Bool.not_false, Bool.and_true, Bool.and_false, Bool.true_and, Bool.false_and, gI_sI, gI_sL, gI_sA, gI_sM, gL_sI, gL_sL, gL_sA, gL_sM, aI_sI, aI_sL, aI_sA, aI_sM, aL_sI, aL_sL, aL_sA, aL_sM, oi_0]; try dsimp only
          exact hW _ 294 [(0, .ref 1000), (1, .int x1), (2, .int x2), (4, .int x4), (5, .int x5)] _ _ _ (by simp [rdl, rky, Value.category]) ((ih m1 hm1).2.2.2.2.2.2.2.2.2.2.2.2.2.2.2.2.2.2.2.2.2.1 x1 x2 x4 x5 0 _ hz)
        · intro x1 x2 x4 x5 s0 Y hz
          refine hB _ _ _ _ _ (fun m1 hm1 => ?_)
          dsimp only [ugo, uwp, ust, uct, rfd, BjudgeExp, BjudgeExp_294, Nat.beq, lv_args, rlk, rs1, rs2, rdl, rky, rcd, rno, rsw, Value.category, List.filter, List.take, List.drop, List.reverse, List.reverseAux, List.cons_append, List.nil_append, Option.toList, Int.toNat, Int.reduceToNat, if_pos, if_neg, reduceIte, ↓reduceIte, Nat.reduceAdd, Nat.reduceEqDiff, Nat.reduceBEq, beq_self_eq_true, Bool.not_true, Bool.not_false, Bool.and_true, Bool.and_false, Bool.true_and, Bool.false_and, gI_sI, gI_sL, gI_sA, gI_sM, gL_sI, gL_sL, gL_sA, gL_sM, aI_sI, aI_sL, aI_sA, aI_sM, aL_sI, aL_sL, aL_sA, aL_sM]; try dsimp only
          intro p2
          refine ⟨fun h3 => ?_, fun h3 => ?_⟩
          · have c3 : ((aL Y 72) ((gI Y 69)).toNatClampNeg) = (0 : Int64) := (cL (a := (0 : Int64)) (b := ((aL Y 72) ((gI Y 69)).toNatClampNeg))).1.mp h3
            exact hW _ 330 [(0, .ref 1000), (1, .int x1), (2, .int x2), (4, .int x4), (5, .int x5), (6, .int s0)] _ _ _ (by simp [rdl, rky, Value.category]) ((ih m1 hm1).2.2.2.2.2.2.2.2.2.2.2.2.2.2.2.2.2.2.2.2.2.2.2.2.1 x1 x2 x4 x5 s0 _ hz)
          · have c3 : ¬ ((aL Y 72) ((gI Y 69)).toNatClampNeg) = (0 : Int64) := fun q => h3 ((cL (a := (0 : Int64)) (b := ((aL Y 72) ((gI Y 69)).toNatClampNeg))).1.mpr q)
            exact hW _ 310 [(0, .ref 1000), (1, .int x1), (2, .int x2), (4, .int x4), (5, .int x5), (6, .int s0)] _ _ _ (by simp [rdl, rky, Value.category]) ((ih m1 hm1).2.2.2.2.2.2.2.2.2.2.2.2.2.2.2.2.2.2.2.2.2.2.1 x1 x2 x4 x5 s0 _ hz)
        · intro x1 x2 x4 x5 x6 Y hz
          refine hB _ _ _ _ _ (fun m1 hm1 => ?_)
          dsimp only [ugo, uwp, ust, uct, rfd, BjudgeExp, BjudgeExp_310, Nat.beq, lv_args, rlk, rs1, rs2, rdl, rky, rcd, rno, rsw, Value.category, List.filter, List.take, List.drop, List.reverse, List.reverseAux, List.cons_append, List.nil_append, Option.toList, Int.toNat, Int.reduceToNat, if_pos, if_neg, reduceIte, ↓reduceIte, Nat.reduceAdd, Nat.reduceEqDiff, Nat.reduceBEq, beq_self_eq_true, Bool.not_true, Bool.not_false, Bool.and_true, Bool.and_false, Bool.true_and, Bool.false_and, gI_sI, gI_sL, gI_sA, gI_sM, gL_sI, gL_sL, gL_sA, gL_sM, aI_sI, aI_sL, aI_sA, aI_sM, aL_sI, aL_sL, aL_sA, aL_sM, oi_1]; try dsimp only
          intro p2
          refine ⟨fun h3 => ?_, fun h3 => ?_⟩
          · have c3 : ((aL Y 72) (((gI Y 69) + 1)).toNatClampNeg) = (0 : Int64) := (cL (a := (0 : Int64)) (b := ((aL Y 72) (((gI Y 69) + 1)).toNatClampNeg))).1.mp h3
            exact hW _ 330 [(0, .ref 1000), (1, .int x1), (2, .int x2), (4, .int x4), (5, .int x5), (6, .int x6)] _ _ _ (by simp [rdl, rky, Value.category]) ((ih m1 hm1).2.2.2.2.2.2.2.2.2.2.2.2.2.2.2.2.2.2.2.2.2.2.2.2.1 x1 x2 x4 x5 x6 _ hz)
          · have c3 : ¬ ((aL Y 72) (((gI Y 69) + 1)).toNatClampNeg) = (0 : Int64) := fun q => h3 ((cL (a := (0 : Int64)) (b := ((aL Y 72) (((gI Y 69) + 1)).toNatClampNeg))).1.mpr q)
            exact hW _ 326 [(0, .ref 1000), (1, .int x1), (2, .int x2), (4, .int x4), (5, .int x5), (6, .int x6)] _ _ _ (by simp [rdl, rky, Value.category]) ((ih m1 hm1).2.2.2.2.2.2.2.2.2.2.2.2.2.2.2.2.2.2.2.2.2.2.2.1 x1 x2 x4 x5 x6 _ hz)
        · intro x1 x2 x4 x5 x6 Y hz
          refine hB _ _ _ _ _ (fun m1 hm1 => ?_)
          dsimp only [ugo, uwp, ust, uct, rfd, BjudgeExp, BjudgeExp_326, Nat.beq, lv_args, rlk, rs1, rs2, rdl, rky, rcd, rno, rsw, Value.category, List.filter, List.take, List.drop, List.reverse, List.reverseAux, List.cons_append, List.nil_append, Option.toList, Int.toNat, Int.reduceToNat, if_pos, if_neg, reduceIte, ↓reduceIte, Nat.reduceAdd, Nat.reduceEqDiff, Nat.reduceBEq, beq_self_eq_true, Bool.not_true, Bool.not_false, Bool.and_true, Bool.and_false, Bool.true_and, Bool.false_and, gI_sI, gI_sL, gI_sA, gI_sM, gL_sI, gL_sL, gL_sA, gL_sM, aI_sI, aI_sL, aI_sA, aI_sM, aL_sI, aL_sL, aL_sA, aL_sM, oi_1]; try dsimp only
          exact hW _ 331 [(0, .ref 1000), (1, .int x1), (2, .int x2), (4, .int x4), (5, .int x5), (6, .int x6)] _ _ _ (by simp [rdl, rky, Value.category]) ((ih m1 hm1).2.2.2.2.2.2.2.2.2.2.2.2.2.2.2.2.2.2.2.2.2.2.2.2.2.1 x1 x2 x4 x5 x6 1 _ hz)
        · intro x1 x2 x4 x5 x6 Y hz
          refine hB _ _ _ _ _ (fun m1 hm1 => ?_)
          dsimp only [ugo, uwp, ust, uct, rfd, BjudgeExp, BjudgeExp_330, Nat.beq, lv_args, rlk, rs1, rs2, rdl, rky, rcd, rno, rsw, Value.category, List.filter, List.take, List.drop, List.reverse, List.reverseAux, List.cons_append, List.nil_append, Option.toList, Int.toNat, Int.reduceToNat, if_pos, if_neg, reduceIte, ↓reduceIte, Nat.reduceAdd, Nat.reduceEqDiff, Nat.reduceBEq, beq_self_eq_true, Bool.not_true, Bool.not_false, Bool.and_true, Bool.and_false, Bool.true_and, Bool.false_and, gI_sI, gI_sL, gI_sA, gI_sM, gL_sI, gL_sL, gL_sA, gL_sM, aI_sI, aI_sL, aI_sA, aI_sM, aL_sI, aL_sL, aL_sA, aL_sM, oi_0]; try dsimp only
          exact hW _ 331 [(0, .ref 1000), (1, .int x1), (2, .int x2), (4, .int x4), (5, .int x5), (6, .int x6)] _ _ _ (by simp [rdl, rky, Value.category]) ((ih m1 hm1).2.2.2.2.2.2.2.2.2.2.2.2.2.2.2.2.2.2.2.2.2.2.2.2.2.1 x1 x2 x4 x5 x6 0 _ hz)
        · intro x1 x2 x4 x5 x6 s0 Y hz
          refine hB _ _ _ _ _ (fun m1 hm1 => ?_)
          dsimp only [ugo, uwp, ust, uct, rfd, BjudgeExp, BjudgeExp_331, Nat.beq, lv_args, rlk, rs1, rs2, rdl, rky, rcd, rno, rsw, Value.category, List.filter, List.take, List.drop, List.reverse, List.reverseAux, List.cons_append, List.nil_append, Option.toList, Int.toNat, Int.reduceToNat, if_pos, if_neg, reduceIte, ↓reduceIte, Nat.reduceAdd, Nat.reduceEqDiff, Nat.reduceBEq, beq_self_eq_true, Bool.not_true, Bool.not_false, Bool.and_true, Bool.and_false, Bool.true_and, Bool.false_and, gI_sI, gI_sL, gI_sA, gI_sM, gL_sI, gL_sL, gL_sA, gL_sM, aI_sI, aI_sL, aI_sA, aI_sM, aL_sI, aL_sL, aL_sA, aL_sM]; try dsimp only
          intro p2
          refine ⟨fun h3 => ?_, fun h3 => ?_⟩
          · have c3 : ¬ ((aL Y 72) ((gI Y 69)).toNatClampNeg) = (0 : Int64) := fun q => h3 ((cL (a := (0 : Int64)) (b := ((aL Y 72) ((gI Y 69)).toNatClampNeg))).1.mpr q)
            exact hW _ 363 [(0, .ref 1000), (1, .int x1), (2, .int x2), (4, .int x4), (5, .int x5), (6, .int x6), (7, .int s0)] _ _ _ (by simp [rdl, rky, Value.category]) ((ih m1 hm1).2.2.2.2.2.2.2.2.2.2.2.2.2.2.2.2.2.2.2.2.2.2.2.2.2.2.2.1 x1 x2 x4 x5 x6 s0 _ hz)
          · have c3 : ((aL Y 72) ((gI Y 69)).toNatClampNeg) = (0 : Int64) := (cL (a := (0 : Int64)) (b := ((aL Y 72) ((gI Y 69)).toNatClampNeg))).1.mp h3
            exact hW _ 347 [(0, .ref 1000), (1, .int x1), (2, .int x2), (4, .int x4), (5, .int x5), (6, .int x6), (7, .int s0)] _ _ _ (by simp [rdl, rky, Value.category]) ((ih m1 hm1).2.2.2.2.2.2.2.2.2.2.2.2.2.2.2.2.2.2.2.2.2.2.2.2.2.2.1 x1 x2 x4 x5 x6 s0 _ hz)
        · intro x1 x2 x4 x5 x6 x7 Y hz
          refine hB _ _ _ _ _ (fun m1 hm1 => ?_)
          dsimp only [ugo, uwp, ust, uct, rfd, BjudgeExp, BjudgeExp_347, Nat.beq, lv_args, rlk, rs1, rs2, rdl, rky, rcd, rno, rsw, Value.category, List.filter, List.take, List.drop, List.reverse, List.reverseAux, List.cons_append, List.nil_append, Option.toList, Int.toNat, Int.reduceToNat, if_pos, if_neg, reduceIte, ↓reduceIte, Nat.reduceAdd, Nat.reduceEqDiff, Nat.reduceBEq, beq_self_eq_true, Bool.not_true, Bool.not_false, Bool.and_true, Bool.and_false, Bool.true_and, Bool.false_and, gI_sI, gI_sL, gI_sA, gI_sM, gL_sI, gL_sL, gL_sA, gL_sM, aI_sI, aI_sL, aI_sA, aI_sM, aL_sI, aL_sL, aL_sA, aL_sM, oi_1]; try dsimp only
          intro p2
          refine ⟨fun h3 => ?_, fun h3 => ?_⟩
          · have c3 : ((aL Y 72) (((gI Y 69) + 1)).toNatClampNeg) = (0 : Int64) := (cL (a := (0 : Int64)) (b := ((aL Y 72) (((gI Y 69) + 1)).toNatClampNeg))).1.mp h3
            exact hW _ 367 [(0, .ref 1000), (1, .int x1), (2, .int x2), (4, .int x4), (5, .int x5), (6, .int x6), (7, .int x7)] _ _ _ (by simp [rdl, rky, Value.category]) ((ih m1 hm1).2.2.2.2.2.2.2.2.2.2.2.2.2.2.2.2.2.2.2.2.2.2.2.2.2.2.2.2.1 x1 x2 x4 x5 x6 x7 _ hz)
          · have c3 : ¬ ((aL Y 72) (((gI Y 69) + 1)).toNatClampNeg) = (0 : Int64) := fun q => h3 ((cL (a := (0 : Int64)) (b := ((aL Y 72) (((gI Y 69) + 1)).toNatClampNeg))).1.mpr q)
            exact hW _ 363 [(0, .ref 1000), (1, .int x1), (2, .int x2), (4, .int x4), (5, .int x5), (6, .int x6), (7, .int x7)] _ _ _ (by simp [rdl, rky, Value.category]) ((ih m1 hm1).2.2.2.2.2.2.2.2.2.2.2.2.2.2.2.2.2.2.2.2.2.2.2.2.2.2.2.1 x1 x2 x4 x5 x6 x7 _ hz)
        · intro x1 x2 x4 x5 x6 x7 Y hz
          refine hB _ _ _ _ _ (fun m1 hm1 => ?_)
          dsimp only [ugo, uwp, ust, uct, rfd, BjudgeExp, BjudgeExp_363, Nat.beq, lv_args, rlk, rs1, rs2, rdl, rky, rcd, rno, rsw, Value.category, List.filter, List.take, List.drop, List.reverse, List.reverseAux, List.cons_append, List.nil_append, Option.toList, Int.toNat, Int.reduceToNat, if_pos, if_neg, reduceIte, ↓reduceIte, Nat.reduceAdd, Nat.reduceEqDiff, Nat.reduceBEq, beq_self_eq_true, Bool.not_true, Bool.not_false, Bool.and_true, Bool.and_false, Bool.true_and, Bool.false_and, gI_sI, gI_sL, gI_sA, gI_sM, gL_sI, gL_sL, gL_sA, gL_sM, aI_sI, aI_sL, aI_sA, aI_sM, aL_sI, aL_sL, aL_sA, aL_sM, oi_1]; try dsimp only
          exact hW _ 368 [(0, .ref 1000), (1, .int x1), (2, .int x2), (4, .int x4), (5, .int x5), (6, .int x6), (7, .int x7)] _ _ _ (by simp [rdl, rky, Value.category]) ((ih m1 hm1).2.2.2.2.2.2.2.2.2.2.2.2.2.2.2.2.2.2.2.2.2.2.2.2.2.2.2.2.2.1 x1 x2 x4 x5 x6 x7 1 _ hz)
        · intro x1 x2 x4 x5 x6 x7 Y hz
          refine hB _ _ _ _ _ (fun m1 hm1 => ?_)
          dsimp only [ugo, uwp, ust, uct, rfd, BjudgeExp, BjudgeExp_367, Nat.beq, lv_args, rlk, rs1, rs2, rdl, rky, rcd, rno, rsw, Value.category, List.filter, List.take, List.drop, List.reverse, List.reverseAux, List.cons_append, List.nil_append, Option.toList, Int.toNat, Int.reduceToNat, if_pos, if_neg, reduceIte, ↓reduceIte, Nat.reduceAdd, Nat.reduceEqDiff, Nat.reduceBEq, beq_self_eq_true, Bool.not_true, Bool.not_false, Bool.and_true, Bool.and_false, Bool.true_and, Bool.false_and, gI_sI, gI_sL, gI_sA, gI_sM, gL_sI, gL_sL, gL_sA, gL_sM, aI_sI, aI_sL, aI_sA, aI_sM, aL_sI, aL_sL, aL_sA, aL_sM, oi_0]; try dsimp only
          exact hW _ 368 [(0, .ref 1000), (1, .int x1), (2, .int x2), (4, .int x4), (5, .int x5), (6, .int x6), (7, .int x7)] _ _ _ (by simp [rdl, rky, Value.category]) ((ih m1 hm1).2.2.2.2.2.2.2.2.2.2.2.2.2.2.2.2.2.2.2.2.2.2.2.2.2.2.2.2.2.1 x1 x2 x4 x5 x6 x7 0 _ hz)
        · intro x1 x2 x4 x5 x6 x7 s0 Y hz
          refine hB _ _ _ _ _ (fun m1 hm1 => ?_)
          dsimp only [ugo, uwp, ust, uct, rfd, BjudgeExp, BjudgeExp_368, Nat.beq, lv_args, rlk, rs1, rs2, rdl, rky, rcd, rno, rsw, Value.category, List.filter, List.take, List.drop, List.reverse, List.reverseAux, List.cons_append, List.nil_append, Option.toList, Int.toNat, Int.reduceToNat, if_pos, if_neg, reduceIte, ↓reduceIte, Nat.reduceAdd, Nat.reduceEqDiff, Nat.reduceBEq, beq_self_eq_true, Bool.not_true, Bool.not_false, Bool.and_true, Bool.and_false, Bool.true_and, Bool.false_and, gI_sI, gI_sL, gI_sA, gI_sM, gL_sI, gL_sL, gL_sA, gL_sM, aI_sI, aI_sL, aI_sA, aI_sM, aL_sI, aL_sL, aL_sA, aL_sM, oi_0, oi_9]; try dsimp only
          intro p2
          refine ⟨fun h3 => ?_, fun h3 => ?_⟩
          · exact hW _ 394 [(0, .ref 1000), (1, .int x1), (2, .int x2), (4, .int x4), (5, .int x5), (6, .int x6), (7, .int x7), (8, .int s0)] _ _ _ (by simp [rdl, rky, Value.category]) ((ih m1 hm1).2.2.2.2.2.2.2.2.2.2.2.2.2.2.2.2.2.2.2.2.2.2.2.2.2.2.2.2.2.2.2.2.1 x1 x2 x4 x5 x6 x7 s0 x6 0 x1 _ hz)
          · exact hW _ 386 [(0, .ref 1000), (1, .int x1), (2, .int x2), (4, .int x4), (5, .int x5), (6, .int x6), (7, .int x7), (8, .int s0)] _ _ _ (by simp [rdl, rky, Value.category]) ((ih m1 hm1).2.2.2.2.2.2.2.2.2.2.2.2.2.2.2.2.2.2.2.2.2.2.2.2.2.2.2.2.2.2.1 x1 x2 x4 x5 x6 x7 s0 x6 0 x1 _ hz)
        · intro x1 x2 x4 x5 x6 x7 x8 s0 s1 s2 Y hz
          refine hB _ _ _ _ _ (fun m1 hm1 => ?_)
          dsimp only [ugo, uwp, ust, uct, rfd, BjudgeExp, BjudgeExp_386, Nat.beq, lv_args, rlk, rs1, rs2, rdl, rky, rcd, rno, rsw, Value.category, List.filter, List.take, List.drop, List.reverse, List.reverseAux, List.cons_append, List.nil_append, Option.toList, Int.toNat, Int.reduceToNat, if_pos, if_neg, reduceIte, ↓reduceIte, Nat.reduceAdd, Nat.reduceEqDiff, Nat.reduceBEq, beq_self_eq_true, Bool.not_true, Bool.not_false, Bool.and_true, Bool.and_false, Bool.true_and, Bool.false_and, gI_sI, gI_sL, gI_sA, gI_sM, gL_sI, gL_sL, gL_sA, gL_sM, aI_sI, aI_sL, aI_sA, aI_sM, aL_sI, aL_sL, aL_sA, aL_sM]; try dsimp only
          refine ⟨fun h2 => ?_, fun h2 => ?_⟩
          · exact hW _ 403 [(0, .ref 1000), (1, .int x1), (2, .int x2), (4, .int x4), (5, .int x5), (6, .int x6), (7, .int x7), (8, .int x8)] _ _ _ (by simp [rdl, rky, Value.category]) ((ih m1 hm1).2.2.2.2.2.2.2.2.2.2.2.2.2.2.2.2.2.2.2.2.2.2.2.2.2.2.2.2.2.2.2.2.2.2.1 x1 x2 x4 x5 x6 x7 x8 s0 s1 s2 _ hz)
          · exact hW _ 391 [(0, .ref 1000), (1, .int x1), (2, .int x2), (4, .int x4), (5, .int x5), (6, .int x6), (7, .int x7), (8, .int x8)] _ _ _ (by simp [rdl, rky, Value.category]) ((ih m1 hm1).2.2.2.2.2.2.2.2.2.2.2.2.2.2.2.2.2.2.2.2.2.2.2.2.2.2.2.2.2.2.2.1 x1 x2 x4 x5 x6 x7 x8 s0 s1 s2 _ hz)
        · intro x1 x2 x4 x5 x6 x7 x8 s0 s1 s2 Y hz
          refine hB _ _ _ _ _ (fun m1 hm1 => ?_)
          dsimp only [ugo, uwp, ust, uct, rfd, BjudgeExp, BjudgeExp_391, Nat.beq, lv_args, rlk, rs1, rs2, rdl, rky, rcd, rno, rsw, Value.category, List.filter, List.take, List.drop, List.reverse, List.reverseAux, List.cons_append, List.nil_append, Option.toList, Int.toNat, Int.reduceToNat, if_pos, if_neg, reduceIte, ↓reduceIte, Nat.reduceAdd, Nat.reduceEqDiff, Nat.reduceBEq, beq_self_eq_true, Bool.not_true, Bool.not_false, Bool.and_true, Bool.and_false, Bool.true_and, Bool.false_and, gI_sI, gI_sL, gI_sA, gI_sM, gL_sI, gL_sL, gL_sA, gL_sM, aI_sI, aI_sL, aI_sA, aI_sM, aL_sI, aL_sL, aL_sA, aL_sM]; try dsimp only
          exact hW _ 399 [(0, .ref 1000), (1, .int x1), (2, .int x2), (4, .int x4), (5, .int x5), (6, .int x6), (7, .int x7), (8, .int x8)] _ _ _ (by simp [rdl, rky, Value.category]) ((ih m1 hm1).2.2.2.2.2.2.2.2.2.2.2.2.2.2.2.2.2.2.2.2.2.2.2.2.2.2.2.2.2.2.2.2.2.1 x1 x2 x4 x5 x6 x7 x8 s0 s1 s2 _ hz)
        · intro x1 x2 x4 x5 x6 x7 x8 s0 s1 s2 Y hz
          refine hB _ _ _ _ _ (fun m1 hm1 => ?_)
          dsimp only [ugo, uwp, ust, uct, rfd, BjudgeExp, BjudgeExp_394, Nat.beq, lv_args, rlk, rs1, rs2, rdl, rky, rcd, rno, rsw, Value.category, List.filter, List.take, List.drop, List.reverse, List.reverseAux, List.cons_append, List.nil_append, Option.toList, Int.toNat, Int.reduceToNat, if_pos, if_neg, reduceIte, ↓reduceIte, Nat.reduceAdd, Nat.reduceEqDiff, Nat.reduceBEq, beq_self_eq_true, Bool.not_true, Bool.not_false, Bool.and_true, Bool.and_false, Bool.true_and, Bool.false_and, gI_sI, gI_sL, gI_sA, gI_sM, gL_sI, gL_sL, gL_sA, gL_sM, aI_sI, aI_sL, aI_sA, aI_sM, aL_sI, aL_sL, aL_sA, aL_sM]; try dsimp only
          refine ⟨fun h2 => ?_, fun h2 => ?_⟩
          · exact hW _ 403 [(0, .ref 1000), (1, .int x1), (2, .int x2), (4, .int x4), (5, .int x5), (6, .int x6), (7, .int x7), (8, .int x8)] _ _ _ (by simp [rdl, rky, Value.category]) ((ih m1 hm1).2.2.2.2.2.2.2.2.2.2.2.2.2.2.2.2.2.2.2.2.2.2.2.2.2.2.2.2.2.2.2.2.2.2.1 x1 x2 x4 x5 x6 x7 x8 s0 s1 s2 _ hz)
          · exact hW _ 399 [(0, .ref 1000), (1, .int x1), (2, .int x2), (4, .int x4), (5, .int x5), (6, .int x6), (7, .int x7), (8, .int x8)] _ _ _ (by simp [rdl, rky, Value.category]) ((ih m1 hm1).2.2.2.2.2.2.2.2.2.2.2.2.2.2.2.2.2.2.2.2.2.2.2.2.2.2.2.2.2.2.2.2.2.1 x1 x2 x4 x5 x6 x7 x8 s0 s1 s2 _ hz)
        · intro x1 x2 x4 x5 x6 x7 x8 s0 s1 s2 Y hz
          refine hB _ _ _ _ _ (fun m1 hm1 => ?_)
          dsimp only [ugo, uwp, ust, uct, rfd, BjudgeExp, BjudgeExp_399, Nat.beq, lv_args, rlk, rs1, rs2, rdl, rky, rcd, rno, rsw, Value.category, List.filter, List.take, List.drop, List.reverse, List.reverseAux, List.cons_append, List.nil_append, Option.toList, Int.toNat, Int.reduceToNat, if_pos, if_neg, reduceIte, ↓reduceIte, Nat.reduceAdd, Nat.reduceEqDiff, Nat.reduceBEq, beq_self_eq_true, Bool.not_true, Bool.not_false, Bool.and_true, Bool.and_false, Bool.true_and, Bool.false_and, gI_sI, gI_sL, gI_sA, gI_sM, gL_sI, gL_sL, gL_sA, gL_sM, aI_sI, aI_sL, aI_sA, aI_sM, aL_sI, aL_sL, aL_sA, aL_sM]; try dsimp only
          exact hW _ 404 [(0, .ref 1000), (1, .int x1), (2, .int x2), (4, .int x4), (5, .int x5), (6, .int x6), (7, .int x7), (8, .int x8)] _ _ _ (by simp [rdl, rky, Value.category]) ((ih m1 hm1).2.2.2.2.2.2.2.2.2.2.2.2.2.2.2.2.2.2.2.2.2.2.2.2.2.2.2.2.2.2.2.2.2.2.2.1 x1 x2 x4 x5 x6 x7 x8 (1 : Int64) s0 s1 s2 _ hz)
        · intro x1 x2 x4 x5 x6 x7 x8 s0 s1 s2 Y hz
          refine hB _ _ _ _ _ (fun m1 hm1 => ?_)
          dsimp only [ugo, uwp, ust, uct, rfd, BjudgeExp, BjudgeExp_403, Nat.beq, lv_args, rlk, rs1, rs2, rdl, rky, rcd, rno, rsw, Value.category, List.filter, List.take, List.drop, List.reverse, List.reverseAux, List.cons_append, List.nil_append, Option.toList, Int.toNat, Int.reduceToNat, if_pos, if_neg, reduceIte, ↓reduceIte, Nat.reduceAdd, Nat.reduceEqDiff, Nat.reduceBEq, beq_self_eq_true, Bool.not_true, Bool.not_false, Bool.and_true, Bool.and_false, Bool.true_and, Bool.false_and, gI_sI, gI_sL, gI_sA, gI_sM, gL_sI, gL_sL, gL_sA, gL_sM, aI_sI, aI_sL, aI_sA, aI_sM, aL_sI, aL_sL, aL_sA, aL_sM]; try dsimp only
          exact hW _ 404 [(0, .ref 1000), (1, .int x1), (2, .int x2), (4, .int x4), (5, .int x5), (6, .int x6), (7, .int x7), (8, .int x8)] _ _ _ (by simp [rdl, rky, Value.category]) ((ih m1 hm1).2.2.2.2.2.2.2.2.2.2.2.2.2.2.2.2.2.2.2.2.2.2.2.2.2.2.2.2.2.2.2.2.2.2.2.1 x1 x2 x4 x5 x6 x7 x8 (0 : Int64) s0 s1 s2 _ hz)
        · intro x1 x2 x4 x5 x6 x7 x8 s0 s1 s2 s3 Y hz
          refine hB _ _ _ _ _ (fun m1 hm1 => ?_)
          dsimp only [ugo, uwp, ust, uct, rfd, BjudgeExp, BjudgeExp_404, Nat.beq, lv_args, rlk, rs1, rs2, rdl, rky, rcd, rno, rsw, Value.category, List.filter, List.take, List.drop, List.reverse, List.reverseAux, List.cons_append, List.nil_append, Option.toList, Int.toNat, Int.reduceToNat, if_pos, if_neg, reduceIte, ↓reduceIte, Nat.reduceAdd, Nat.reduceEqDiff, Nat.reduceBEq, beq_self_eq_true, Bool.not_true, Bool.not_false, Bool.and_true, Bool.and_false, Bool.true_and, Bool.false_and, gI_sI, gI_sL, gI_sA, gI_sM, gL_sI, gL_sL, gL_sA, gL_sM, aI_sI, aI_sL, aI_sA, aI_sM, aL_sI, aL_sL, aL_sA, aL_sM]; try dsimp only
          refine ⟨trivial, fun w2 τ2 hq2 => ?_⟩
          obtain ⟨rfl, rfl⟩ := hq2 trivial
          dsimp only [Option.toList, List.cons_append, List.nil_append, Nat.beq, gI_sI, gI_sL, gI_sA, gI_sM, gL_sI, gL_sL, gL_sA, gL_sM, aI_sI, aI_sL, aI_sA, aI_sM, aL_sI, aL_sL, aL_sA, aL_sM]
          exact hW _ 407 [(0, .ref 1000), (1, .int x1), (2, .int x2), (4, .int x4), (5, .int x5)] _ _ _ (by simp [rdl, rky, Value.category]) ((ih m1 hm1).2.2.2.2.2.2.2.2.2.2.2.2.2.2.2.2.2.2.2.2.2.2.2.2.2.2.2.2.2.2.2.2.2.2.2.2.1 x1 x2 x4 x5 _ hz)
        · intro x1 x2 x4 x5 Y hz
          refine hB _ _ _ _ _ (fun m1 hm1 => ?_)
          dsimp only [ugo, uwp, ust, uct, rfd, BjudgeExp, BjudgeExp_407, Nat.beq, lv_args, rlk, rs1, rs2, rdl, rky, rcd, rno, rsw, Value.category, List.filter, List.take, List.drop, List.reverse, List.reverseAux, List.cons_append, List.nil_append, Option.toList, Int.toNat, Int.reduceToNat, if_pos, if_neg, reduceIte, ↓reduceIte, Nat.reduceAdd, Nat.reduceEqDiff, Nat.reduceBEq, beq_self_eq_true, Bool.not_true, Bool.not_false, Bool.and_true, Bool.and_false, Bool.true_and, Bool.false_and, gI_sI, gI_sL, gI_sA, gI_sM, gL_sI, gL_sL, gL_sA, gL_sM, aI_sI, aI_sL, aI_sA, aI_sM, aL_sI, aL_sL, aL_sA, aL_sM]; try dsimp only
          unfold Qv_judgeExpB
          try dsimp only
          exact ⟨rfl, Or.inl ⟨hnn, hz⟩⟩
        · intro x1 x2 Y hz
          refine hB _ _ _ _ _ (fun m1 hm1 => ?_)
          dsimp only [ugo, uwp, ust, uct, rfd, BjudgeExp, BjudgeExp_408, Nat.beq, lv_args, rlk, rs1, rs2, rdl, rky, rcd, rno, rsw, Value.category, List.filter, List.take, List.drop, List.reverse, List.reverseAux, List.cons_append, List.nil_append, Option.toList, Int.toNat, Int.reduceToNat, if_pos, if_neg, reduceIte, ↓reduceIte, Nat.reduceAdd, Nat.reduceEqDiff, Nat.reduceBEq, beq_self_eq_true, Bool.not_true, Bool.not_false, Bool.and_true, Bool.and_false, Bool.true_and, Bool.false_and, gI_sI, gI_sL, gI_sA, gI_sM, gL_sI, gL_sL, gL_sA, gL_sM, aI_sI, aI_sL, aI_sA, aI_sM, aL_sI, aL_sL, aL_sA, aL_sM]; try dsimp only
          refine ⟨trivial, fun w2 τ2 hq2 => ?_⟩
          obtain ⟨rfl, hz2⟩ := hq2.1 hz
          dsimp only [Option.toList, List.cons_append, List.nil_append, Nat.beq, gI_sI, gI_sL, gI_sA, gI_sM, gL_sI, gL_sL, gL_sA, gL_sM, aI_sI, aI_sL, aI_sA, aI_sM, aL_sI, aL_sL, aL_sA, aL_sM]
          unfold Qv_judgeExpB
          try dsimp only
          exact ⟨rfl, Or.inl ⟨hnn, hz2⟩⟩
        · intro x1 x2 Y hz
          refine hB _ _ _ _ _ (fun m1 hm1 => ?_)
          dsimp only [ugo, uwp, ust, uct, rfd, BjudgeExp, BjudgeExp_414, Nat.beq, lv_args, rlk, rs1, rs2, rdl, rky, rcd, rno, rsw, Value.category, List.filter, List.take, List.drop, List.reverse, List.reverseAux, List.cons_append, List.nil_append, Option.toList, Int.toNat, Int.reduceToNat, if_pos, if_neg, reduceIte, ↓reduceIte, Nat.reduceAdd, Nat.reduceEqDiff, Nat.reduceBEq, beq_self_eq_true, Bool.not_true, Bool.not_false, Bool.and_true, Bool.and_false, Bool.true_and, Bool.false_and, gI_sI, gI_sL, gI_sA, gI_sM, gL_sI, gL_sL, gL_sA, gL_sM, aI_sI, aI_sL, aI_sA, aI_sM, aL_sI, aL_sL, aL_sA, aL_sM, oi_1]; try dsimp only
          intro p2
          intro p3
          intro p4
          refine ⟨trivial, fun w5 τ5 hq5 => ?_⟩
          obtain ⟨rfl, rfl⟩ := hq5 trivial
          dsimp only [Option.toList, List.cons_append, List.nil_append, Nat.beq, gI_sI, gI_sL, gI_sA, gI_sM, gL_sI, gL_sL, gL_sA, gL_sM, aI_sI, aI_sL, aI_sA, aI_sM, aL_sI, aL_sL, aL_sA, aL_sM]
          unfold Qv_judgeExpB
          try dsimp only
          exact ⟨rfl, Or.inl ⟨hnn, hz⟩⟩
        · intro x1 x2 Y hz
          refine hB _ _ _ _ _ (fun m1 hm1 => ?_)
          dsimp only [ugo, uwp, ust, uct, rfd, BjudgeExp, BjudgeExp_457, Nat.beq, lv_args, rlk, rs1, rs2, rdl, rky, rcd, rno, rsw, Value.category, List.filter, List.take, List.drop, List.reverse, List.reverseAux, List.cons_append, List.nil_append, Option.toList, Int.toNat, Int.reduceToNat, if_pos, if_neg, reduceIte, ↓reduceIte, Nat.reduceAdd, Nat.reduceEqDiff, Nat.reduceBEq, beq_self_eq_true, Bool.not_true, Bool.not_false, Bool.and_true, Bool.and_false, Bool.true_and, Bool.false_and, gI_sI, gI_sL, gI_sA, gI_sM, gL_sI, gL_sL, gL_sA, gL_sM, aI_sI, aI_sL, aI_sA, aI_sM, aL_sI, aL_sL, aL_sA, aL_sM]; try dsimp only
          refine ⟨trivial, fun w2 τ2 hq2 => ?_⟩
          obtain ⟨rfl, hz2⟩ := hq2.1 hz
          dsimp only [Option.toList, List.cons_append, List.nil_append, Nat.beq, gI_sI, gI_sL, gI_sA, gI_sM, gL_sI, gL_sL, gL_sA, gL_sM, aI_sI, aI_sL, aI_sA, aI_sM, aL_sI, aL_sL, aL_sA, aL_sM]
          unfold Qv_judgeExpB
          try dsimp only
          exact ⟨rfl, Or.inl ⟨hnn, hz2⟩⟩
        · intro x1 x2 Y hz
          refine hB _ _ _ _ _ (fun m1 hm1 => ?_)
          dsimp only [ugo, uwp, ust, uct, rfd, BjudgeExp, BjudgeExp_464, Nat.beq, lv_args, rlk, rs1, rs2, rdl, rky, rcd, rno, rsw, Value.category, List.filter, List.take, List.drop, List.reverse, List.reverseAux, List.cons_append, List.nil_append, Option.toList, Int.toNat, Int.reduceToNat, if_pos, if_neg, reduceIte, ↓reduceIte, Nat.reduceAdd, Nat.reduceEqDiff, Nat.reduceBEq, beq_self_eq_true, Bool.not_true, Bool.not_false, Bool.and_true, Bool.and_false, Bool.true_and, Bool.false_and, gI_sI, gI_sL, gI_sA, gI_sM, gL_sI, gL_sL, gL_sA, gL_sM, aI_sI, aI_sL, aI_sA, aI_sM, aL_sI, aL_sL, aL_sA, aL_sM]; try dsimp only
          refine ⟨trivial, fun w2 τ2 hq2 => ?_⟩
          obtain ⟨rfl, hz2⟩ := hq2.1 hz
          dsimp only [Option.toList, List.cons_append, List.nil_append, Nat.beq, gI_sI, gI_sL, gI_sA, gI_sM, gL_sI, gL_sL, gL_sA, gL_sM, aI_sI, aI_sL, aI_sA, aI_sM, aL_sI, aL_sL, aL_sA, aL_sM]
          unfold Qv_judgeExpB
          try dsimp only
          exact ⟨rfl, Or.inl ⟨hnn, hz2⟩⟩
        · intro x1 x2 Y hz
          refine hB _ _ _ _ _ (fun m1 hm1 => ?_)
          dsimp only [ugo, uwp, ust, uct, rfd, BjudgeExp, BjudgeExp_471, Nat.beq, lv_args, rlk, rs1, rs2, rdl, rky, rcd, rno, rsw, Value.category, List.filter, List.take, List.drop, List.reverse, List.reverseAux, List.cons_append, List.nil_append, Option.toList, Int.toNat, Int.reduceToNat, if_pos, if_neg, reduceIte, ↓reduceIte, Nat.reduceAdd, Nat.reduceEqDiff, Nat.reduceBEq, beq_self_eq_true, Bool.not_true, Bool.not_false, Bool.and_true, Bool.and_false, Bool.true_and, Bool.false_and, gI_sI, gI_sL, gI_sA, gI_sM, gL_sI, gL_sL, gL_sA, gL_sM, aI_sI, aI_sL, aI_sA, aI_sM, aL_sI, aL_sL, aL_sA, aL_sM]; try dsimp only
          unfold Qv_judgeExpB
          try dsimp only
          exact ⟨rfl, Or.inl ⟨hnn, hz⟩⟩
    have s7 := hsg.2.2.1
    intro n0
    refine hB _ _ _ _ _ (fun m1 hm1 => ?_)
    dsimp only [ugo, uwp, ust, uct, rfd, BjudgeExp, BjudgeExp_0, Nat.beq, lv_args, rlk, rs1, rs2, rdl, rky, rcd, rno, rsw, Value.category, List.filter, List.take, List.drop, List.reverse, List.reverseAux, List.cons_append, List.nil_append, Option.toList, Int.toNat, Int.reduceToNat, if_pos, if_neg, reduceIte, ↓reduceIte, Nat.reduceAdd, Nat.reduceEqDiff, Nat.reduceBEq, beq_self_eq_true, Bool.not_true, Bool.not_false, Bool.and_true, Bool.and_false, Bool.true_and, Bool.false_and, gI_sI, gI_sL, gI_sA, gI_sM, gL_sI, gL_sL, gL_sA, gL_sM, aI_sI, aI_sL, aI_sA, aI_sM, aL_sI, aL_sL, aL_sA, aL_sM]; try dsimp only
    intro p2
    intro p3
    refine ⟨fun h4 => ?_, fun h4 => ?_⟩
    · have c4 : (opkZ x) = 1 := hcc.1.symm.trans h4
      refine hB _ _ _ _ _ (fun m5 hm5 => ?_)
      dsimp only [ugo, uwp, ust, uct, rfd, BjudgeExp, BjudgeExp_100, Nat.beq, lv_args, rlk, rs1, rs2, rdl, rky, rcd, rno, rsw, Value.category, List.filter, List.take, List.drop, List.reverse, List.reverseAux, List.cons_append, List.nil_append, Option.toList, Int.toNat, Int.reduceToNat, if_pos, if_neg, reduceIte, ↓reduceIte, Nat.reduceAdd, Nat.reduceEqDiff, Nat.reduceBEq, beq_self_eq_true, Bool.not_true, Bool.not_false, Bool.and_true, Bool.and_false, Bool.true_and, Bool.false_and, gI_sI, gI_sL, gI_sA, gI_sM, gL_sI, gL_sL, gL_sA, gL_sM, aI_sI, aI_sL, aI_sA, aI_sM, aL_sI, aL_sL, aL_sA, aL_sM]; try dsimp only
      have kk : x.1.1 ≤ 1 := by omega
      clear hok
      refine ⟨trivial, fun w6 τ6 hq6 => ?_⟩
      obtain ⟨rfl, hJ6⟩ := hq6.2 (exT C T i x) ⟨hE, hlit (by omega)⟩
      dsimp only [Option.toList, List.cons_append, List.nil_append, Nat.beq, gI_sI, gI_sL, gI_sA, gI_sM, gL_sI, gL_sL, gL_sA, gL_sM, aI_sI, aI_sL, aI_sA, aI_sM, aL_sI, aL_sL, aL_sA, aL_sM]
      unfold Qv_judgeExpB
      try dsimp only
      refine ⟨rfl, hJ6.m (rfl) (fun e h => ⟨fun q => absurd q (by omega), fun _ => ?_⟩)⟩
      obtain ⟨ty, su, v, hs, rfl⟩ := h
      exact ⟨_, ty, su, v, hs, rfl, BaR.lit (by omega)⟩
    have c4 : ¬ (opkZ x) = 1 := fun q => h4 (hcc.1.trans q)
    refine ⟨fun h7 => ?_, fun h7 => ?_⟩
    · have c7 : (opkZ x) = 2 := hcc.1.symm.trans h7
      refine hB _ _ _ _ _ (fun m8 hm8 => ?_)
      dsimp only [ugo, uwp, ust, uct, rfd, BjudgeExp, BjudgeExp_107, Nat.beq, lv_args, rlk, rs1, rs2, rdl, rky, rcd, rno, rsw, Value.category, List.filter, List.take, List.drop, List.reverse, List.reverseAux, List.cons_append, List.nil_append, Option.toList, Int.toNat, Int.reduceToNat, if_pos, if_neg, reduceIte, ↓reduceIte, Nat.reduceAdd, Nat.reduceEqDiff, Nat.reduceBEq, beq_self_eq_true, Bool.not_true, Bool.not_false, Bool.and_true, Bool.and_false, Bool.true_and, Bool.false_and, gI_sI, gI_sL, gI_sA, gI_sM, gL_sI, gL_sL, gL_sA, gL_sM, aI_sI, aI_sL, aI_sA, aI_sM, aL_sI, aL_sL, aL_sA, aL_sM]; try dsimp only
      have kk : x.1.1 = 2 := by omega
      clear hok
      refine ⟨trivial, fun w9 τ9 hq9 => ?_⟩
      obtain ⟨rfl, r9, rfl, hr9⟩ := hq9 trivial
      have hfd9 := (hfd (by omega)).2.1 _ (hr9 (hfd (by omega)).1)
      dsimp only [Option.toList, List.cons_append, List.nil_append, Nat.beq, gI_sI, gI_sL, gI_sA, gI_sM, gL_sI, gL_sL, gL_sA, gL_sM, aI_sI, aI_sL, aI_sA, aI_sM, aL_sI, aL_sL, aL_sA, aL_sM]
      intro p10
      refine ⟨fun h11 => ?_, fun h11 => ?_⟩
      · have c11 : 0 ≤ (r9).toInt := (cI (rfl : (r9).toInt = (r9).toInt) (rfl : (0 : Int32).toInt = 0)).2.2.2.2.mp h11
        refine hB _ _ _ _ _ (fun m12 hm12 => ?_)
        dsimp only [ugo, uwp, ust, uct, rfd, BjudgeExp, BjudgeExp_138, Nat.beq, lv_args, rlk, rs1, rs2, rdl, rky, rcd, rno, rsw, Value.category, List.filter, List.take, List.drop, List.reverse, List.reverseAux, List.cons_append, List.nil_append, Option.toList, Int.toNat, Int.reduceToNat, if_pos, if_neg, reduceIte, ↓reduceIte, Nat.reduceAdd, Nat.reduceEqDiff, Nat.reduceBEq, beq_self_eq_true, Bool.not_true, Bool.not_false, Bool.and_true, Bool.and_false, Bool.true_and, Bool.false_and, gI_sI, gI_sL, gI_sA, gI_sM, gL_sI, gL_sL, gL_sA, gL_sM, aI_sI, aI_sL, aI_sA, aI_sM, aL_sI, aL_sL, aL_sA, aL_sM]; try dsimp only
        have hre : r9.toInt = x.2.1.2.1 := by omega
        have hkn : knT C x.2.1.2.1 := (hfd (by omega)).2.2.1 (by omega)
        obtain ⟨v1, v2, v3, v4⟩ := (hfd (by omega)).2.2.2 hkn
        rw [show x.2.1.2.1.toNat = r9.toNatClampNeg by show _ = r9.toInt.toNat; rw [hre]] at v1 v2
        obtain ⟨s1, s2⟩ := hvs (by omega) hkn
        rw [show x.2.1.2.1.toNat = r9.toNatClampNeg by show _ = r9.toInt.toNat; rw [hre]] at s1
        intro p13
        intro p14
        intro p15
        have t176 : ∀ (M_ : Nat) (su : Int32), (¬ su = 0 ↔ ¬ (T.2 x.2.1.2.1.toNat).1 = 0) → K M_ 176 [(0, .ref 1000), (1, .int c), (2, .int ((aI σ 22) (c).toNatClampNeg)), (3, .int r9)] [.int su, .int ((aI σ 44) (r9).toNatClampNeg), .int c, .ref 1000] (sA (sA σ 83 (upd (aI σ 83) (c).toNatClampNeg r9)) 80 (upd (aI σ 80) (((aI σ 22) (c).toNatClampNeg)).toNatClampNeg r9)) := by
          intro M_ su hsu
          refine hB _ _ _ _ _ (fun m16 hm16 => ?_)
          dsimp only [ugo, uwp, ust, uct, rfd, BjudgeExp, BjudgeExp_176, Nat.beq, lv_args, rlk, rs1, rs2, rdl, rky, rcd, rno, rsw, Value.category, List.filter, List.take, List.drop, List.reverse, List.reverseAux, List.cons_append, List.nil_append, Option.toList, Int.toNat, Int.reduceToNat, if_pos, if_neg, reduceIte, ↓reduceIte, Nat.reduceAdd, Nat.reduceEqDiff, Nat.reduceBEq, beq_self_eq_true, Bool.not_true, Bool.not_false, Bool.and_true, Bool.and_false, Bool.true_and, Bool.false_and, gI_sI, gI_sL, gI_sA, gI_sM, gL_sI, gL_sL, gL_sA, gL_sM, aI_sI, aI_sL, aI_sA, aI_sM, aL_sI, aL_sL, aL_sA, aL_sM]; try dsimp only
          intro p17
          refine ⟨trivial, fun w18 τ18 hq18 => ?_⟩
          obtain ⟨rfl, rfl⟩ := hq18 trivial
          dsimp only [Option.toList, List.cons_append, List.nil_append, Nat.beq, gI_sI, gI_sL, gI_sA, gI_sM, gL_sI, gL_sL, gL_sA, gL_sM, aI_sI, aI_sL, aI_sA, aI_sM, aL_sI, aL_sL, aL_sA, aL_sM]
          refine hB _ _ _ _ _ (fun m19 hm19 => ?_)
          dsimp only [ugo, uwp, ust, uct, rfd, BjudgeExp, BjudgeExp_185, Nat.beq, lv_args, rlk, rs1, rs2, rdl, rky, rcd, rno, rsw, Value.category, List.filter, List.take, List.drop, List.reverse, List.reverseAux, List.cons_append, List.nil_append, Option.toList, Int.toNat, Int.reduceToNat, if_pos, if_neg, reduceIte, ↓reduceIte, Nat.reduceAdd, Nat.reduceEqDiff, Nat.reduceBEq, beq_self_eq_true, Bool.not_true, Bool.not_false, Bool.and_true, Bool.and_false, Bool.true_and, Bool.false_and, gI_sI, gI_sL, gI_sA, gI_sM, gL_sI, gL_sL, gL_sA, gL_sM, aI_sI, aI_sL, aI_sA, aI_sM, aL_sI, aL_sL, aL_sA, aL_sM]; try dsimp only
          unfold Qv_judgeExpB
          try dsimp only
          refine ⟨rfl, Or.inr ⟨_, (ex_2 (by omega)).trans (if_pos hkn), fun q => absurd q (by omega), fun _ => ⟨_, ((aI σ 44) (r9).toNatClampNeg), su, ((aL σ 87) (r9).toNatClampNeg), ?_, rfl, BaR.var (by omega) hre⟩⟩⟩
          have hz0 := ht0 (by omega)
          by_cases e0 : (T.2 x.2.1.2.1.toNat).1 = 0
          · rw [if_pos e0]
            exact ⟨v1, ⟨fun q => absurd e0 (hsu.mp q), fun q => absurd hz0 q⟩, fun q => absurd hz0 q⟩
          · rw [if_neg e0]
            refine ⟨v1, ⟨fun _ => by show ¬ (1 : Int) = 0; decide, fun _ => hsu.mpr e0⟩, fun _ => ?_⟩
            have q := ((hvs (by omega) hkn).2 e0).1
            rw [show x.2.1.2.1.toNat = r9.toNatClampNeg by show _ = r9.toInt.toNat; rw [hre]] at q ⊢
            exact q
        refine ⟨fun h20 => ?_, fun h20 => ?_⟩
        · have c20 : ¬ ((¬ (vtT C x.2.1.2.1).2 = 0)) := fun q => (v2).mpr q h20
          refine hB _ _ _ _ _ (fun m21 hm21 => ?_)
          dsimp only [ugo, uwp, ust, uct, rfd, BjudgeExp, BjudgeExp_175, Nat.beq, lv_args, rlk, rs1, rs2, rdl, rky, rcd, rno, rsw, Value.category, List.filter, List.take, List.drop, List.reverse, List.reverseAux, List.cons_append, List.nil_append, Option.toList, Int.toNat, Int.reduceToNat, if_pos, if_neg, reduceIte, ↓reduceIte, Nat.reduceAdd, Nat.reduceEqDiff, Nat.reduceBEq, beq_self_eq_true, Bool.not_true, Bool.not_false, Bool.and_true, Bool.and_false, Bool.true_and, Bool.false_and, gI_sI, gI_sL, gI_sA, gI_sM, gL_sI, gL_sL, gL_sA, gL_sM, aI_sI, aI_sL, aI_sA, aI_sM, aL_sI, aL_sL, aL_sA, aL_sM, oi_0]; try dsimp only
          exact hW _ 176 [(0, .ref 1000), (1, .int c), (2, .int ((aI σ 22) (c).toNatClampNeg)), (3, .int r9)] _ _ _ (by simp [rdl, rky, Value.category]) (t176 _ 0 (b00 (fun q => by have z := (s2 q).2; have y := s1.mpr (by rw [show r9.toNatClampNeg = x.2.1.2.1.toNat by show r9.toInt.toNat = _; rw [hre]]; exact q); first | contradiction | omega)))
        · have c20 : (¬ (vtT C x.2.1.2.1).2 = 0) := (v2).mp h20
          refine hB _ _ _ _ _ (fun m22 hm22 => ?_)
          dsimp only [ugo, uwp, ust, uct, rfd, BjudgeExp, BjudgeExp_162, Nat.beq, lv_args, rlk, rs1, rs2, rdl, rky, rcd, rno, rsw, Value.category, List.filter, List.take, List.drop, List.reverse, List.reverseAux, List.cons_append, List.nil_append, Option.toList, Int.toNat, Int.reduceToNat, if_pos, if_neg, reduceIte, ↓reduceIte, Nat.reduceAdd, Nat.reduceEqDiff, Nat.reduceBEq, beq_self_eq_true, Bool.not_true, Bool.not_false, Bool.and_true, Bool.and_false, Bool.true_and, Bool.false_and, gI_sI, gI_sL, gI_sA, gI_sM, gL_sI, gL_sL, gL_sA, gL_sM, aI_sI, aI_sL, aI_sA, aI_sM, aL_sI, aL_sL, aL_sA, aL_sM]; try dsimp only
          intro p23
          refine ⟨fun h24 => ?_, fun h24 => ?_⟩
          · refine hB _ _ _ _ _ (fun m25 hm25 => ?_)
            dsimp only [ugo, uwp, ust, uct, rfd, BjudgeExp, BjudgeExp_175, Nat.beq, lv_args, rlk, rs1, rs2, rdl, rky, rcd, rno, rsw, Value.category, List.filter, List.take, List.drop, List.reverse, List.reverseAux, List.cons_append, List.nil_append, Option.toList, Int.toNat, Int.reduceToNat, if_pos, if_neg, reduceIte, ↓reduceIte, Nat.reduceAdd, Nat.reduceEqDiff, Nat.reduceBEq, beq_self_eq_true, Bool.not_true, Bool.not_false, Bool.and_true, Bool.and_false, Bool.true_and, Bool.false_and, gI_sI, gI_sL, gI_sA, gI_sM, gL_sI, gL_sL, gL_sA, gL_sM, aI_sI, aI_sL, aI_sA, aI_sM, aL_sI, aL_sL, aL_sA, aL_sM, oi_0]; try dsimp only
            exact hW _ 176 [(0, .ref 1000), (1, .int c), (2, .int ((aI σ 22) (c).toNatClampNeg)), (3, .int r9)] _ _ _ (by simp [rdl, rky, Value.category]) (t176 _ 0 (b00 (fun q => by have z := (s2 q).2; have y := s1.mpr (by rw [show r9.toNatClampNeg = x.2.1.2.1.toNat by show r9.toInt.toNat = _; rw [hre]]; exact q); first | contradiction | omega)))
          · refine hB _ _ _ _ _ (fun m26 hm26 => ?_)
            dsimp only [ugo, uwp, ust, uct, rfd, BjudgeExp, BjudgeExp_171, Nat.beq, lv_args, rlk, rs1, rs2, rdl, rky, rcd, rno, rsw, Value.category, List.filter, List.take, List.drop, List.reverse, List.reverseAux, List.cons_append, List.nil_append, Option.toList, Int.toNat, Int.reduceToNat, if_pos, if_neg, reduceIte, ↓reduceIte, Nat.reduceAdd, Nat.reduceEqDiff, Nat.reduceBEq, beq_self_eq_true, Bool.not_true, Bool.not_false, Bool.and_true, Bool.and_false, Bool.true_and, Bool.false_and, gI_sI, gI_sL, gI_sA, gI_sM, gL_sI, gL_sL, gL_sA, gL_sM, aI_sI, aI_sL, aI_sA, aI_sM, aL_sI, aL_sL, aL_sA, aL_sM, oi_1]; try dsimp only
            exact hW _ 176 [(0, .ref 1000), (1, .int c), (2, .int ((aI σ 22) (c).toNatClampNeg)), (3, .int r9)] _ _ _ (by simp [rdl, rky, Value.category]) (t176 _ 1 (b01 (by have z := s1.mp (by assumption); rw [show r9.toNatClampNeg = x.2.1.2.1.toNat by show r9.toInt.toNat = _; rw [hre]] at z; exact z)))
      · have c11 : (r9).toInt < 0 := (cI (rfl : (r9).toInt = (r9).toInt) (rfl : (0 : Int32).toInt = 0)).2.1.mp (by first | exact h11 | exact Int32.not_lt.mp h11 | exact Int32.not_le.mp h11)
        refine hB _ _ _ _ _ (fun m27 hm27 => ?_)
        dsimp only [ugo, uwp, ust, uct, rfd, BjudgeExp, BjudgeExp_124, Nat.beq, lv_args, rlk, rs1, rs2, rdl, rky, rcd, rno, rsw, Value.category, List.filter, List.take, List.drop, List.reverse, List.reverseAux, List.cons_append, List.nil_append, Option.toList, Int.toNat, Int.reduceToNat, if_pos, if_neg, reduceIte, ↓reduceIte, Nat.reduceAdd, Nat.reduceEqDiff, Nat.reduceBEq, beq_self_eq_true, Bool.not_true, Bool.not_false, Bool.and_true, Bool.and_false, Bool.true_and, Bool.false_and, gI_sI, gI_sL, gI_sA, gI_sM, gL_sI, gL_sL, gL_sA, gL_sM, aI_sI, aI_sL, aI_sA, aI_sM, aL_sI, aL_sL, aL_sA, aL_sM, oi_3]; try dsimp only
        refine ⟨trivial, fun w28 τ28 hq28 => ?_⟩
        obtain ⟨rfl, hz28⟩ := hq28 (show ¬ (3 : Int32) = 0 by decide)
        dsimp only [Option.toList, List.cons_append, List.nil_append, Nat.beq, gI_sI, gI_sL, gI_sA, gI_sM, gL_sI, gL_sL, gL_sA, gL_sM, aI_sI, aI_sL, aI_sA, aI_sM, aL_sI, aL_sL, aL_sA, aL_sM]
        refine ⟨trivial, fun w29 τ29 hq29 => ?_⟩
        obtain ⟨rfl, rfl⟩ := hq29 trivial
        dsimp only [Option.toList, List.cons_append, List.nil_append, Nat.beq, gI_sI, gI_sL, gI_sA, gI_sM, gL_sI, gL_sL, gL_sA, gL_sM, aI_sI, aI_sL, aI_sA, aI_sM, aL_sI, aL_sL, aL_sA, aL_sM]
        exact hW _ 185 [(0, .ref 1000), (1, .int c), (2, .int ((aI σ 22) (c).toNatClampNeg)), (3, .int r9)] _ _ _ (by simp [rdl, rky, Value.category]) ((bad (by exact (ex_2 (by omega)).trans (if_neg (by omega))) _).2.2.2.2.2.2.2.2.2.1 c ((aI σ 22) (c).toNatClampNeg) r9 _ hz28)
    have c7 : ¬ (opkZ x) = 2 := fun q => h7 (hcc.1.trans q)
    refine ⟨fun h30 => ?_, fun h30 => ?_⟩
    · have c30 : (opkZ x) = 3 := hcc.1.symm.trans h30
      refine hB _ _ _ _ _ (fun m31 hm31 => ?_)
      dsimp only [ugo, uwp, ust, uct, rfd, BjudgeExp, BjudgeExp_186, Nat.beq, lv_args, rlk, rs1, rs2, rdl, rky, rcd, rno, rsw, Value.category, List.filter, List.take, List.drop, List.reverse, List.reverseAux, List.cons_append, List.nil_append, Option.toList, Int.toNat, Int.reduceToNat, if_pos, if_neg, reduceIte, ↓reduceIte, Nat.reduceAdd, Nat.reduceEqDiff, Nat.reduceBEq, beq_self_eq_true, Bool.not_true, Bool.not_false, Bool.and_true, Bool.and_false, Bool.true_and, Bool.false_and, gI_sI, gI_sL, gI_sA, gI_sM, gL_sI, gL_sL, gL_sA, gL_sM, aI_sI, aI_sL, aI_sA, aI_sM, aL_sI, aL_sL, aL_sA, aL_sM]; try dsimp only
      have kk : x.1.1 = 6 := by omega
      clear hok
      refine ⟨trivial, fun w32 τ32 hq32 => ?_⟩
      obtain ⟨rfl, hJ32⟩ := hq32.2 C (T.1 i) x ⟨hE, (hfd (by omega)).1, (hfd (by omega)).2.1, (hfd (by omega)).2.2.1, (hfd (by omega)).2.2.2, ht0 (by omega)⟩
      dsimp only [Option.toList, List.cons_append, List.nil_append, Nat.beq, gI_sI, gI_sL, gI_sA, gI_sM, gL_sI, gL_sL, gL_sA, gL_sM, aI_sI, aI_sL, aI_sA, aI_sM, aL_sI, aL_sL, aL_sA, aL_sM]
      unfold Qv_judgeExpB
      try dsimp only
      refine ⟨rfl, hJ32.m (ex_6 (by omega)) (fun e h => ⟨fun q => absurd q (by omega), fun _ => ?_⟩)⟩
      obtain ⟨l, ty, su, v, hl, hs, rfl⟩ := h
      exact ⟨_, ty, su, v, hs, rfl, BaR.var (by omega) hl⟩
    have c30 : ¬ (opkZ x) = 3 := fun q => h30 (hcc.1.trans q)
    refine ⟨fun h33 => ?_, fun h33 => ?_⟩
    · have c33 : (opkZ x) = 4 := hcc.1.symm.trans h33
      refine hB _ _ _ _ _ (fun m34 hm34 => ?_)
      dsimp only [ugo, uwp, ust, uct, rfd, BjudgeExp, BjudgeExp_186, Nat.beq, lv_args, rlk, rs1, rs2, rdl, rky, rcd, rno, rsw, Value.category, List.filter, List.take, List.drop, List.reverse, List.reverseAux, List.cons_append, List.nil_append, Option.toList, Int.toNat, Int.reduceToNat, if_pos, if_neg, reduceIte, ↓reduceIte, Nat.reduceAdd, Nat.reduceEqDiff, Nat.reduceBEq, beq_self_eq_true, Bool.not_true, Bool.not_false, Bool.and_true, Bool.and_false, Bool.true_and, Bool.false_and, gI_sI, gI_sL, gI_sA, gI_sM, gL_sI, gL_sL, gL_sA, gL_sM, aI_sI, aI_sL, aI_sA, aI_sM, aL_sI, aL_sL, aL_sA, aL_sM]; try dsimp only
      have kk : x.1.1 = 6 := by omega
      clear hok
      refine ⟨trivial, fun w35 τ35 hq35 => ?_⟩
      obtain ⟨rfl, hJ35⟩ := hq35.2 C (T.1 i) x ⟨hE, (hfd (by omega)).1, (hfd (by omega)).2.1, (hfd (by omega)).2.2.1, (hfd (by omega)).2.2.2, ht0 (by omega)⟩
      dsimp only [Option.toList, List.cons_append, List.nil_append, Nat.beq, gI_sI, gI_sL, gI_sA, gI_sM, gL_sI, gL_sL, gL_sA, gL_sM, aI_sI, aI_sL, aI_sA, aI_sM, aL_sI, aL_sL, aL_sA, aL_sM]
      unfold Qv_judgeExpB
      try dsimp only
      refine ⟨rfl, hJ35.m (ex_6 (by omega)) (fun e h => ⟨fun q => absurd q (by omega), fun _ => ?_⟩)⟩
      obtain ⟨l, ty, su, v, hl, hs, rfl⟩ := h
      exact ⟨_, ty, su, v, hs, rfl, BaR.var (by omega) hl⟩
    have c33 : ¬ (opkZ x) = 4 := fun q => h33 (hcc.1.trans q)
    refine ⟨fun h36 => ?_, fun h36 => ?_⟩
    · have c36 : (opkZ x) = 5 := hcc.1.symm.trans h36
      refine hB _ _ _ _ _ (fun m37 hm37 => ?_)
      dsimp only [ugo, uwp, ust, uct, rfd, BjudgeExp, BjudgeExp_193, Nat.beq, lv_args, rlk, rs1, rs2, rdl, rky, rcd, rno, rsw, Value.category, List.filter, List.take, List.drop, List.reverse, List.reverseAux, List.cons_append, List.nil_append, Option.toList, Int.toNat, Int.reduceToNat, if_pos, if_neg, reduceIte, ↓reduceIte, Nat.reduceAdd, Nat.reduceEqDiff, Nat.reduceBEq, beq_self_eq_true, Bool.not_true, Bool.not_false, Bool.and_true, Bool.and_false, Bool.true_and, Bool.false_and, gI_sI, gI_sL, gI_sA, gI_sM, gL_sI, gL_sL, gL_sA, gL_sM, aI_sI, aI_sL, aI_sA, aI_sM, aL_sI, aL_sL, aL_sA, aL_sM]; try dsimp only
      have kk : x.1.1 = 4 := by omega
      clear hok
      refine ⟨trivial, fun w38 τ38 hq38 => ?_⟩
      obtain ⟨rfl, hJ38⟩ := hq38.2 (opT T x.2.2.1.2.1) (T.1 i) x ⟨hE, ho1 (by omega), hcc.2.2.2.2.1 (by omega), hsg.1 (by omega)⟩
      dsimp only [Option.toList, List.cons_append, List.nil_append, Nat.beq, gI_sI, gI_sL, gI_sA, gI_sM, gL_sI, gL_sL, gL_sA, gL_sM, aI_sI, aI_sL, aI_sA, aI_sM, aL_sI, aL_sL, aL_sA, aL_sM]
      unfold Qv_judgeExpB
      try dsimp only
      refine ⟨rfl, hJ38.m (ex_4 (by omega)) (fun e h => ⟨fun q => absurd q (by omega), fun _ => ?_⟩)⟩
      obtain ⟨ty, su, v, hs, rfl⟩ := h
      exact ⟨_, ty, su, v, hs, rfl, BaR.un (by omega) hs.1⟩
    have c36 : ¬ (opkZ x) = 5 := fun q => h36 (hcc.1.trans q)
    refine ⟨fun h39 => ?_, fun h39 => ?_⟩
    · have c39 : (opkZ x) = 6 := hcc.1.symm.trans h39
      refine hB _ _ _ _ _ (fun m40 hm40 => ?_)
      dsimp only [ugo, uwp, ust, uct, rfd, BjudgeExp, BjudgeExp_199, Nat.beq, lv_args, rlk, rs1, rs2, rdl, rky, rcd, rno, rsw, Value.category, List.filter, List.take, List.drop, List.reverse, List.reverseAux, List.cons_append, List.nil_append, Option.toList, Int.toNat, Int.reduceToNat, if_pos, if_neg, reduceIte, ↓reduceIte, Nat.reduceAdd, Nat.reduceEqDiff, Nat.reduceBEq, beq_self_eq_true, Bool.not_true, Bool.not_false, Bool.and_true, Bool.and_false, Bool.true_and, Bool.false_and, gI_sI, gI_sL, gI_sA, gI_sM, gL_sI, gL_sL, gL_sA, gL_sM, aI_sI, aI_sL, aI_sA, aI_sM, aL_sI, aL_sL, aL_sA, aL_sM]; try dsimp only
      have kk : x.1.1 = 5 := by omega
      clear hok
      refine ⟨trivial, fun w41 τ41 hq41 => ?_⟩
      obtain ⟨rfl, hJ41⟩ := hq41.2 (opT T x.2.2.1.2.1) (T.1 i) x ⟨hE, ho1 (by omega), hcc.2.2.2.2.2.1 (by omega), hsg.2.1 (by omega)⟩
      dsimp only [Option.toList, List.cons_append, List.nil_append, Nat.beq, gI_sI, gI_sL, gI_sA, gI_sM, gL_sI, gL_sL, gL_sA, gL_sM, aI_sI, aI_sL, aI_sA, aI_sM, aL_sI, aL_sL, aL_sA, aL_sM]
      unfold Qv_judgeExpB
      try dsimp only
      refine ⟨rfl, hJ41.m (ex_5 (by omega)) (fun e h => ⟨fun q => absurd q (by omega), fun _ => ?_⟩)⟩
      obtain ⟨ty, su, v, hs, rfl⟩ := h
      exact ⟨_, ty, su, v, hs, rfl, BaR.one (by omega)⟩
    have c39 : ¬ (opkZ x) = 6 := fun q => h39 (hcc.1.trans q)
    refine ⟨fun h42 => ?_, fun h42 => ?_⟩
    · have c42 : (opkZ x) = 7 := hcc.1.symm.trans h42
      refine hB _ _ _ _ _ (fun m43 hm43 => ?_)
      dsimp only [ugo, uwp, ust, uct, rfd, BjudgeExp, BjudgeExp_205, Nat.beq, lv_args, rlk, rs1, rs2, rdl, rky, rcd, rno, rsw, Value.category, List.filter, List.take, List.drop, List.reverse, List.reverseAux, List.cons_append, List.nil_append, Option.toList, Int.toNat, Int.reduceToNat, if_pos, if_neg, reduceIte, ↓reduceIte, Nat.reduceAdd, Nat.reduceEqDiff, Nat.reduceBEq, beq_self_eq_true, Bool.not_true, Bool.not_false, Bool.and_true, Bool.and_false, Bool.true_and, Bool.false_and, gI_sI, gI_sL, gI_sA, gI_sM, gL_sI, gL_sL, gL_sA, gL_sM, aI_sI, aI_sL, aI_sA, aI_sM, aL_sI, aL_sL, aL_sA, aL_sM]; try dsimp only
      have kk : (x.1.1 = 7 ∧ ¬ x.1.2.1 = 21 ∧ ¬ x.1.2.1 = 20) := by omega
      clear hok
      refine ⟨trivial, fun w44 τ44 hq44 => ?_⟩
      obtain ⟨rfl, hJ44⟩ := hq44.2 (opT T x.2.2.1.2.1) (opT T x.2.2.1.2.2.1) (T.1 i) x ⟨hE, (ho7 (by omega)).1, (ho7 (by omega)).2, hcc.2.2.2.2.1 (by omega), (by have := hsg.2.2.1 (by omega); omega)⟩
      dsimp only [Option.toList, List.cons_append, List.nil_append, Nat.beq, gI_sI, gI_sL, gI_sA, gI_sM, gL_sI, gL_sL, gL_sA, gL_sM, aI_sI, aI_sL, aI_sA, aI_sM, aL_sI, aL_sL, aL_sA, aL_sM]
      unfold Qv_judgeExpB
      try dsimp only
      refine ⟨rfl, hJ44.m (ex_7 (by omega)) (fun e h => ⟨fun q => absurd q (by omega), fun _ => ?_⟩)⟩
      obtain ⟨wk, ty, su, v, hl, hs, rfl⟩ := h
      exact ⟨_, ty, su, v, hs, rfl, BaR.bi (by omega) hl⟩
    have c42 : ¬ (opkZ x) = 7 := fun q => h42 (hcc.1.trans q)
    refine ⟨fun h45 => ?_, fun h45 => ?_⟩
    · have c45 : (opkZ x) = 8 := hcc.1.symm.trans h45
      refine hB _ _ _ _ _ (fun m46 hm46 => ?_)
      dsimp only [ugo, uwp, ust, uct, rfd, BjudgeExp, BjudgeExp_471, Nat.beq, lv_args, rlk, rs1, rs2, rdl, rky, rcd, rno, rsw, Value.category, List.filter, List.take, List.drop, List.reverse, List.reverseAux, List.cons_append, List.nil_append, Option.toList, Int.toNat, Int.reduceToNat, if_pos, if_neg, reduceIte, ↓reduceIte, Nat.reduceAdd, Nat.reduceEqDiff, Nat.reduceBEq, beq_self_eq_true, Bool.not_true, Bool.not_false, Bool.and_true, Bool.and_false, Bool.true_and, Bool.false_and, gI_sI, gI_sL, gI_sA, gI_sM, gL_sI, gL_sL, gL_sA, gL_sM, aI_sI, aI_sL, aI_sA, aI_sM, aL_sI, aL_sL, aL_sA, aL_sM]; try dsimp only
      have kk : 11 ≤ x.1.1 := by omega
      clear hok
      unfold Qv_judgeExpB
      try dsimp only
      exact ⟨rfl, Or.inr ⟨_, ex_d (by omega), fun _ => rfl, fun q => absurd q (by omega)⟩⟩
    have c45 : ¬ (opkZ x) = 8 := fun q => h45 (hcc.1.trans q)
    refine ⟨fun h47 => ?_, fun h47 => ?_⟩
    · have c47 : (opkZ x) = 9 := hcc.1.symm.trans h47
      refine hB _ _ _ _ _ (fun m48 hm48 => ?_)
      dsimp only [ugo, uwp, ust, uct, rfd, BjudgeExp, BjudgeExp_211, Nat.beq, lv_args, rlk, rs1, rs2, rdl, rky, rcd, rno, rsw, Value.category, List.filter, List.take, List.drop, List.reverse, List.reverseAux, List.cons_append, List.nil_append, Option.toList, Int.toNat, Int.reduceToNat, if_pos, if_neg, reduceIte, ↓reduceIte, Nat.reduceAdd, Nat.reduceEqDiff, Nat.reduceBEq, beq_self_eq_true, Bool.not_true, Bool.not_false, Bool.and_true, Bool.and_false, Bool.true_and, Bool.false_and, gI_sI, gI_sL, gI_sA, gI_sM, gL_sI, gL_sL, gL_sA, gL_sM, aI_sI, aI_sL, aI_sA, aI_sM, aL_sI, aL_sL, aL_sA, aL_sM, oi_0, oi_1, oi_2]; try dsimp only
      have kk : (x.1.1 = 7 ∧ ((opkZ x = 9 ∧ x.1.2.1 = 21) ∨ (opkZ x = 11 ∧ x.1.2.1 = 20))) := by omega
      clear hok
      refine ⟨trivial, fun w49 τ49 hq49 => ?_⟩
      obtain ⟨hA49, b49, rfl, hb49⟩ := hq49 trivial
      rcases hb49 _ (ho7 (by omega)).1 with ⟨rfl, rfl, hd49⟩ | ⟨rfl, hz49, hd49⟩
      · dsimp only [Option.toList, List.cons_append, List.nil_append, Nat.beq, gI_sI, gI_sL, gI_sA, gI_sM, gL_sI, gL_sL, gL_sA, gL_sM, aI_sI, aI_sL, aI_sA, aI_sM, aL_sI, aL_sL, aL_sA, aL_sM]
        have hd49 : (opT T x.2.2.1.2.1).1 = 0 := (nd_t (rfl)).mp hd49
        refine ⟨trivial, fun w50 τ50 hq50 => ?_⟩
        obtain ⟨hA50, b50, rfl, hb50⟩ := hq50 trivial
        rcases hb50 _ (ho7 (by omega)).2 with ⟨rfl, rfl, hd50⟩ | ⟨rfl, hz50, hd50⟩
        · dsimp only [Option.toList, List.cons_append, List.nil_append, Nat.beq, gI_sI, gI_sL, gI_sA, gI_sM, gL_sI, gL_sL, gL_sA, gL_sM, aI_sI, aI_sL, aI_sA, aI_sM, aL_sI, aL_sL, aL_sA, aL_sM]
          have hd50 : (opT T x.2.2.1.2.2.1).1 = 0 := (nd_t (rfl)).mp hd50
          refine ⟨fun h51 => absurd h51 (by decide), fun h51 => ?_⟩
          clear h51
          refine hB _ _ _ _ _ (fun m52 hm52 => ?_)
          dsimp only [ugo, uwp, ust, uct, rfd, BjudgeExp, BjudgeExp_250, Nat.beq, lv_args, rlk, rs1, rs2, rdl, rky, rcd, rno, rsw, Value.category, List.filter, List.take, List.drop, List.reverse, List.reverseAux, List.cons_append, List.nil_append, Option.toList, Int.toNat, Int.reduceToNat, if_pos, if_neg, reduceIte, ↓reduceIte, Nat.reduceAdd, Nat.reduceEqDiff, Nat.reduceBEq, beq_self_eq_true, Bool.not_true, Bool.not_false, Bool.and_true, Bool.and_false, Bool.true_and, Bool.false_and, gI_sI, gI_sL, gI_sA, gI_sM, gL_sI, gL_sL, gL_sA, gL_sM, aI_sI, aI_sL, aI_sA, aI_sM, aL_sI, aL_sL, aL_sA, aL_sM]; try dsimp only
          refine ⟨fun h53 => ?_, fun h53 => absurd h53 (by decide)⟩
          clear h53
          refine hB _ _ _ _ _ (fun m54 hm54 => ?_)
          dsimp only [ugo, uwp, ust, uct, rfd, BjudgeExp, BjudgeExp_263, Nat.beq, lv_args, rlk, rs1, rs2, rdl, rky, rcd, rno, rsw, Value.category, List.filter, List.take, List.drop, List.reverse, List.reverseAux, List.cons_append, List.nil_append, Option.toList, Int.toNat, Int.reduceToNat, if_pos, if_neg, reduceIte, ↓reduceIte, Nat.reduceAdd, Nat.reduceEqDiff, Nat.reduceBEq, beq_self_eq_true, Bool.not_true, Bool.not_false, Bool.and_true, Bool.and_false, Bool.true_and, Bool.false_and, gI_sI, gI_sL, gI_sA, gI_sM, gL_sI, gL_sL, gL_sA, gL_sM, aI_sI, aI_sL, aI_sA, aI_sM, aL_sI, aL_sL, aL_sA, aL_sM]; try dsimp only
          have cs2 : csT x.1.2.1 (opT T x.2.2.1.2.1) (opT T x.2.2.1.2.2.1) = 1 ↔ (¬ (opT T x.2.2.1.2.1).2.1 = 0 ∧ ¬ (opT T x.2.2.1.2.2.1).2.1 = 0) := by
            unfold csT
            constructor
            · intro q
              split at q
              · next z => exact ⟨z.1, z.2.1⟩
              · exact absurd q (by decide)
            · intro q
              rw [if_pos ⟨q.1, q.2, fun z => by omega⟩]
          intro p55
          have t294 : ∀ (M_ : Nat) (su : Int32), (¬ su = 0 ↔ (¬ (opT T x.2.2.1.2.1).2.1 = 0 ∧ ¬ (opT T x.2.2.1.2.2.1).2.1 = 0)) → K M_ 294 [(0, .ref 1000), (1, .int c), (2, .int ((aI σ 22) (c).toNatClampNeg)), (4, .int 1), (5, .int 1)] [.int su] (sI σ 69 ((gI σ 69) - 2)) := by
            intro M_ su hsu
            refine hB _ _ _ _ _ (fun m56 hm56 => ?_)
            dsimp only [ugo, uwp, ust, uct, rfd, BjudgeExp, BjudgeExp_294, Nat.beq, lv_args, rlk, rs1, rs2, rdl, rky, rcd, rno, rsw, Value.category, List.filter, List.take, List.drop, List.reverse, List.reverseAux, List.cons_append, List.nil_append, Option.toList, Int.toNat, Int.reduceToNat, if_pos, if_neg, reduceIte, ↓reduceIte, Nat.reduceAdd, Nat.reduceEqDiff, Nat.reduceBEq, beq_self_eq_true, Bool.not_true, Bool.not_false, Bool.and_true, Bool.and_false, Bool.true_and, Bool.false_and, gI_sI, gI_sL, gI_sA, gI_sM, gL_sI, gL_sL, gL_sA, gL_sM, aI_sI, aI_sL, aI_sA, aI_sM, aL_sI, aL_sL, aL_sA, aL_sM]; try dsimp only
            intro p57
            have t331 : ∀ (M_ : Nat) (bo : Int32), (¬ bo = 0 ↔ (¬ ((aL σ 72) (((gI σ 69) - 2)).toNatClampNeg) = 0 ∧ ¬ ((aL σ 72) ((((gI σ 69) - 2) + 1)).toNatClampNeg) = 0)) → K M_ 331 [(0, .ref 1000), (1, .int c), (2, .int ((aI σ 22) (c).toNatClampNeg)), (4, .int 1), (5, .int 1), (6, .int su)] [.int bo] (sI σ 69 ((gI σ 69) - 2)) := by
              intro M_ bo hbo
              refine hB _ _ _ _ _ (fun m58 hm58 => ?_)
              dsimp only [ugo, uwp, ust, uct, rfd, BjudgeExp, BjudgeExp_331, Nat.beq, lv_args, rlk, rs1, rs2, rdl, rky, rcd, rno, rsw, Value.category, List.filter, List.take, List.drop, List.reverse, List.reverseAux, List.cons_append, List.nil_append, Option.toList, Int.toNat, Int.reduceToNat, if_pos, if_neg, reduceIte, ↓reduceIte, Nat.reduceAdd, Nat.reduceEqDiff, Nat.reduceBEq, beq_self_eq_true, Bool.not_true, Bool.not_false, Bool.and_true, Bool.and_false, Bool.true_and, Bool.false_and, gI_sI, gI_sL, gI_sA, gI_sM, gL_sI, gL_sL, gL_sA, gL_sM, aI_sI, aI_sL, aI_sA, aI_sM, aL_sI, aL_sL, aL_sA, aL_sM]; try dsimp only
              intro p59
              have t368 : ∀ (M_ : Nat) (an : Int32), (¬ an = 0 ↔ (¬ ((aL σ 72) (((gI σ 69) - 2)).toNatClampNeg) = 0 ∨ ¬ ((aL σ 72) ((((gI σ 69) - 2) + 1)).toNatClampNeg) = 0)) → K M_ 368 [(0, .ref 1000), (1, .int c), (2, .int ((aI σ 22) (c).toNatClampNeg)), (4, .int 1), (5, .int 1), (6, .int su), (7, .int bo)] [.int an] (sI σ 69 ((gI σ 69) - 2)) := by
                intro M_ an han
                refine hB _ _ _ _ _ (fun m60 hm60 => ?_)
                dsimp only [ugo, uwp, ust, uct, rfd, BjudgeExp, BjudgeExp_368, Nat.beq, lv_args, rlk, rs1, rs2, rdl, rky, rcd, rno, rsw, Value.category, List.filter, List.take, List.drop, List.reverse, List.reverseAux, List.cons_append, List.nil_append, Option.toList, Int.toNat, Int.reduceToNat, if_pos, if_neg, reduceIte, ↓reduceIte, Nat.reduceAdd, Nat.reduceEqDiff, Nat.reduceBEq, beq_self_eq_true, Bool.not_true, Bool.not_false, Bool.and_true, Bool.and_false, Bool.true_and, Bool.false_and, gI_sI, gI_sL, gI_sA, gI_sM, gL_sI, gL_sL, gL_sA, gL_sM, aI_sI, aI_sL, aI_sA, aI_sM, aL_sI, aL_sL, aL_sA, aL_sM, oi_0, oi_9]; try dsimp only
                intro p61
                have t404 : ∀ (M_ : Nat) (vv : Int64), ((¬ (opT T x.2.2.1.2.1).2.1 = 0 ∧ ¬ (opT T x.2.2.1.2.2.1).2.1 = 0) → vv = cvT x.1.2.1 (wrT x.1.2.1 (opT T x.2.2.1.2.1).1 (opT T x.2.2.1.2.2.1).1) (opT T x.2.2.1.2.1).2.2.1 (opT T x.2.2.1.2.2.1).2.2.1) → K M_ 404 [(0, .ref 1000), (1, .int c), (2, .int ((aI σ 22) (c).toNatClampNeg)), (4, .int 1), (5, .int 1), (6, .int su), (7, .int bo), (8, .int an)] [.long vv, .int su, .int 0, .int c, .ref 1000] (sI σ 69 ((gI σ 69) - 2)) := by
                  intro M_ vv hvv
                  refine hB _ _ _ _ _ (fun m62 hm62 => ?_)
                  dsimp only [ugo, uwp, ust, uct, rfd, BjudgeExp, BjudgeExp_404, Nat.beq, lv_args, rlk, rs1, rs2, rdl, rky, rcd, rno, rsw, Value.category, List.filter, List.take, List.drop, List.reverse, List.reverseAux, List.cons_append, List.nil_append, Option.toList, Int.toNat, Int.reduceToNat, if_pos, if_neg, reduceIte, ↓reduceIte, Nat.reduceAdd, Nat.reduceEqDiff, Nat.reduceBEq, beq_self_eq_true, Bool.not_true, Bool.not_false, Bool.and_true, Bool.and_false, Bool.true_and, Bool.false_and, gI_sI, gI_sL, gI_sA, gI_sM, gL_sI, gL_sL, gL_sA, gL_sM, aI_sI, aI_sL, aI_sA, aI_sM, aL_sI, aL_sL, aL_sA, aL_sM]; try dsimp only
                  refine ⟨trivial, fun w63 τ63 hq63 => ?_⟩
                  obtain ⟨rfl, rfl⟩ := hq63 trivial
                  dsimp only [Option.toList, List.cons_append, List.nil_append, Nat.beq, gI_sI, gI_sL, gI_sA, gI_sM, gL_sI, gL_sL, gL_sA, gL_sM, aI_sI, aI_sL, aI_sA, aI_sM, aL_sI, aL_sL, aL_sA, aL_sM]
                  refine hB _ _ _ _ _ (fun m64 hm64 => ?_)
                  dsimp only [ugo, uwp, ust, uct, rfd, BjudgeExp, BjudgeExp_407, Nat.beq, lv_args, rlk, rs1, rs2, rdl, rky, rcd, rno, rsw, Value.category, List.filter, List.take, List.drop, List.reverse, List.reverseAux, List.cons_append, List.nil_append, Option.toList, Int.toNat, Int.reduceToNat, if_pos, if_neg, reduceIte, ↓reduceIte, Nat.reduceAdd, Nat.reduceEqDiff, Nat.reduceBEq, beq_self_eq_true, Bool.not_true, Bool.not_false, Bool.and_true, Bool.and_false, Bool.true_and, Bool.false_and, gI_sI, gI_sL, gI_sA, gI_sM, gL_sI, gL_sL, gL_sA, gL_sM, aI_sI, aI_sL, aI_sA, aI_sM, aL_sI, aL_sL, aL_sA, aL_sM]; try dsimp only
                  unfold Qv_judgeExpB
                  try dsimp only
                  refine ⟨rfl, Or.inr ⟨_, (ex_7 (by omega)).trans (if_pos ⟨by omega, by omega⟩), fun q => absurd q (by omega), fun _ => ⟨_, 0, su, vv, ⟨?_, cs_01 (hsu.trans cs2.symm), fun q => ?_⟩, rfl, BaR.an (by omega) (by omega)⟩⟩⟩
                  · show (0 : Int) = if _ then 0 else wrT _ _ _
                    rw [if_neg (by omega)]
                    unfold wrT
                    rw [if_pos (by omega)]
                  · have q1 : csT x.1.2.1 (opT T x.2.2.1.2.1) (opT T x.2.2.1.2.2.1) = 1 := cs2.mpr (hsu.mp ((cs_01 (hsu.trans cs2.symm)).mpr q))
                    show vv = if _ then _ else _
                    rw [if_pos q1]
                    exact hvv (cs2.mp q1)
                refine ⟨fun h65 => ?_, fun h65 => ?_⟩
                · have c65 : ¬ (opkZ x) = 9 := fun q => h65 ((cI hcc.1 (rfl : (9 : Int32).toInt = 9)).1.mpr q)
                  refine hB _ _ _ _ _ (fun m66 hm66 => ?_)
                  dsimp only [ugo, uwp, ust, uct, rfd, BjudgeExp, BjudgeExp_394, Nat.beq, lv_args, rlk, rs1, rs2, rdl, rky, rcd, rno, rsw, Value.category, List.filter, List.take, List.drop, List.reverse, List.reverseAux, List.cons_append, List.nil_append, Option.toList, Int.toNat, Int.reduceToNat, if_pos, if_neg, reduceIte, ↓reduceIte, Nat.reduceAdd, Nat.reduceEqDiff, Nat.reduceBEq, beq_self_eq_true, Bool.not_true, Bool.not_false, Bool.and_true, Bool.and_false, Bool.true_and, Bool.false_and, gI_sI, gI_sL, gI_sA, gI_sM, gL_sI, gL_sL, gL_sA, gL_sM, aI_sI, aI_sL, aI_sA, aI_sM, aL_sI, aL_sL, aL_sA, aL_sM]; try dsimp only
                  refine ⟨fun h67 => ?_, fun h67 => ?_⟩
                  · have c67 : ¬ ((¬ ((aL σ 72) (((gI σ 69) - 2)).toNatClampNeg) = 0 ∨ ¬ ((aL σ 72) ((((gI σ 69) - 2) + 1)).toNatClampNeg) = 0)) := fun q => (han).mpr q h67
                    refine hB _ _ _ _ _ (fun m68 hm68 => ?_)
                    dsimp only [ugo, uwp, ust, uct, rfd, BjudgeExp, BjudgeExp_403, Nat.beq, lv_args, rlk, rs1, rs2, rdl, rky, rcd, rno, rsw, Value.category, List.filter, List.take, List.drop, List.reverse, List.reverseAux, List.cons_append, List.nil_append, Option.toList, Int.toNat, Int.reduceToNat, if_pos, if_neg, reduceIte, ↓reduceIte, Nat.reduceAdd, Nat.reduceEqDiff, Nat.reduceBEq, beq_self_eq_true, Bool.not_true, Bool.not_false, Bool.and_true, Bool.and_false, Bool.true_and, Bool.false_and, gI_sI, gI_sL, gI_sA, gI_sM, gL_sI, gL_sL, gL_sA, gL_sM, aI_sI, aI_sL, aI_sA, aI_sM, aL_sI, aL_sL, aL_sA, aL_sM]; try dsimp only
                    exact hW _ 404 [(0, .ref 1000), (1, .int c), (2, .int ((aI σ 22) (c).toNatClampNeg)), (4, .int 1), (5, .int 1), (6, .int su), (7, .int bo), (8, .int an)] _ _ _ (by simp [rdl, rky, Value.category]) (t404 _ (0 : Int64) (fun q => by have a1 := (ho7 (by omega)).1.2.2.1 q.1; have b1 := (ho7 (by omega)).2.2.2.1 q.2; have a2 := ((ho7 (by omega)).1.2.2.2.2 q.1).2 (by omega); have b2 := ((ho7 (by omega)).2.2.2.2.2 q.2).2 (by omega); unfold cvT; rw [if_neg (by omega), if_pos (by omega), or_v a2 b2, ← a1, ← b1, if_neg (by assumption)]))
                  · have c67 : (¬ ((aL σ 72) (((gI σ 69) - 2)).toNatClampNeg) = 0 ∨ ¬ ((aL σ 72) ((((gI σ 69) - 2) + 1)).toNatClampNeg) = 0) := (han).mp h67
                    refine hB _ _ _ _ _ (fun m69 hm69 => ?_)
                    dsimp only [ugo, uwp, ust, uct, rfd, BjudgeExp, BjudgeExp_399, Nat.beq, lv_args, rlk, rs1, rs2, rdl, rky, rcd, rno, rsw, Value.category, List.filter, List.take, List.drop, List.reverse, List.reverseAux, List.cons_append, List.nil_append, Option.toList, Int.toNat, Int.reduceToNat, if_pos, if_neg, reduceIte, ↓reduceIte, Nat.reduceAdd, Nat.reduceEqDiff, Nat.reduceBEq, beq_self_eq_true, Bool.not_true, Bool.not_false, Bool.and_true, Bool.and_false, Bool.true_and, Bool.false_and, gI_sI, gI_sL, gI_sA, gI_sM, gL_sI, gL_sL, gL_sA, gL_sM, aI_sI, aI_sL, aI_sA, aI_sM, aL_sI, aL_sL, aL_sA, aL_sM]; try dsimp only
                    exact hW _ 404 [(0, .ref 1000), (1, .int c), (2, .int ((aI σ 22) (c).toNatClampNeg)), (4, .int 1), (5, .int 1), (6, .int su), (7, .int bo), (8, .int an)] _ _ _ (by simp [rdl, rky, Value.category]) (t404 _ (1 : Int64) (fun q => by have a1 := (ho7 (by omega)).1.2.2.1 q.1; have b1 := (ho7 (by omega)).2.2.2.1 q.2; have a2 := ((ho7 (by omega)).1.2.2.2.2 q.1).2 (by omega); have b2 := ((ho7 (by omega)).2.2.2.2.2 q.2).2 (by omega); unfold cvT; rw [if_neg (by omega), if_pos (by omega), or_v a2 b2, ← a1, ← b1, if_pos (by assumption)]))
                · have c65 : (opkZ x) = 9 := (cI hcc.1 (rfl : (9 : Int32).toInt = 9)).1.mp h65
                  refine hB _ _ _ _ _ (fun m70 hm70 => ?_)
                  dsimp only [ugo, uwp, ust, uct, rfd, BjudgeExp, BjudgeExp_386, Nat.beq, lv_args, rlk, rs1, rs2, rdl, rky, rcd, rno, rsw, Value.category, List.filter, List.take, List.drop, List.reverse, List.reverseAux, List.cons_append, List.nil_append, Option.toList, Int.toNat, Int.reduceToNat, if_pos, if_neg, reduceIte, ↓reduceIte, Nat.reduceAdd, Nat.reduceEqDiff, Nat.reduceBEq, beq_self_eq_true, Bool.not_true, Bool.not_false, Bool.and_true, Bool.and_false, Bool.true_and, Bool.false_and, gI_sI, gI_sL, gI_sA, gI_sM, gL_sI, gL_sL, gL_sA, gL_sM, aI_sI, aI_sL, aI_sA, aI_sM, aL_sI, aL_sL, aL_sA, aL_sM]; try dsimp only
                  refine ⟨fun h71 => ?_, fun h71 => ?_⟩
                  · have c71 : ¬ ((¬ ((aL σ 72) (((gI σ 69) - 2)).toNatClampNeg) = 0 ∧ ¬ ((aL σ 72) ((((gI σ 69) - 2) + 1)).toNatClampNeg) = 0)) := fun q => (hbo).mpr q h71
                    refine hB _ _ _ _ _ (fun m72 hm72 => ?_)
                    dsimp only [ugo, uwp, ust, uct, rfd, BjudgeExp, BjudgeExp_403, Nat.beq, lv_args, rlk, rs1, rs2, rdl, rky, rcd, rno, rsw, Value.category, List.filter, List.take, List.drop, List.reverse, List.reverseAux, List.cons_append, List.nil_append, Option.toList, Int.toNat, Int.reduceToNat, if_pos, if_neg, reduceIte, ↓reduceIte, Nat.reduceAdd, Nat.reduceEqDiff, Nat.reduceBEq, beq_self_eq_true, Bool.not_true, Bool.not_false, Bool.and_true, Bool.and_false, Bool.true_and, Bool.false_and, gI_sI, gI_sL, gI_sA, gI_sM, gL_sI, gL_sL, gL_sA, gL_sM, aI_sI, aI_sL, aI_sA, aI_sM, aL_sI, aL_sL, aL_sA, aL_sM]; try dsimp only
                    exact hW _ 404 [(0, .ref 1000), (1, .int c), (2, .int ((aI σ 22) (c).toNatClampNeg)), (4, .int 1), (5, .int 1), (6, .int su), (7, .int bo), (8, .int an)] _ _ _ (by simp [rdl, rky, Value.category]) (t404 _ (0 : Int64) (fun q => by have a1 := (ho7 (by omega)).1.2.2.1 q.1; have b1 := (ho7 (by omega)).2.2.2.1 q.2; have a2 := ((ho7 (by omega)).1.2.2.2.2 q.1).2 (by omega); have b2 := ((ho7 (by omega)).2.2.2.2.2 q.2).2 (by omega); unfold cvT; rw [if_pos (by omega), an_v a2 b2, ← a1, ← b1, if_neg (by assumption)]))
                  · have c71 : (¬ ((aL σ 72) (((gI σ 69) - 2)).toNatClampNeg) = 0 ∧ ¬ ((aL σ 72) ((((gI σ 69) - 2) + 1)).toNatClampNeg) = 0) := (hbo).mp h71
                    refine hB _ _ _ _ _ (fun m73 hm73 => ?_)
                    dsimp only [ugo, uwp, ust, uct, rfd, BjudgeExp, BjudgeExp_391, Nat.beq, lv_args, rlk, rs1, rs2, rdl, rky, rcd, rno, rsw, Value.category, List.filter, List.take, List.drop, List.reverse, List.reverseAux, List.cons_append, List.nil_append, Option.toList, Int.toNat, Int.reduceToNat, if_pos, if_neg, reduceIte, ↓reduceIte, Nat.reduceAdd, Nat.reduceEqDiff, Nat.reduceBEq, beq_self_eq_true, Bool.not_true, Bool.not_false, Bool.and_true, Bool.and_false, Bool.true_and, Bool.false_and, gI_sI, gI_sL, gI_sA, gI_sM, gL_sI, gL_sL, gL_sA, gL_sM, aI_sI, aI_sL, aI_sA, aI_sM, aL_sI, aL_sL, aL_sA, aL_sM]; try dsimp only
                    refine hB _ _ _ _ _ (fun m74 hm74 => ?_)
                    dsimp only [ugo, uwp, ust, uct, rfd, BjudgeExp, BjudgeExp_399, Nat.beq, lv_args, rlk, rs1, rs2, rdl, rky, rcd, rno, rsw, Value.category, List.filter, List.take, List.drop, List.reverse, List.reverseAux, List.cons_append, List.nil_append, Option.toList, Int.toNat, Int.reduceToNat, if_pos, if_neg, reduceIte, ↓reduceIte, Nat.reduceAdd, Nat.reduceEqDiff, Nat.reduceBEq, beq_self_eq_true, Bool.not_true, Bool.not_false, Bool.and_true, Bool.and_false, Bool.true_and, Bool.false_and, gI_sI, gI_sL, gI_sA, gI_sM, gL_sI, gL_sL, gL_sA, gL_sM, aI_sI, aI_sL, aI_sA, aI_sM, aL_sI, aL_sL, aL_sA, aL_sM]; try dsimp only
                    exact hW _ 404 [(0, .ref 1000), (1, .int c), (2, .int ((aI σ 22) (c).toNatClampNeg)), (4, .int 1), (5, .int 1), (6, .int su), (7, .int bo), (8, .int an)] _ _ _ (by simp [rdl, rky, Value.category]) (t404 _ (1 : Int64) (fun q => by have a1 := (ho7 (by omega)).1.2.2.1 q.1; have b1 := (ho7 (by omega)).2.2.2.1 q.2; have a2 := ((ho7 (by omega)).1.2.2.2.2 q.1).2 (by omega); have b2 := ((ho7 (by omega)).2.2.2.2.2 q.2).2 (by omega); unfold cvT; rw [if_pos (by omega), an_v a2 b2, ← a1, ← b1, if_pos (by assumption)]))
              refine ⟨fun h75 => ?_, fun h75 => ?_⟩
              · have c75 : ¬ ((aL σ 72) (((gI σ 69) - 2)).toNatClampNeg) = (0 : Int64) := fun q => h75 ((cL (a := (0 : Int64)) (b := ((aL σ 72) (((gI σ 69) - 2)).toNatClampNeg))).1.mpr q)
                refine hB _ _ _ _ _ (fun m76 hm76 => ?_)
                dsimp only [ugo, uwp, ust, uct, rfd, BjudgeExp, BjudgeExp_363, Nat.beq, lv_args, rlk, rs1, rs2, rdl, rky, rcd, rno, rsw, Value.category, List.filter, List.take, List.drop, List.reverse, List.reverseAux, List.cons_append, List.nil_append, Option.toList, Int.toNat, Int.reduceToNat, if_pos, if_neg, reduceIte, ↓reduceIte, Nat.reduceAdd, Nat.reduceEqDiff, Nat.reduceBEq, beq_self_eq_true, Bool.not_true, Bool.not_false, Bool.and_true, Bool.and_false, Bool.true_and, Bool.false_and, gI_sI, gI_sL, gI_sA, gI_sM, gL_sI, gL_sL, gL_sA, gL_sM, aI_sI, aI_sL, aI_sA, aI_sM, aL_sI, aL_sL, aL_sA, aL_sM, oi_1]; try dsimp only
                exact hW _ 368 [(0, .ref 1000), (1, .int c), (2, .int ((aI σ 22) (c).toNatClampNeg)), (4, .int 1), (5, .int 1), (6, .int su), (7, .int bo)] _ _ _ (by simp [rdl, rky, Value.category]) (t368 _ 1 (b01 (by first | exact ⟨by assumption, by assumption⟩ | exact Or.inl (by assumption) | exact Or.inr (by assumption))))
              · have c75 : ((aL σ 72) (((gI σ 69) - 2)).toNatClampNeg) = (0 : Int64) := (cL (a := (0 : Int64)) (b := ((aL σ 72) (((gI σ 69) - 2)).toNatClampNeg))).1.mp h75
                refine hB _ _ _ _ _ (fun m77 hm77 => ?_)
                dsimp only [ugo, uwp, ust, uct, rfd, BjudgeExp, BjudgeExp_347, Nat.beq, lv_args, rlk, rs1, rs2, rdl, rky, rcd, rno, rsw, Value.category, List.filter, List.take, List.drop, List.reverse, List.reverseAux, List.cons_append, List.nil_append, Option.toList, Int.toNat, Int.reduceToNat, if_pos, if_neg, reduceIte, ↓reduceIte, Nat.reduceAdd, Nat.reduceEqDiff, Nat.reduceBEq, beq_self_eq_true, Bool.not_true, Bool.not_false, Bool.and_true, Bool.and_false, Bool.true_and, Bool.false_and, gI_sI, gI_sL, gI_sA, gI_sM, gL_sI, gL_sL, gL_sA, gL_sM, aI_sI, aI_sL, aI_sA, aI_sM, aL_sI, aL_sL, aL_sA, aL_sM, oi_1]; try dsimp only
                intro p78
                refine ⟨fun h79 => ?_, fun h79 => ?_⟩
                · have c79 : ((aL σ 72) ((((gI σ 69) - 2) + 1)).toNatClampNeg) = (0 : Int64) := (cL (a := (0 : Int64)) (b := ((aL σ 72) ((((gI σ 69) - 2) + 1)).toNatClampNeg))).1.mp h79
                  refine hB _ _ _ _ _ (fun m80 hm80 => ?_)
                  dsimp only [ugo, uwp, ust, uct, rfd, BjudgeExp, BjudgeExp_367, Nat.beq, lv_args, rlk, rs1, rs2, rdl, rky, rcd, rno, rsw, Value.category, List.filter, List.take, List.drop, List.reverse, List.reverseAux, List.cons_append, List.nil_append, Option.toList, Int.toNat, Int.reduceToNat, if_pos, if_neg, reduceIte, ↓reduceIte, Nat.reduceAdd, Nat.reduceEqDiff, Nat.reduceBEq, beq_self_eq_true, Bool.not_true, Bool.not_false, Bool.and_true, Bool.and_false, Bool.true_and, Bool.false_and, gI_sI, gI_sL, gI_sA, gI_sM, gL_sI, gL_sL, gL_sA, gL_sM, aI_sI, aI_sL, aI_sA, aI_sM, aL_sI, aL_sL, aL_sA, aL_sM, oi_0]; try dsimp only
                  exact hW _ 368 [(0, .ref 1000), (1, .int c), (2, .int ((aI σ 22) (c).toNatClampNeg)), (4, .int 1), (5, .int 1), (6, .int su), (7, .int bo)] _ _ _ (by simp [rdl, rky, Value.category]) (t368 _ 0 (b00 (fun q => by first | (obtain ⟨q1, q2⟩ := q; contradiction) | (rcases q with q | q <;> contradiction))))
                · have c79 : ¬ ((aL σ 72) ((((gI σ 69) - 2) + 1)).toNatClampNeg) = (0 : Int64) := fun q => h79 ((cL (a := (0 : Int64)) (b := ((aL σ 72) ((((gI σ 69) - 2) + 1)).toNatClampNeg))).1.mpr q)
                  refine hB _ _ _ _ _ (fun m81 hm81 => ?_)
                  dsimp only [ugo, uwp, ust, uct, rfd, BjudgeExp, BjudgeExp_363, Nat.beq, lv_args, rlk, rs1, rs2, rdl, rky, rcd, rno, rsw, Value.category, List.filter, List.take, List.drop, List.reverse, List.reverseAux, List.cons_append, List.nil_append, Option.toList, Int.toNat, Int.reduceToNat, if_pos, if_neg, reduceIte, ↓reduceIte, Nat.reduceAdd, Nat.reduceEqDiff, Nat.reduceBEq, beq_self_eq_true, Bool.not_true, Bool.not_false, Bool.and_true, Bool.and_false, Bool.true_and, Bool.false_and, gI_sI, gI_sL, gI_sA, gI_sM, gL_sI, gL_sL, gL_sA, gL_sM, aI_sI, aI_sL, aI_sA, aI_sM, aL_sI, aL_sL, aL_sA, aL_sM, oi_1]; try dsimp only
                  exact hW _ 368 [(0, .ref 1000), (1, .int c), (2, .int ((aI σ 22) (c).toNatClampNeg)), (4, .int 1), (5, .int 1), (6, .int su), (7, .int bo)] _ _ _ (by simp [rdl, rky, Value.category]) (t368 _ 1 (b01 (by first | exact ⟨by assumption, by assumption⟩ | exact Or.inl (by assumption) | exact Or.inr (by assumption))))
            refine ⟨fun h82 => ?_, fun h82 => ?_⟩
            · have c82 : ((aL σ 72) (((gI σ 69) - 2)).toNatClampNeg) = (0 : Int64) := (cL (a := (0 : Int64)) (b := ((aL σ 72) (((gI σ 69) - 2)).toNatClampNeg))).1.mp h82
              refine hB _ _ _ _ _ (fun m83 hm83 => ?_)
              dsimp only [ugo, uwp, ust, uct, rfd, BjudgeExp, BjudgeExp_330, Nat.beq, lv_args, rlk, rs1, rs2, rdl, rky, rcd, rno, rsw, Value.category, List.filter, List.take, List.drop, List.reverse, List.reverseAux, List.cons_append, List.nil_append, Option.toList, Int.toNat, Int.reduceToNat, if_pos, if_neg, reduceIte, ↓reduceIte, Nat.reduceAdd, Nat.reduceEqDiff, Nat.reduceBEq, beq_self_eq_true, Bool.not_true, Bool.not_false, Bool.and_true, Bool.and_false, Bool.true_and, Bool.false_and, gI_sI, gI_sL, gI_sA, gI_sM, gL_sI, gL_sL, gL_sA, gL_sM, aI_sI, aI_sL, aI_sA, aI_sM, aL_sI, aL_sL, aL_sA, aL_sM, oi_0]; try dsimp only
              exact hW _ 331 [(0, .ref 1000), (1, .int c), (2, .int ((aI σ 22) (c).toNatClampNeg)), (4, .int 1), (5, .int 1), (6, .int su)] _ _ _ (by simp [rdl, rky, Value.category]) (t331 _ 0 (b00 (fun q => by first | (obtain ⟨q1, q2⟩ := q; contradiction) | (rcases q with q | q <;> contradiction))))
            · have c82 : ¬ ((aL σ 72) (((gI σ 69) - 2)).toNatClampNeg) = (0 : Int64) := fun q => h82 ((cL (a := (0 : Int64)) (b := ((aL σ 72) (((gI σ 69) - 2)).toNatClampNeg))).1.mpr q)
              refine hB _ _ _ _ _ (fun m84 hm84 => ?_)
              dsimp only [ugo, uwp, ust, uct, rfd, BjudgeExp, BjudgeExp_310, Nat.beq, lv_args, rlk, rs1, rs2, rdl, rky, rcd, rno, rsw, Value.category, List.filter, List.take, List.drop, List.reverse, List.reverseAux, List.cons_append, List.nil_append, Option.toList, Int.toNat, Int.reduceToNat, if_pos, if_neg, reduceIte, ↓reduceIte, Nat.reduceAdd, Nat.reduceEqDiff, Nat.reduceBEq, beq_self_eq_true, Bool.not_true, Bool.not_false, Bool.and_true, Bool.and_false, Bool.true_and, Bool.false_and, gI_sI, gI_sL, gI_sA, gI_sM, gL_sI, gL_sL, gL_sA, gL_sM, aI_sI, aI_sL, aI_sA, aI_sM, aL_sI, aL_sL, aL_sA, aL_sM, oi_1]; try dsimp only
              intro p85
              refine ⟨fun h86 => ?_, fun h86 => ?_⟩
              · have c86 : ((aL σ 72) ((((gI σ 69) - 2) + 1)).toNatClampNeg) = (0 : Int64) := (cL (a := (0 : Int64)) (b := ((aL σ 72) ((((gI σ 69) - 2) + 1)).toNatClampNeg))).1.mp h86
                refine hB _ _ _ _ _ (fun m87 hm87 => ?_)
                dsimp only [ugo, uwp, ust, uct, rfd, BjudgeExp, BjudgeExp_330, Nat.beq, lv_args, rlk, rs1, rs2, rdl, rky, rcd, rno, rsw, Value.category, List.filter, List.take, List.drop, List.reverse, List.reverseAux, List.cons_append, List.nil_append, Option.toList, Int.toNat, Int.reduceToNat, if_pos, if_neg, reduceIte, ↓reduceIte, Nat.reduceAdd, Nat.reduceEqDiff, Nat.reduceBEq, beq_self_eq_true, Bool.not_true, Bool.not_false, Bool.and_true, Bool.and_false, Bool.true_and, Bool.false_and, gI_sI, gI_sL, gI_sA, gI_sM, gL_sI, gL_sL, gL_sA, gL_sM, aI_sI, aI_sL, aI_sA, aI_sM, aL_sI, aL_sL, aL_sA, aL_sM, oi_0]; try dsimp only
                exact hW _ 331 [(0, .ref 1000), (1, .int c), (2, .int ((aI σ 22) (c).toNatClampNeg)), (4, .int 1), (5, .int 1), (6, .int su)] _ _ _ (by simp [rdl, rky, Value.category]) (t331 _ 0 (b00 (fun q => by first | (obtain ⟨q1, q2⟩ := q; contradiction) | (rcases q with q | q <;> contradiction))))
              · have c86 : ¬ ((aL σ 72) ((((gI σ 69) - 2) + 1)).toNatClampNeg) = (0 : Int64) := fun q => h86 ((cL (a := (0 : Int64)) (b := ((aL σ 72) ((((gI σ 69) - 2) + 1)).toNatClampNeg))).1.mpr q)
                refine hB _ _ _ _ _ (fun m88 hm88 => ?_)
                dsimp only [ugo, uwp, ust, uct, rfd, BjudgeExp, BjudgeExp_326, Nat.beq, lv_args, rlk, rs1, rs2, rdl, rky, rcd, rno, rsw, Value.category, List.filter, List.take, List.drop, List.reverse, List.reverseAux, List.cons_append, List.nil_append, Option.toList, Int.toNat, Int.reduceToNat, if_pos, if_neg, reduceIte, ↓reduceIte, Nat.reduceAdd, Nat.reduceEqDiff, Nat.reduceBEq, beq_self_eq_true, Bool.not_true, Bool.not_false, Bool.and_true, Bool.and_false, Bool.true_and, Bool.false_and, gI_sI, gI_sL, gI_sA, gI_sM, gL_sI, gL_sL, gL_sA, gL_sM, aI_sI, aI_sL, aI_sA, aI_sM, aL_sI, aL_sL, aL_sA, aL_sM, oi_1]; try dsimp only
                exact hW _ 331 [(0, .ref 1000), (1, .int c), (2, .int ((aI σ 22) (c).toNatClampNeg)), (4, .int 1), (5, .int 1), (6, .int su)] _ _ _ (by simp [rdl, rky, Value.category]) (t331 _ 1 (b01 (by first | exact ⟨by assumption, by assumption⟩ | exact Or.inl (by assumption) | exact Or.inr (by assumption))))
          refine ⟨fun h89 => ?_, fun h89 => ?_⟩
          · have c89 : ¬ ((¬ (opT T x.2.2.1.2.1).2.1 = 0)) := fun q => ((ho7 (by omega)).1.2.1).mpr q h89
            refine hB _ _ _ _ _ (fun m90 hm90 => ?_)
            dsimp only [ugo, uwp, ust, uct, rfd, BjudgeExp, BjudgeExp_293, Nat.beq, lv_args, rlk, rs1, rs2, rdl, rky, rcd, rno, rsw, Value.category, List.filter, List.take, List.drop, List.reverse, List.reverseAux, List.cons_append, List.nil_append, Option.toList, Int.toNat, Int.reduceToNat, if_pos, if_neg, reduceIte, ↓reduceIte, Nat.reduceAdd, Nat.reduceEqDiff, Nat.reduceBEq, beq_self_eq_true, Bool.not_true, Bool.not_false, Bool.and_true, Bool.and_false, Bool.true_and, Bool.false_and, gI_sI, gI_sL, gI_sA, gI_sM, gL_sI, gL_sL, gL_sA, gL_sM, aI_sI, aI_sL, aI_sA, aI_sM, aL_sI, aL_sL, aL_sA, aL_sM, oi_0]; try dsimp only
            exact hW _ 294 [(0, .ref 1000), (1, .int c), (2, .int ((aI σ 22) (c).toNatClampNeg)), (4, .int 1), (5, .int 1)] _ _ _ (by simp [rdl, rky, Value.category]) (t294 _ 0 (b00 (fun q => by first | (obtain ⟨q1, q2⟩ := q; contradiction) | (rcases q with q | q <;> contradiction))))
          · have c89 : (¬ (opT T x.2.2.1.2.1).2.1 = 0) := ((ho7 (by omega)).1.2.1).mp h89
            refine hB _ _ _ _ _ (fun m91 hm91 => ?_)
            dsimp only [ugo, uwp, ust, uct, rfd, BjudgeExp, BjudgeExp_275, Nat.beq, lv_args, rlk, rs1, rs2, rdl, rky, rcd, rno, rsw, Value.category, List.filter, List.take, List.drop, List.reverse, List.reverseAux, List.cons_append, List.nil_append, Option.toList, Int.toNat, Int.reduceToNat, if_pos, if_neg, reduceIte, ↓reduceIte, Nat.reduceAdd, Nat.reduceEqDiff, Nat.reduceBEq, beq_self_eq_true, Bool.not_true, Bool.not_false, Bool.and_true, Bool.and_false, Bool.true_and, Bool.false_and, gI_sI, gI_sL, gI_sA, gI_sM, gL_sI, gL_sL, gL_sA, gL_sM, aI_sI, aI_sL, aI_sA, aI_sM, aL_sI, aL_sL, aL_sA, aL_sM, oi_1]; try dsimp only
            intro p92
            refine ⟨fun h93 => ?_, fun h93 => ?_⟩
            · have c93 : ¬ ((¬ (opT T x.2.2.1.2.2.1).2.1 = 0)) := fun q => ((ho7 (by omega)).2.2.1).mpr q h93
              refine hB _ _ _ _ _ (fun m94 hm94 => ?_)
              dsimp only [ugo, uwp, ust, uct, rfd, BjudgeExp, BjudgeExp_293, Nat.beq, lv_args, rlk, rs1, rs2, rdl, rky, rcd, rno, rsw, Value.category, List.filter, List.take, List.drop, List.reverse, List.reverseAux, List.cons_append, List.nil_append, Option.toList, Int.toNat, Int.reduceToNat, if_pos, if_neg, reduceIte, ↓reduceIte, Nat.reduceAdd, Nat.reduceEqDiff, Nat.reduceBEq, beq_self_eq_true, Bool.not_true, Bool.not_false, Bool.and_true, Bool.and_false, Bool.true_and, Bool.false_and, gI_sI, gI_sL, gI_sA, gI_sM, gL_sI, gL_sL, gL_sA, gL_sM, aI_sI, aI_sL, aI_sA, aI_sM, aL_sI, aL_sL, aL_sA, aL_sM, oi_0]; try dsimp only
              exact hW _ 294 [(0, .ref 1000), (1, .int c), (2, .int ((aI σ 22) (c).toNatClampNeg)), (4, .int 1), (5, .int 1)] _ _ _ (by simp [rdl, rky, Value.category]) (t294 _ 0 (b00 (fun q => by first | (obtain ⟨q1, q2⟩ := q; contradiction) | (rcases q with q | q <;> contradiction))))
            · have c93 : (¬ (opT T x.2.2.1.2.2.1).2.1 = 0) := ((ho7 (by omega)).2.2.1).mp h93
              refine hB _ _ _ _ _ (fun m95 hm95 => ?_)
              dsimp only [ugo, uwp, ust, uct, rfd, BjudgeExp, BjudgeExp_289, Nat.beq, lv_args, rlk, rs1, rs2, rdl, rky, rcd, rno, rsw, Value.category, List.filter, List.take, List.drop, List.reverse, List.reverseAux, List.cons_append, List.nil_append, Option.toList, Int.toNat, Int.reduceToNat, if_pos, if_neg, reduceIte, ↓reduceIte, Nat.reduceAdd, Nat.reduceEqDiff, Nat.reduceBEq, beq_self_eq_true, Bool.not_true, Bool.not_false, Bool.and_true, Bool.and_false, Bool.true_and, Bool.false_and, gI_sI, gI_sL, gI_sA, gI_sM, gL_sI, gL_sL, gL_sA, gL_sM, aI_sI, aI_sL, aI_sA, aI_sM, aL_sI, aL_sL, aL_sA, aL_sM, oi_1]; try dsimp only
              exact hW _ 294 [(0, .ref 1000), (1, .int c), (2, .int ((aI σ 22) (c).toNatClampNeg)), (4, .int 1), (5, .int 1)] _ _ _ (by simp [rdl, rky, Value.category]) (t294 _ 1 (b01 (by first | exact ⟨by assumption, by assumption⟩ | exact Or.inl (by assumption) | exact Or.inr (by assumption))))
        · dsimp only [Option.toList, List.cons_append, List.nil_append, Nat.beq, gI_sI, gI_sL, gI_sA, gI_sM, gL_sI, gL_sL, gL_sA, gL_sM, aI_sI, aI_sL, aI_sA, aI_sM, aL_sI, aL_sL, aL_sA, aL_sM]
          have hd50 : ¬ ((opT T x.2.2.1.2.2.1).1 = 0) := fun q => hd50 ((nd_t (rfl)).mpr q)
          refine ⟨fun h96 => absurd h96 (by decide), fun h96 => ?_⟩
          clear h96
          exact hW _ 250 [(0, .ref 1000), (1, .int c), (2, .int ((aI σ 22) (c).toNatClampNeg)), (4, .int 1), (5, .int 0)] _ _ _ (by simp [rdl, rky, Value.category]) ((bad (by exact (ex_7 (by omega)).trans (if_neg (by omega))) _).2.2.2.2.2.2.2.2.2.2.2.2.2.2.2.1 c ((aI σ 22) (c).toNatClampNeg) 1 0 _ hz50)
      · dsimp only [Option.toList, List.cons_append, List.nil_append, Nat.beq, gI_sI, gI_sL, gI_sA, gI_sM, gL_sI, gL_sL, gL_sA, gL_sM, aI_sI, aI_sL, aI_sA, aI_sM, aL_sI, aL_sL, aL_sA, aL_sM]
        have hd49 : ¬ ((opT T x.2.2.1.2.1).1 = 0) := fun q => hd49 ((nd_t (rfl)).mpr q)
        refine ⟨trivial, fun w97 τ97 hq97 => ?_⟩
        obtain ⟨hA97, b97, rfl, hb97⟩ := hq97 trivial
        have hz97 := hA97 hz49
        dsimp only [Option.toList, List.cons_append, List.nil_append, Nat.beq, gI_sI, gI_sL, gI_sA, gI_sM, gL_sI, gL_sL, gL_sA, gL_sM, aI_sI, aI_sL, aI_sA, aI_sM, aL_sI, aL_sL, aL_sA, aL_sM]
        refine ⟨fun h98 => ?_, fun h98 => absurd h98 (by decide)⟩
        clear h98
        exact hW _ 255 [(0, .ref 1000), (1, .int c), (2, .int ((aI σ 22) (c).toNatClampNeg)), (4, .int 0), (5, .int b97)] _ _ _ (by simp [rdl, rky, Value.category]) ((bad (by exact (ex_7 (by omega)).trans (if_neg (by omega))) _).2.2.2.2.2.2.2.2.2.2.2.2.2.2.2.2.1 c ((aI σ 22) (c).toNatClampNeg) 0 b97 _ hz97)
    have c47 : ¬ (opkZ x) = 9 := fun q => h47 (hcc.1.trans q)
    refine ⟨fun h99 => ?_, fun h99 => ?_⟩
    · have c99 : (opkZ x) = 10 := hcc.1.symm.trans h99
      refine hB _ _ _ _ _ (fun m100 hm100 => ?_)
      dsimp only [ugo, uwp, ust, uct, rfd, BjudgeExp, BjudgeExp_471, Nat.beq, lv_args, rlk, rs1, rs2, rdl, rky, rcd, rno, rsw, Value.category, List.filter, List.take, List.drop, List.reverse, List.reverseAux, List.cons_append, List.nil_append, Option.toList, Int.toNat, Int.reduceToNat, if_pos, if_neg, reduceIte, ↓reduceIte, Nat.reduceAdd, Nat.reduceEqDiff, Nat.reduceBEq, beq_self_eq_true, Bool.not_true, Bool.not_false, Bool.and_true, Bool.and_false, Bool.true_and, Bool.false_and, gI_sI, gI_sL, gI_sA, gI_sM, gL_sI, gL_sL, gL_sA, gL_sM, aI_sI, aI_sL, aI_sA, aI_sM, aL_sI, aL_sL, aL_sA, aL_sM]; try dsimp only
      have kk : 11 ≤ x.1.1 := by omega
      clear hok
      unfold Qv_judgeExpB
      try dsimp only
      exact ⟨rfl, Or.inr ⟨_, ex_d (by omega), fun _ => rfl, fun q => absurd q (by omega)⟩⟩
    have c99 : ¬ (opkZ x) = 10 := fun q => h99 (hcc.1.trans q)
    refine ⟨fun h101 => ?_, fun h101 => ?_⟩
    · have c101 : (opkZ x) = 11 := hcc.1.symm.trans h101
      refine hB _ _ _ _ _ (fun m102 hm102 => ?_)
      dsimp only [ugo, uwp, ust, uct, rfd, BjudgeExp, BjudgeExp_211, Nat.beq, lv_args, rlk, rs1, rs2, rdl, rky, rcd, rno, rsw, Value.category, List.filter, List.take, List.drop, List.reverse, List.reverseAux, List.cons_append, List.nil_append, Option.toList, Int.toNat, Int.reduceToNat, if_pos, if_neg, reduceIte, ↓reduceIte, Nat.reduceAdd, Nat.reduceEqDiff, Nat.reduceBEq, beq_self_eq_true, Bool.not_true, Bool.not_false, Bool.and_true, Bool.and_false, Bool.true_and, Bool.false_and, gI_sI, gI_sL, gI_sA, gI_sM, gL_sI, gL_sL, gL_sA, gL_sM, aI_sI, aI_sL, aI_sA, aI_sM, aL_sI, aL_sL, aL_sA, aL_sM, oi_0, oi_1, oi_2]; try dsimp only
      have kk : (x.1.1 = 7 ∧ ((opkZ x = 9 ∧ x.1.2.1 = 21) ∨ (opkZ x = 11 ∧ x.1.2.1 = 20))) := by omega
      clear hok
      refine ⟨trivial, fun w103 τ103 hq103 => ?_⟩
      obtain ⟨hA103, b103, rfl, hb103⟩ := hq103 trivial
      rcases hb103 _ (ho7 (by omega)).1 with ⟨rfl, rfl, hd103⟩ | ⟨rfl, hz103, hd103⟩
      · dsimp only [Option.toList, List.cons_append, List.nil_append, Nat.beq, gI_sI, gI_sL, gI_sA, gI_sM, gL_sI, gL_sL, gL_sA, gL_sM, aI_sI, aI_sL, aI_sA, aI_sM, aL_sI, aL_sL, aL_sA, aL_sM]
        have hd103 : (opT T x.2.2.1.2.1).1 = 0 := (nd_t (rfl)).mp hd103
        refine ⟨trivial, fun w104 τ104 hq104 => ?_⟩
        obtain ⟨hA104, b104, rfl, hb104⟩ := hq104 trivial
        rcases hb104 _ (ho7 (by omega)).2 with ⟨rfl, rfl, hd104⟩ | ⟨rfl, hz104, hd104⟩
        · dsimp only [Option.toList, List.cons_append, List.nil_append, Nat.beq, gI_sI, gI_sL, gI_sA, gI_sM, gL_sI, gL_sL, gL_sA, gL_sM, aI_sI, aI_sL, aI_sA, aI_sM, aL_sI, aL_sL, aL_sA, aL_sM]
          have hd104 : (opT T x.2.2.1.2.2.1).1 = 0 := (nd_t (rfl)).mp hd104
          refine ⟨fun h105 => absurd h105 (by decide), fun h105 => ?_⟩
          clear h105
          refine hB _ _ _ _ _ (fun m106 hm106 => ?_)
          dsimp only [ugo, uwp, ust, uct, rfd, BjudgeExp, BjudgeExp_250, Nat.beq, lv_args, rlk, rs1, rs2, rdl, rky, rcd, rno, rsw, Value.category, List.filter, List.take, List.drop, List.reverse, List.reverseAux, List.cons_append, List.nil_append, Option.toList, Int.toNat, Int.reduceToNat, if_pos, if_neg, reduceIte, ↓reduceIte, Nat.reduceAdd, Nat.reduceEqDiff, Nat.reduceBEq, beq_self_eq_true, Bool.not_true, Bool.not_false, Bool.and_true, Bool.and_false, Bool.true_and, Bool.false_and, gI_sI, gI_sL, gI_sA, gI_sM, gL_sI, gL_sL, gL_sA, gL_sM, aI_sI, aI_sL, aI_sA, aI_sM, aL_sI, aL_sL, aL_sA, aL_sM]; try dsimp only
          refine ⟨fun h107 => ?_, fun h107 => absurd h107 (by decide)⟩
          clear h107
          refine hB _ _ _ _ _ (fun m108 hm108 => ?_)
          dsimp only [ugo, uwp, ust, uct, rfd, BjudgeExp, BjudgeExp_263, Nat.beq, lv_args, rlk, rs1, rs2, rdl, rky, rcd, rno, rsw, Value.category, List.filter, List.take, List.drop, List.reverse, List.reverseAux, List.cons_append, List.nil_append, Option.toList, Int.toNat, Int.reduceToNat, if_pos, if_neg, reduceIte, ↓reduceIte, Nat.reduceAdd, Nat.reduceEqDiff, Nat.reduceBEq, beq_self_eq_true, Bool.not_true, Bool.not_false, Bool.and_true, Bool.and_false, Bool.true_and, Bool.false_and, gI_sI, gI_sL, gI_sA, gI_sM, gL_sI, gL_sL, gL_sA, gL_sM, aI_sI, aI_sL, aI_sA, aI_sM, aL_sI, aL_sL, aL_sA, aL_sM]; try dsimp only
          have cs2 : csT x.1.2.1 (opT T x.2.2.1.2.1) (opT T x.2.2.1.2.2.1) = 1 ↔ (¬ (opT T x.2.2.1.2.1).2.1 = 0 ∧ ¬ (opT T x.2.2.1.2.2.1).2.1 = 0) := by
            unfold csT
            constructor
            · intro q
              split at q
              · next z => exact ⟨z.1, z.2.1⟩
              · exact absurd q (by decide)
            · intro q
              rw [if_pos ⟨q.1, q.2, fun z => by omega⟩]
          intro p109
          have t294 : ∀ (M_ : Nat) (su : Int32), (¬ su = 0 ↔ (¬ (opT T x.2.2.1.2.1).2.1 = 0 ∧ ¬ (opT T x.2.2.1.2.2.1).2.1 = 0)) → K M_ 294 [(0, .ref 1000), (1, .int c), (2, .int ((aI σ 22) (c).toNatClampNeg)), (4, .int 1), (5, .int 1)] [.int su] (sI σ 69 ((gI σ 69) - 2)) := by
            intro M_ su hsu
            refine hB _ _ _ _ _ (fun m110 hm110 => ?_)
            dsimp only [ugo, uwp, ust, uct, rfd, BjudgeExp, BjudgeExp_294, Nat.beq, lv_args, rlk, rs1, rs2, rdl, rky, rcd, rno, rsw, Value.category, List.filter, List.take, List.drop, List.reverse, List.reverseAux, List.cons_append, List.nil_append, Option.toList, Int.toNat, Int.reduceToNat, if_pos, if_neg, reduceIte, ↓reduceIte, Nat.reduceAdd, Nat.reduceEqDiff, Nat.reduceBEq, beq_self_eq_true, Bool.not_true, Bool.not_false, Bool.and_true, Bool.and_false, Bool.true_and, Bool.false_and, gI_sI, gI_sL, gI_sA, gI_sM, gL_sI, gL_sL, gL_sA, gL_sM, aI_sI, aI_sL, aI_sA, aI_sM, aL_sI, aL_sL, aL_sA, aL_sM]; try dsimp only
            intro p111
            have t331 : ∀ (M_ : Nat) (bo : Int32), (¬ bo = 0 ↔ (¬ ((aL σ 72) (((gI σ 69) - 2)).toNatClampNeg) = 0 ∧ ¬ ((aL σ 72) ((((gI σ 69) - 2) + 1)).toNatClampNeg) = 0)) → K M_ 331 [(0, .ref 1000), (1, .int c), (2, .int ((aI σ 22) (c).toNatClampNeg)), (4, .int 1), (5, .int 1), (6, .int su)] [.int bo] (sI σ 69 ((gI σ 69) - 2)) := by
              intro M_ bo hbo
              refine hB _ _ _ _ _ (fun m112 hm112 => ?_)
              dsimp only [ugo, uwp, ust, uct, rfd, BjudgeExp, BjudgeExp_331, Nat.beq, lv_args, rlk, rs1, rs2, rdl, rky, rcd, rno, rsw, Value.category, List.filter, List.take, List.drop, List.reverse, List.reverseAux, List.cons_append, List.nil_append, Option.toList, Int.toNat, Int.reduceToNat, if_pos, if_neg, reduceIte, ↓reduceIte, Nat.reduceAdd, Nat.reduceEqDiff, Nat.reduceBEq, beq_self_eq_true, Bool.not_true, Bool.not_false, Bool.and_true, Bool.and_false, Bool.true_and, Bool.false_and, gI_sI, gI_sL, gI_sA, gI_sM, gL_sI, gL_sL, gL_sA, gL_sM, aI_sI, aI_sL, aI_sA, aI_sM, aL_sI, aL_sL, aL_sA, aL_sM]; try dsimp only
              intro p113
              have t368 : ∀ (M_ : Nat) (an : Int32), (¬ an = 0 ↔ (¬ ((aL σ 72) (((gI σ 69) - 2)).toNatClampNeg) = 0 ∨ ¬ ((aL σ 72) ((((gI σ 69) - 2) + 1)).toNatClampNeg) = 0)) → K M_ 368 [(0, .ref 1000), (1, .int c), (2, .int ((aI σ 22) (c).toNatClampNeg)), (4, .int 1), (5, .int 1), (6, .int su), (7, .int bo)] [.int an] (sI σ 69 ((gI σ 69) - 2)) := by
                intro M_ an han
                refine hB _ _ _ _ _ (fun m114 hm114 => ?_)
                dsimp only [ugo, uwp, ust, uct, rfd, BjudgeExp, BjudgeExp_368, Nat.beq, lv_args, rlk, rs1, rs2, rdl, rky, rcd, rno, rsw, Value.category, List.filter, List.take, List.drop, List.reverse, List.reverseAux, List.cons_append, List.nil_append, Option.toList, Int.toNat, Int.reduceToNat, if_pos, if_neg, reduceIte, ↓reduceIte, Nat.reduceAdd, Nat.reduceEqDiff, Nat.reduceBEq, beq_self_eq_true, Bool.not_true, Bool.not_false, Bool.and_true, Bool.and_false, Bool.true_and, Bool.false_and, gI_sI, gI_sL, gI_sA, gI_sM, gL_sI, gL_sL, gL_sA, gL_sM, aI_sI, aI_sL, aI_sA, aI_sM, aL_sI, aL_sL, aL_sA, aL_sM, oi_0, oi_9]; try dsimp only
                intro p115
                have t404 : ∀ (M_ : Nat) (vv : Int64), ((¬ (opT T x.2.2.1.2.1).2.1 = 0 ∧ ¬ (opT T x.2.2.1.2.2.1).2.1 = 0) → vv = cvT x.1.2.1 (wrT x.1.2.1 (opT T x.2.2.1.2.1).1 (opT T x.2.2.1.2.2.1).1) (opT T x.2.2.1.2.1).2.2.1 (opT T x.2.2.1.2.2.1).2.2.1) → K M_ 404 [(0, .ref 1000), (1, .int c), (2, .int ((aI σ 22) (c).toNatClampNeg)), (4, .int 1), (5, .int 1), (6, .int su), (7, .int bo), (8, .int an)] [.long vv, .int su, .int 0, .int c, .ref 1000] (sI σ 69 ((gI σ 69) - 2)) := by
                  intro M_ vv hvv
                  refine hB _ _ _ _ _ (fun m116 hm116 => ?_)
                  dsimp only [ugo, uwp, ust, uct, rfd, BjudgeExp, BjudgeExp_404, Nat.beq, lv_args, rlk, rs1, rs2, rdl, rky, rcd, rno, rsw, Value.category, List.filter, List.take, List.drop, List.reverse, List.reverseAux, List.cons_append, List.nil_append, Option.toList, Int.toNat, Int.reduceToNat, if_pos, if_neg, reduceIte, ↓reduceIte, Nat.reduceAdd, Nat.reduceEqDiff, Nat.reduceBEq, beq_self_eq_true, Bool.not_true, Bool.not_false, Bool.and_true, Bool.and_false, Bool.true_and, Bool.false_and, gI_sI, gI_sL, gI_sA, gI_sM, gL_sI, gL_sL, gL_sA, gL_sM, aI_sI, aI_sL, aI_sA, aI_sM, aL_sI, aL_sL, aL_sA, aL_sM]; try dsimp only
                  refine ⟨trivial, fun w117 τ117 hq117 => ?_⟩
                  obtain ⟨rfl, rfl⟩ := hq117 trivial
                  dsimp only [Option.toList, List.cons_append, List.nil_append, Nat.beq, gI_sI, gI_sL, gI_sA, gI_sM, gL_sI, gL_sL, gL_sA, gL_sM, aI_sI, aI_sL, aI_sA, aI_sM, aL_sI, aL_sL, aL_sA, aL_sM]
                  refine hB _ _ _ _ _ (fun m118 hm118 => ?_)
                  dsimp only [ugo, uwp, ust, uct, rfd, BjudgeExp, BjudgeExp_407, Nat.beq, lv_args, rlk, rs1, rs2, rdl, rky, rcd, rno, rsw, Value.category, List.filter, List.take, List.drop, List.reverse, List.reverseAux, List.cons_append, List.nil_append, Option.toList, Int.toNat, Int.reduceToNat, if_pos, if_neg, reduceIte, ↓reduceIte, Nat.reduceAdd, Nat.reduceEqDiff, Nat.reduceBEq, beq_self_eq_true, Bool.not_true, Bool.not_false, Bool.and_true, Bool.and_false, Bool.true_and, Bool.false_and, gI_sI, gI_sL, gI_sA, gI_sM, gL_sI, gL_sL, gL_sA, gL_sM, aI_sI, aI_sL, aI_sA, aI_sM, aL_sI, aL_sL, aL_sA, aL_sM]; try dsimp only
                  unfold Qv_judgeExpB
                  try dsimp only
                  refine ⟨rfl, Or.inr ⟨_, (ex_7 (by omega)).trans (if_pos ⟨by omega, by omega⟩), fun q => absurd q (by omega), fun _ => ⟨_, 0, su, vv, ⟨?_, cs_01 (hsu.trans cs2.symm), fun q => ?_⟩, rfl, BaR.an (by omega) (by omega)⟩⟩⟩
                  · show (0 : Int) = if _ then 0 else wrT _ _ _
                    rw [if_neg (by omega)]
                    unfold wrT
                    rw [if_pos (by omega)]
                  · have q1 : csT x.1.2.1 (opT T x.2.2.1.2.1) (opT T x.2.2.1.2.2.1) = 1 := cs2.mpr (hsu.mp ((cs_01 (hsu.trans cs2.symm)).mpr q))
                    show vv = if _ then _ else _
                    rw [if_pos q1]
                    exact hvv (cs2.mp q1)
                refine ⟨fun h119 => ?_, fun h119 => ?_⟩
                · have c119 : ¬ (opkZ x) = 9 := fun q => h119 ((cI hcc.1 (rfl : (9 : Int32).toInt = 9)).1.mpr q)
                  refine hB _ _ _ _ _ (fun m120 hm120 => ?_)
                  dsimp only [ugo, uwp, ust, uct, rfd, BjudgeExp, BjudgeExp_394, Nat.beq, lv_args, rlk, rs1, rs2, rdl, rky, rcd, rno, rsw, Value.category, List.filter, List.take, List.drop, List.reverse, List.reverseAux, List.cons_append, List.nil_append, Option.toList, Int.toNat, Int.reduceToNat, if_pos, if_neg, reduceIte, ↓reduceIte, Nat.reduceAdd, Nat.reduceEqDiff, Nat.reduceBEq, beq_self_eq_true, Bool.not_true, Bool.not_false, Bool.and_true, Bool.and_false, Bool.true_and, Bool.false_and, gI_sI, gI_sL, gI_sA, gI_sM, gL_sI, gL_sL, gL_sA, gL_sM, aI_sI, aI_sL, aI_sA, aI_sM, aL_sI, aL_sL, aL_sA, aL_sM]; try dsimp only
                  refine ⟨fun h121 => ?_, fun h121 => ?_⟩
                  · have c121 : ¬ ((¬ ((aL σ 72) (((gI σ 69) - 2)).toNatClampNeg) = 0 ∨ ¬ ((aL σ 72) ((((gI σ 69) - 2) + 1)).toNatClampNeg) = 0)) := fun q => (han).mpr q h121
                    refine hB _ _ _ _ _ (fun m122 hm122 => ?_)
                    dsimp only [ugo, uwp, ust, uct, rfd, BjudgeExp, BjudgeExp_403, Nat.beq, lv_args, rlk, rs1, rs2, rdl, rky, rcd, rno, rsw, Value.category, List.filter, List.take, List.drop, List.reverse, List.reverseAux, List.cons_append, List.nil_append, Option.toList, Int.toNat, Int.reduceToNat, if_pos, if_neg, reduceIte, ↓reduceIte, Nat.reduceAdd, Nat.reduceEqDiff, Nat.reduceBEq, beq_self_eq_true, Bool.not_true, Bool.not_false, Bool.and_true, Bool.and_false, Bool.true_and, Bool.false_and, gI_sI, gI_sL, gI_sA, gI_sM, gL_sI, gL_sL, gL_sA, gL_sM, aI_sI, aI_sL, aI_sA, aI_sM, aL_sI, aL_sL, aL_sA, aL_sM]; try dsimp only
                    exact hW _ 404 [(0, .ref 1000), (1, .int c), (2, .int ((aI σ 22) (c).toNatClampNeg)), (4, .int 1), (5, .int 1), (6, .int su), (7, .int bo), (8, .int an)] _ _ _ (by simp [rdl, rky, Value.category]) (t404 _ (0 : Int64) (fun q => by have a1 := (ho7 (by omega)).1.2.2.1 q.1; have b1 := (ho7 (by omega)).2.2.2.1 q.2; have a2 := ((ho7 (by omega)).1.2.2.2.2 q.1).2 (by omega); have b2 := ((ho7 (by omega)).2.2.2.2.2 q.2).2 (by omega); unfold cvT; rw [if_neg (by omega), if_pos (by omega), or_v a2 b2, ← a1, ← b1, if_neg (by assumption)]))
                  · have c121 : (¬ ((aL σ 72) (((gI σ 69) - 2)).toNatClampNeg) = 0 ∨ ¬ ((aL σ 72) ((((gI σ 69) - 2) + 1)).toNatClampNeg) = 0) := (han).mp h121
                    refine hB _ _ _ _ _ (fun m123 hm123 => ?_)
                    dsimp only [ugo, uwp, ust, uct, rfd, BjudgeExp, BjudgeExp_399, Nat.beq, lv_args, rlk, rs1, rs2, rdl, rky, rcd, rno, rsw, Value.category, List.filter, List.take, List.drop, List.reverse, List.reverseAux, List.cons_append, List.nil_append, Option.toList, Int.toNat, Int.reduceToNat, if_pos, if_neg, reduceIte, ↓reduceIte, Nat.reduceAdd, Nat.reduceEqDiff, Nat.reduceBEq, beq_self_eq_true, Bool.not_true, Bool.not_false, Bool.and_true, Bool.and_false, Bool.true_and, Bool.false_and, gI_sI, gI_sL, gI_sA, gI_sM, gL_sI, gL_sL, gL_sA, gL_sM, aI_sI, aI_sL, aI_sA, aI_sM, aL_sI, aL_sL, aL_sA, aL_sM]; try dsimp only
                    exact hW _ 404 [(0, .ref 1000), (1, .int c), (2, .int ((aI σ 22) (c).toNatClampNeg)), (4, .int 1), (5, .int 1), (6, .int su), (7, .int bo), (8, .int an)] _ _ _ (by simp [rdl, rky, Value.category]) (t404 _ (1 : Int64) (fun q => by have a1 := (ho7 (by omega)).1.2.2.1 q.1; have b1 := (ho7 (by omega)).2.2.2.1 q.2; have a2 := ((ho7 (by omega)).1.2.2.2.2 q.1).2 (by omega); have b2 := ((ho7 (by omega)).2.2.2.2.2 q.2).2 (by omega); unfold cvT; rw [if_neg (by omega), if_pos (by omega), or_v a2 b2, ← a1, ← b1, if_pos (by assumption)]))
                · have c119 : (opkZ x) = 9 := (cI hcc.1 (rfl : (9 : Int32).toInt = 9)).1.mp h119
                  refine hB _ _ _ _ _ (fun m124 hm124 => ?_)
                  dsimp only [ugo, uwp, ust, uct, rfd, BjudgeExp, BjudgeExp_386, Nat.beq, lv_args, rlk, rs1, rs2, rdl, rky, rcd, rno, rsw, Value.category, List.filter, List.take, List.drop, List.reverse, List.reverseAux, List.cons_append, List.nil_append, Option.toList, Int.toNat, Int.reduceToNat, if_pos, if_neg, reduceIte, ↓reduceIte, Nat.reduceAdd, Nat.reduceEqDiff, Nat.reduceBEq, beq_self_eq_true, Bool.not_true, Bool.not_false, Bool.and_true, Bool.and_false, Bool.true_and, Bool.false_and, gI_sI, gI_sL, gI_sA, gI_sM, gL_sI, gL_sL, gL_sA, gL_sM, aI_sI, aI_sL, aI_sA, aI_sM, aL_sI, aL_sL, aL_sA, aL_sM]; try dsimp only
                  refine ⟨fun h125 => ?_, fun h125 => ?_⟩
                  · have c125 : ¬ ((¬ ((aL σ 72) (((gI σ 69) - 2)).toNatClampNeg) = 0 ∧ ¬ ((aL σ 72) ((((gI σ 69) - 2) + 1)).toNatClampNeg) = 0)) := fun q => (hbo).mpr q h125
                    refine hB _ _ _ _ _ (fun m126 hm126 => ?_)
                    dsimp only [ugo, uwp, ust, uct, rfd, BjudgeExp, BjudgeExp_403, Nat.beq, lv_args, rlk, rs1, rs2, rdl, rky, rcd, rno, rsw, Value.category, List.filter, List.take, List.drop, List.reverse, List.reverseAux, List.cons_append, List.nil_append, Option.toList, Int.toNat, Int.reduceToNat, if_pos, if_neg, reduceIte, ↓reduceIte, Nat.reduceAdd, Nat.reduceEqDiff, Nat.reduceBEq, beq_self_eq_true, Bool.not_true, Bool.not_false, Bool.and_true, Bool.and_false, Bool.true_and, Bool.false_and, gI_sI, gI_sL, gI_sA, gI_sM, gL_sI, gL_sL, gL_sA, gL_sM, aI_sI, aI_sL, aI_sA, aI_sM, aL_sI, aL_sL, aL_sA, aL_sM]; try dsimp only
                    exact hW _ 404 [(0, .ref 1000), (1, .int c), (2, .int ((aI σ 22) (c).toNatClampNeg)), (4, .int 1), (5, .int 1), (6, .int su), (7, .int bo), (8, .int an)] _ _ _ (by simp [rdl, rky, Value.category]) (t404 _ (0 : Int64) (fun q => by have a1 := (ho7 (by omega)).1.2.2.1 q.1; have b1 := (ho7 (by omega)).2.2.2.1 q.2; have a2 := ((ho7 (by omega)).1.2.2.2.2 q.1).2 (by omega); have b2 := ((ho7 (by omega)).2.2.2.2.2 q.2).2 (by omega); unfold cvT; rw [if_pos (by omega), an_v a2 b2, ← a1, ← b1, if_neg (by assumption)]))
                  · have c125 : (¬ ((aL σ 72) (((gI σ 69) - 2)).toNatClampNeg) = 0 ∧ ¬ ((aL σ 72) ((((gI σ 69) - 2) + 1)).toNatClampNeg) = 0) := (hbo).mp h125
                    refine hB _ _ _ _ _ (fun m127 hm127 => ?_)
                    dsimp only [ugo, uwp, ust, uct, rfd, BjudgeExp, BjudgeExp_391, Nat.beq, lv_args, rlk, rs1, rs2, rdl, rky, rcd, rno, rsw, Value.category, List.filter, List.take, List.drop, List.reverse, List.reverseAux, List.cons_append, List.nil_append, Option.toList, Int.toNat, Int.reduceToNat, if_pos, if_neg, reduceIte, ↓reduceIte, Nat.reduceAdd, Nat.reduceEqDiff, Nat.reduceBEq, beq_self_eq_true, Bool.not_true, Bool.not_false, Bool.and_true, Bool.and_false, Bool.true_and, Bool.false_and, gI_sI, gI_sL, gI_sA, gI_sM, gL_sI, gL_sL, gL_sA, gL_sM, aI_sI, aI_sL, aI_sA, aI_sM, aL_sI, aL_sL, aL_sA, aL_sM]; try dsimp only
                    refine hB _ _ _ _ _ (fun m128 hm128 => ?_)
                    dsimp only [ugo, uwp, ust, uct, rfd, BjudgeExp, BjudgeExp_399, Nat.beq, lv_args, rlk, rs1, rs2, rdl, rky, rcd, rno, rsw, Value.category, List.filter, List.take, List.drop, List.reverse, List.reverseAux, List.cons_append, List.nil_append, Option.toList, Int.toNat, Int.reduceToNat, if_pos, if_neg, reduceIte, ↓reduceIte, Nat.reduceAdd, Nat.reduceEqDiff, Nat.reduceBEq, beq_self_eq_true, Bool.not_true, Bool.not_false, Bool.and_true, Bool.and_false, Bool.true_and, Bool.false_and, gI_sI, gI_sL, gI_sA, gI_sM, gL_sI, gL_sL, gL_sA, gL_sM, aI_sI, aI_sL, aI_sA, aI_sM, aL_sI, aL_sL, aL_sA, aL_sM]; try dsimp only
                    exact hW _ 404 [(0, .ref 1000), (1, .int c), (2, .int ((aI σ 22) (c).toNatClampNeg)), (4, .int 1), (5, .int 1), (6, .int su), (7, .int bo), (8, .int an)] _ _ _ (by simp [rdl, rky, Value.category]) (t404 _ (1 : Int64) (fun q => by have a1 := (ho7 (by omega)).1.2.2.1 q.1; have b1 := (ho7 (by omega)).2.2.2.1 q.2; have a2 := ((ho7 (by omega)).1.2.2.2.2 q.1).2 (by omega); have b2 := ((ho7 (by omega)).2.2.2.2.2 q.2).2 (by omega); unfold cvT; rw [if_pos (by omega), an_v a2 b2, ← a1, ← b1, if_pos (by assumption)]))
              refine ⟨fun h129 => ?_, fun h129 => ?_⟩
              · have c129 : ¬ ((aL σ 72) (((gI σ 69) - 2)).toNatClampNeg) = (0 : Int64) := fun q => h129 ((cL (a := (0 : Int64)) (b := ((aL σ 72) (((gI σ 69) - 2)).toNatClampNeg))).1.mpr q)
                refine hB _ _ _ _ _ (fun m130 hm130 => ?_)
                dsimp only [ugo, uwp, ust, uct, rfd, BjudgeExp, BjudgeExp_363, Nat.beq, lv_args, rlk, rs1, rs2, rdl, rky, rcd, rno, rsw, Value.category, List.filter, List.take, List.drop, List.reverse, List.reverseAux, List.cons_append, List.nil_append, Option.toList, Int.toNat, Int.reduceToNat, if_pos, if_neg, reduceIte, ↓reduceIte, Nat.reduceAdd, Nat.reduceEqDiff, Nat.reduceBEq, beq_self_eq_true, Bool.not_true, Bool.not_false, Bool.and_true, Bool.and_false, Bool.true_and, Bool.false_and, gI_sI, gI_sL, gI_sA, gI_sM, gL_sI, gL_sL, gL_sA, gL_sM, aI_sI, aI_sL, aI_sA, aI_sM, aL_sI, aL_sL, aL_sA, aL_sM, oi_1]; try dsimp only
                exact hW _ 368 [(0, .ref 1000), (1, .int c), (2, .int ((aI σ 22) (c).toNatClampNeg)), (4, .int 1), (5, .int 1), (6, .int su), (7, .int bo)] _ _ _ (by simp [rdl, rky, Value.category]) (t368 _ 1 (b01 (by first | exact ⟨by assumption, by assumption⟩ | exact Or.inl (by assumption) | exact Or.inr (by assumption))))
              · have c129 : ((aL σ 72) (((gI σ 69) - 2)).toNatClampNeg) = (0 : Int64) := (cL (a := (0 : Int64)) (b := ((aL σ 72) (((gI σ 69) - 2)).toNatClampNeg))).1.mp h129
                refine hB _ _ _ _ _ (fun m131 hm131 => ?_)
                dsimp only [ugo, uwp, ust, uct, rfd, BjudgeExp, BjudgeExp_347, Nat.beq, lv_args, rlk, rs1, rs2, rdl, rky, rcd, rno, rsw, Value.category, List.filter, List.take, List.drop, List.reverse, List.reverseAux, List.cons_append, List.nil_append, Option.toList, Int.toNat, Int.reduceToNat, if_pos, if_neg, reduceIte, ↓reduceIte, Nat.reduceAdd, Nat.reduceEqDiff, Nat.reduceBEq, beq_self_eq_true, Bool.not_true, Bool.not_false, Bool.and_true, Bool.and_false, Bool.true_and, Bool.false_and, gI_sI, gI_sL, gI_sA, gI_sM, gL_sI, gL_sL, gL_sA, gL_sM, aI_sI, aI_sL, aI_sA, aI_sM, aL_sI, aL_sL, aL_sA, aL_sM, oi_1]; try dsimp only
                intro p132
                refine ⟨fun h133 => ?_, fun h133 => ?_⟩
                · have c133 : ((aL σ 72) ((((gI σ 69) - 2) + 1)).toNatClampNeg) = (0 : Int64) := (cL (a := (0 : Int64)) (b := ((aL σ 72) ((((gI σ 69) - 2) + 1)).toNatClampNeg))).1.mp h133
                  refine hB _ _ _ _ _ (fun m134 hm134 => ?_)
                  dsimp only [ugo, uwp, ust, uct, rfd, BjudgeExp, BjudgeExp_367, Nat.beq, lv_args, rlk, rs1, rs2, rdl, rky, rcd, rno, rsw, Value.category, List.filter, List.take, List.drop, List.reverse, List.reverseAux, List.cons_append, List.nil_append, Option.toList, Int.toNat, Int.reduceToNat, if_pos, if_neg, reduceIte, ↓reduceIte, Nat.reduceAdd, Nat.reduceEqDiff, Nat.reduceBEq, beq_self_eq_true, Bool.not_true, Bool.not_false, Bool.and_true, Bool.and_false, Bool.true_and, Bool.false_and, gI_sI, gI_sL, gI_sA, gI_sM, gL_sI, gL_sL, gL_sA, gL_sM, aI_sI, aI_sL, aI_sA, aI_sM, aL_sI, aL_sL, aL_sA, aL_sM, oi_0]; try dsimp only
                  exact hW _ 368 [(0, .ref 1000), (1, .int c), (2, .int ((aI σ 22) (c).toNatClampNeg)), (4, .int 1), (5, .int 1), (6, .int su), (7, .int bo)] _ _ _ (by simp [rdl, rky, Value.category]) (t368 _ 0 (b00 (fun q => by first | (obtain ⟨q1, q2⟩ := q; contradiction) | (rcases q with q | q <;> contradiction))))
                · have c133 : ¬ ((aL σ 72) ((((gI σ 69) - 2) + 1)).toNatClampNeg) = (0 : Int64) := fun q => h133 ((cL (a := (0 : Int64)) (b := ((aL σ 72) ((((gI σ 69) - 2) + 1)).toNatClampNeg))).1.mpr q)
                  refine hB _ _ _ _ _ (fun m135 hm135 => ?_)
                  dsimp only [ugo, uwp, ust, uct, rfd, BjudgeExp, BjudgeExp_363, Nat.beq, lv_args, rlk, rs1, rs2, rdl, rky, rcd, rno, rsw, Value.category, List.filter, List.take, List.drop, List.reverse, List.reverseAux, List.cons_append, List.nil_append, Option.toList, Int.toNat, Int.reduceToNat, if_pos, if_neg, reduceIte, ↓reduceIte, Nat.reduceAdd, Nat.reduceEqDiff, Nat.reduceBEq, beq_self_eq_true, Bool.not_true, Bool.not_false, Bool.and_true, Bool.and_false, Bool.true_and, Bool.false_and, gI_sI, gI_sL, gI_sA, gI_sM, gL_sI, gL_sL, gL_sA, gL_sM, aI_sI, aI_sL, aI_sA, aI_sM, aL_sI, aL_sL, aL_sA, aL_sM, oi_1]; try dsimp only
                  exact hW _ 368 [(0, .ref 1000), (1, .int c), (2, .int ((aI σ 22) (c).toNatClampNeg)), (4, .int 1), (5, .int 1), (6, .int su), (7, .int bo)] _ _ _ (by simp [rdl, rky, Value.category]) (t368 _ 1 (b01 (by first | exact ⟨by assumption, by assumption⟩ | exact Or.inl (by assumption) | exact Or.inr (by assumption))))
            refine ⟨fun h136 => ?_, fun h136 => ?_⟩
            · have c136 : ((aL σ 72) (((gI σ 69) - 2)).toNatClampNeg) = (0 : Int64) := (cL (a := (0 : Int64)) (b := ((aL σ 72) (((gI σ 69) - 2)).toNatClampNeg))).1.mp h136
              refine hB _ _ _ _ _ (fun m137 hm137 => ?_)
              dsimp only [ugo, uwp, ust, uct, rfd, BjudgeExp, BjudgeExp_330, Nat.beq, lv_args, rlk, rs1, rs2, rdl, rky, rcd, rno, rsw, Value.category, List.filter, List.take, List.drop, List.reverse, List.reverseAux, List.cons_append, List.nil_append, Option.toList, Int.toNat, Int.reduceToNat, if_pos, if_neg, reduceIte, ↓reduceIte, Nat.reduceAdd, Nat.reduceEqDiff, Nat.reduceBEq, beq_self_eq_true, Bool.not_true, Bool.not_false, Bool.and_true, Bool.and_false, Bool.true_and, Bool.false_and, gI_sI, gI_sL, gI_sA, gI_sM, gL_sI, gL_sL, gL_sA, gL_sM, aI_sI, aI_sL, aI_sA, aI_sM, aL_sI, aL_sL, aL_sA, aL_sM, oi_0]; try dsimp only
              exact hW _ 331 [(0, .ref 1000), (1, .int c), (2, .int ((aI σ 22) (c).toNatClampNeg)), (4, .int 1), (5, .int 1), (6, .int su)] _ _ _ (by simp [rdl, rky, Value.category]) (t331 _ 0 (b00 (fun q => by first | (obtain ⟨q1, q2⟩ := q; contradiction) | (rcases q with q | q <;> contradiction))))
            · have c136 : ¬ ((aL σ 72) (((gI σ 69) - 2)).toNatClampNeg) = (0 : Int64) := fun q => h136 ((cL (a := (0 : Int64)) (b := ((aL σ 72) (((gI σ 69) - 2)).toNatClampNeg))).1.mpr q)
              refine hB _ _ _ _ _ (fun m138 hm138 => ?_)
              dsimp only [ugo, uwp, ust, uct, rfd, BjudgeExp, BjudgeExp_310, Nat.beq, lv_args, rlk, rs1, rs2, rdl, rky, rcd, rno, rsw, Value.category, List.filter, List.take, List.drop, List.reverse, List.reverseAux, List.cons_append, List.nil_append, Option.toList, Int.toNat, Int.reduceToNat, if_pos, if_neg, reduceIte, ↓reduceIte, Nat.reduceAdd, Nat.reduceEqDiff, Nat.reduceBEq, beq_self_eq_true, Bool.not_true, Bool.not_false, Bool.and_true, Bool.and_false, Bool.true_and, Bool.false_and, gI_sI, gI_sL, gI_sA, gI_sM, gL_sI, gL_sL, gL_sA, gL_sM, aI_sI, aI_sL, aI_sA, aI_sM, aL_sI, aL_sL, aL_sA, aL_sM, oi_1]; try dsimp only
              intro p139
              refine ⟨fun h140 => ?_, fun h140 => ?_⟩
              · have c140 : ((aL σ 72) ((((gI σ 69) - 2) + 1)).toNatClampNeg) = (0 : Int64) := (cL (a := (0 : Int64)) (b := ((aL σ 72) ((((gI σ 69) - 2) + 1)).toNatClampNeg))).1.mp h140
                refine hB _ _ _ _ _ (fun m141 hm141 => ?_)
                dsimp only [ugo, uwp, ust, uct, rfd, BjudgeExp, BjudgeExp_330, Nat.beq, lv_args, rlk, rs1, rs2, rdl, rky, rcd, rno, rsw, Value.category, List.filter, List.take, List.drop, List.reverse, List.reverseAux, List.cons_append, List.nil_append, Option.toList, Int.toNat, Int.reduceToNat, if_pos, if_neg, reduceIte, ↓reduceIte, Nat.reduceAdd, Nat.reduceEqDiff, Nat.reduceBEq, beq_self_eq_true, Bool.not_true, Bool.not_false, Bool.and_true, Bool.and_false, Bool.true_and, Bool.false_and, gI_sI, gI_sL, gI_sA, gI_sM, gL_sI, gL_sL, gL_sA, gL_sM, aI_sI, aI_sL, aI_sA, aI_sM, aL_sI, aL_sL, aL_sA, aL_sM, oi_0]; try dsimp only
                exact hW _ 331 [(0, .ref 1000), (1, .int c), (2, .int ((aI σ 22) (c).toNatClampNeg)), (4, .int 1), (5, .int 1), (6, .int su)] _ _ _ (by simp [rdl, rky, Value.category]) (t331 _ 0 (b00 (fun q => by first | (obtain ⟨q1, q2⟩ := q; contradiction) | (rcases q with q | q <;> contradiction))))
              · have c140 : ¬ ((aL σ 72) ((((gI σ 69) - 2) + 1)).toNatClampNeg) = (0 : Int64) := fun q => h140 ((cL (a := (0 : Int64)) (b := ((aL σ 72) ((((gI σ 69) - 2) + 1)).toNatClampNeg))).1.mpr q)
                refine hB _ _ _ _ _ (fun m142 hm142 => ?_)
                dsimp only [ugo, uwp, ust, uct, rfd, BjudgeExp, BjudgeExp_326, Nat.beq, lv_args, rlk, rs1, rs2, rdl, rky, rcd, rno, rsw, Value.category, List.filter, List.take, List.drop, List.reverse, List.reverseAux, List.cons_append, List.nil_append, Option.toList, Int.toNat, Int.reduceToNat, if_pos, if_neg, reduceIte, ↓reduceIte, Nat.reduceAdd, Nat.reduceEqDiff, Nat.reduceBEq, beq_self_eq_true, Bool.not_true, Bool.not_false, Bool.and_true, Bool.and_false, Bool.true_and, Bool.false_and, gI_sI, gI_sL, gI_sA, gI_sM, gL_sI, gL_sL, gL_sA, gL_sM, aI_sI, aI_sL, aI_sA, aI_sM, aL_sI, aL_sL, aL_sA, aL_sM, oi_1]; try dsimp only
                exact hW _ 331 [(0, .ref 1000), (1, .int c), (2, .int ((aI σ 22) (c).toNatClampNeg)), (4, .int 1), (5, .int 1), (6, .int su)] _ _ _ (by simp [rdl, rky, Value.category]) (t331 _ 1 (b01 (by first | exact ⟨by assumption, by assumption⟩ | exact Or.inl (by assumption) | exact Or.inr (by assumption))))
          refine ⟨fun h143 => ?_, fun h143 => ?_⟩
          · have c143 : ¬ ((¬ (opT T x.2.2.1.2.1).2.1 = 0)) := fun q => ((ho7 (by omega)).1.2.1).mpr q h143
            refine hB _ _ _ _ _ (fun m144 hm144 => ?_)
            dsimp only [ugo, uwp, ust, uct, rfd, BjudgeExp, BjudgeExp_293, Nat.beq, lv_args, rlk, rs1, rs2, rdl, rky, rcd, rno, rsw, Value.category, List.filter, List.take, List.drop, List.reverse, List.reverseAux, List.cons_append, List.nil_append, Option.toList, Int.toNat, Int.reduceToNat, if_pos, if_neg, reduceIte, ↓reduceIte, Nat.reduceAdd, Nat.reduceEqDiff, Nat.reduceBEq, beq_self_eq_true, Bool.not_true, Bool.not_false, Bool.and_true, Bool.and_false, Bool.true_and, Bool.false_and, gI_sI, gI_sL, gI_sA, gI_sM, gL_sI, gL_sL, gL_sA, gL_sM, aI_sI, aI_sL, aI_sA, aI_sM, aL_sI, aL_sL, aL_sA, aL_sM, oi_0]; try dsimp only
            exact hW _ 294 [(0, .ref 1000), (1, .int c), (2, .int ((aI σ 22) (c).toNatClampNeg)), (4, .int 1), (5, .int 1)] _ _ _ (by simp [rdl, rky, Value.category]) (t294 _ 0 (b00 (fun q => by first | (obtain ⟨q1, q2⟩ := q; contradiction) | (rcases q with q | q <;> contradiction))))
          · have c143 : (¬ (opT T x.2.2.1.2.1).2.1 = 0) := ((ho7 (by omega)).1.2.1).mp h143
            refine hB _ _ _ _ _ (fun m145 hm145 => ?_)
            dsimp only [ugo, uwp, ust, uct, rfd, BjudgeExp, BjudgeExp_275, Nat.beq, lv_args, rlk, rs1, rs2, rdl, rky, rcd, rno, rsw, Value.category, List.filter, List.take, List.drop, List.reverse, List.reverseAux, List.cons_append, List.nil_append, Option.toList, Int.toNat, Int.reduceToNat, if_pos, if_neg, reduceIte, ↓reduceIte, Nat.reduceAdd, Nat.reduceEqDiff, Nat.reduceBEq, beq_self_eq_true, Bool.not_true, Bool.not_false, Bool.and_true, Bool.and_false, Bool.true_and, Bool.false_and, gI_sI, gI_sL, gI_sA, gI_sM, gL_sI, gL_sL, gL_sA, gL_sM, aI_sI, aI_sL, aI_sA, aI_sM, aL_sI, aL_sL, aL_sA, aL_sM, oi_1]; try dsimp only
            intro p146
            refine ⟨fun h147 => ?_, fun h147 => ?_⟩
            · have c147 : ¬ ((¬ (opT T x.2.2.1.2.2.1).2.1 = 0)) := fun q => ((ho7 (by omega)).2.2.1).mpr q h147
              refine hB _ _ _ _ _ (fun m148 hm148 => ?_)
              dsimp only [ugo, uwp, ust, uct, rfd, BjudgeExp, BjudgeExp_293, Nat.beq, lv_args, rlk, rs1, rs2, rdl, rky, rcd, rno, rsw, Value.category, List.filter, List.take, List.drop, List.reverse, List.reverseAux, List.cons_append, List.nil_append, Option.toList, Int.toNat, Int.reduceToNat, if_pos, if_neg, reduceIte, ↓reduceIte, Nat.reduceAdd, Nat.reduceEqDiff, Nat.reduceBEq, beq_self_eq_true, Bool.not_true, Bool.not_false, Bool.and_true, Bool.and_false, Bool.true_and, Bool.false_and, gI_sI, gI_sL, gI_sA, gI_sM, gL_sI, gL_sL, gL_sA, gL_sM, aI_sI, aI_sL, aI_sA, aI_sM, aL_sI, aL_sL, aL_sA, aL_sM, oi_0]; try dsimp only
              exact hW _ 294 [(0, .ref 1000), (1, .int c), (2, .int ((aI σ 22) (c).toNatClampNeg)), (4, .int 1), (5, .int 1)] _ _ _ (by simp [rdl, rky, Value.category]) (t294 _ 0 (b00 (fun q => by first | (obtain ⟨q1, q2⟩ := q; contradiction) | (rcases q with q | q <;> contradiction))))
            · have c147 : (¬ (opT T x.2.2.1.2.2.1).2.1 = 0) := ((ho7 (by omega)).2.2.1).mp h147
              refine hB _ _ _ _ _ (fun m149 hm149 => ?_)
              dsimp only [ugo, uwp, ust, uct, rfd, BjudgeExp, BjudgeExp_289, Nat.beq, lv_args, rlk, rs1, rs2, rdl, rky, rcd, rno, rsw, Value.category, List.filter, List.take, List.drop, List.reverse, List.reverseAux, List.cons_append, List.nil_append, Option.toList, Int.toNat, Int.reduceToNat, if_pos, if_neg, reduceIte, ↓reduceIte, Nat.reduceAdd, Nat.reduceEqDiff, Nat.reduceBEq, beq_self_eq_true, Bool.not_true, Bool.not_false, Bool.and_true, Bool.and_false, Bool.true_and, Bool.false_and, gI_sI, gI_sL, gI_sA, gI_sM, gL_sI, gL_sL, gL_sA, gL_sM, aI_sI, aI_sL, aI_sA, aI_sM, aL_sI, aL_sL, aL_sA, aL_sM, oi_1]; try dsimp only
              exact hW _ 294 [(0, .ref 1000), (1, .int c), (2, .int ((aI σ 22) (c).toNatClampNeg)), (4, .int 1), (5, .int 1)] _ _ _ (by simp [rdl, rky, Value.category]) (t294 _ 1 (b01 (by first | exact ⟨by assumption, by assumption⟩ | exact Or.inl (by assumption) | exact Or.inr (by assumption))))
        · dsimp only [Option.toList, List.cons_append, List.nil_append, Nat.beq, gI_sI, gI_sL, gI_sA, gI_sM, gL_sI, gL_sL, gL_sA, gL_sM, aI_sI, aI_sL, aI_sA, aI_sM, aL_sI, aL_sL, aL_sA, aL_sM]
          have hd104 : ¬ ((opT T x.2.2.1.2.2.1).1 = 0) := fun q => hd104 ((nd_t (rfl)).mpr q)
          refine ⟨fun h150 => absurd h150 (by decide), fun h150 => ?_⟩
          clear h150
          exact hW _ 250 [(0, .ref 1000), (1, .int c), (2, .int ((aI σ 22) (c).toNatClampNeg)), (4, .int 1), (5, .int 0)] _ _ _ (by simp [rdl, rky, Value.category]) ((bad (by exact (ex_7 (by omega)).trans (if_neg (by omega))) _).2.2.2.2.2.2.2.2.2.2.2.2.2.2.2.1 c ((aI σ 22) (c).toNatClampNeg) 1 0 _ hz104)
      · dsimp only [Option.toList, List.cons_append, List.nil_append, Nat.beq, gI_sI, gI_sL, gI_sA, gI_sM, gL_sI, gL_sL, gL_sA, gL_sM, aI_sI, aI_sL, aI_sA, aI_sM, aL_sI, aL_sL, aL_sA, aL_sM]
        have hd103 : ¬ ((opT T x.2.2.1.2.1).1 = 0) := fun q => hd103 ((nd_t (rfl)).mpr q)
        refine ⟨trivial, fun w151 τ151 hq151 => ?_⟩
        obtain ⟨hA151, b151, rfl, hb151⟩ := hq151 trivial
        have hz151 := hA151 hz103
        dsimp only [Option.toList, List.cons_append, List.nil_append, Nat.beq, gI_sI, gI_sL, gI_sA, gI_sM, gL_sI, gL_sL, gL_sA, gL_sM, aI_sI, aI_sL, aI_sA, aI_sM, aL_sI, aL_sL, aL_sA, aL_sM]
        refine ⟨fun h152 => ?_, fun h152 => absurd h152 (by decide)⟩
        clear h152
        exact hW _ 255 [(0, .ref 1000), (1, .int c), (2, .int ((aI σ 22) (c).toNatClampNeg)), (4, .int 0), (5, .int b151)] _ _ _ (by simp [rdl, rky, Value.category]) ((bad (by exact (ex_7 (by omega)).trans (if_neg (by omega))) _).2.2.2.2.2.2.2.2.2.2.2.2.2.2.2.2.1 c ((aI σ 22) (c).toNatClampNeg) 0 b151 _ hz151)
    have c101 : ¬ (opkZ x) = 11 := fun q => h101 (hcc.1.trans q)
    refine ⟨fun h153 => ?_, fun h153 => ?_⟩
    · have c153 : (opkZ x) = 12 := hcc.1.symm.trans h153
      refine hB _ _ _ _ _ (fun m154 hm154 => ?_)
      dsimp only [ugo, uwp, ust, uct, rfd, BjudgeExp, BjudgeExp_471, Nat.beq, lv_args, rlk, rs1, rs2, rdl, rky, rcd, rno, rsw, Value.category, List.filter, List.take, List.drop, List.reverse, List.reverseAux, List.cons_append, List.nil_append, Option.toList, Int.toNat, Int.reduceToNat, if_pos, if_neg, reduceIte, ↓reduceIte, Nat.reduceAdd, Nat.reduceEqDiff, Nat.reduceBEq, beq_self_eq_true, Bool.not_true, Bool.not_false, Bool.and_true, Bool.and_false, Bool.true_and, Bool.false_and, gI_sI, gI_sL, gI_sA, gI_sM, gL_sI, gL_sL, gL_sA, gL_sM, aI_sI, aI_sL, aI_sA, aI_sM, aL_sI, aL_sL, aL_sA, aL_sM]; try dsimp only
      have kk : 11 ≤ x.1.1 := by omega
      clear hok
      unfold Qv_judgeExpB
      try dsimp only
      exact ⟨rfl, Or.inr ⟨_, ex_d (by omega), fun _ => rfl, fun q => absurd q (by omega)⟩⟩
    have c153 : ¬ (opkZ x) = 12 := fun q => h153 (hcc.1.trans q)
    refine ⟨fun h155 => ?_, fun h155 => ?_⟩
    · have c155 : (opkZ x) = 13 := hcc.1.symm.trans h155
      refine hB _ _ _ _ _ (fun m156 hm156 => ?_)
      dsimp only [ugo, uwp, ust, uct, rfd, BjudgeExp, BjudgeExp_471, Nat.beq, lv_args, rlk, rs1, rs2, rdl, rky, rcd, rno, rsw, Value.category, List.filter, List.take, List.drop, List.reverse, List.reverseAux, List.cons_append, List.nil_append, Option.toList, Int.toNat, Int.reduceToNat, if_pos, if_neg, reduceIte, ↓reduceIte, Nat.reduceAdd, Nat.reduceEqDiff, Nat.reduceBEq, beq_self_eq_true, Bool.not_true, Bool.not_false, Bool.and_true, Bool.and_false, Bool.true_and, Bool.false_and, gI_sI, gI_sL, gI_sA, gI_sM, gL_sI, gL_sL, gL_sA, gL_sM, aI_sI, aI_sL, aI_sA, aI_sM, aL_sI, aL_sL, aL_sA, aL_sM]; try dsimp only
      have kk : 11 ≤ x.1.1 := by omega
      clear hok
      unfold Qv_judgeExpB
      try dsimp only
      exact ⟨rfl, Or.inr ⟨_, ex_d (by omega), fun _ => rfl, fun q => absurd q (by omega)⟩⟩
    have c155 : ¬ (opkZ x) = 13 := fun q => h155 (hcc.1.trans q)
    refine ⟨fun h157 => ?_, fun h157 => ?_⟩
    · have c157 : (opkZ x) = 14 := hcc.1.symm.trans h157
      refine hB _ _ _ _ _ (fun m158 hm158 => ?_)
      dsimp only [ugo, uwp, ust, uct, rfd, BjudgeExp, BjudgeExp_408, Nat.beq, lv_args, rlk, rs1, rs2, rdl, rky, rcd, rno, rsw, Value.category, List.filter, List.take, List.drop, List.reverse, List.reverseAux, List.cons_append, List.nil_append, Option.toList, Int.toNat, Int.reduceToNat, if_pos, if_neg, reduceIte, ↓reduceIte, Nat.reduceAdd, Nat.reduceEqDiff, Nat.reduceBEq, beq_self_eq_true, Bool.not_true, Bool.not_false, Bool.and_true, Bool.and_false, Bool.true_and, Bool.false_and, gI_sI, gI_sL, gI_sA, gI_sM, gL_sI, gL_sL, gL_sA, gL_sM, aI_sI, aI_sL, aI_sA, aI_sM, aL_sI, aL_sL, aL_sA, aL_sM]; try dsimp only
      have kk : x.1.1 = 8 := by omega
      clear hok
      refine ⟨trivial, fun w159 τ159 hq159 => ?_⟩
      obtain ⟨rfl, hJ159⟩ := hq159.2 (opT T x.2.2.1.2.1) (opT T x.2.2.1.2.2.1) (opT T x.2.2.1.2.2.2.1) (T.1 i) x ⟨hE, (ho8 (by omega)).1, (ho8 (by omega)).2.1, (ho8 (by omega)).2.2⟩
      dsimp only [Option.toList, List.cons_append, List.nil_append, Nat.beq, gI_sI, gI_sL, gI_sA, gI_sM, gL_sI, gL_sL, gL_sA, gL_sM, aI_sI, aI_sL, aI_sA, aI_sM, aL_sI, aL_sL, aL_sA, aL_sM]
      unfold Qv_judgeExpB
      try dsimp only
      refine ⟨rfl, hJ159.m (ex_8 (by omega)) (fun e h => ⟨fun q => absurd q (by omega), fun _ => ?_⟩)⟩
      obtain ⟨ty, su, v, hs, rfl⟩ := h
      exact ⟨_, ty, su, v, hs, rfl, BaR.ch (by omega) hs.1⟩
    have c157 : ¬ (opkZ x) = 14 := fun q => h157 (hcc.1.trans q)
    refine ⟨fun h160 => ?_, fun h160 => ?_⟩
    · have c160 : (opkZ x) = 15 := hcc.1.symm.trans h160
      refine hB _ _ _ _ _ (fun m161 hm161 => ?_)
      dsimp only [ugo, uwp, ust, uct, rfd, BjudgeExp, BjudgeExp_414, Nat.beq, lv_args, rlk, rs1, rs2, rdl, rky, rcd, rno, rsw, Value.category, List.filter, List.take, List.drop, List.reverse, List.reverseAux, List.cons_append, List.nil_append, Option.toList, Int.toNat, Int.reduceToNat, if_pos, if_neg, reduceIte, ↓reduceIte, Nat.reduceAdd, Nat.reduceEqDiff, Nat.reduceBEq, beq_self_eq_true, Bool.not_true, Bool.not_false, Bool.and_true, Bool.and_false, Bool.true_and, Bool.false_and, gI_sI, gI_sL, gI_sA, gI_sM, gL_sI, gL_sL, gL_sA, gL_sM, aI_sI, aI_sL, aI_sA, aI_sM, aL_sI, aL_sL, aL_sA, aL_sM, oi_1]; try dsimp only
      have kk : x.1.1 = 3 := by omega
      clear hok
      intro p162
      intro p163
      intro p164
      refine ⟨trivial, fun w165 τ165 hq165 => ?_⟩
      obtain ⟨rfl, rfl⟩ := hq165 trivial
      dsimp only [Option.toList, List.cons_append, List.nil_append, Nat.beq, gI_sI, gI_sL, gI_sA, gI_sM, gL_sI, gL_sL, gL_sA, gL_sM, aI_sI, aI_sL, aI_sA, aI_sM, aL_sI, aL_sL, aL_sA, aL_sM]
      unfold Qv_judgeExpB
      try dsimp only
      refine ⟨rfl, Or.inr ⟨_, ex_3 (by omega), fun q => absurd q (by omega), fun _ => ⟨_, ((aI σ 70) (((gI σ 69) - 1)).toNatClampNeg), ((aI σ 71) (((gI σ 69) - 1)).toNatClampNeg), ((aL σ 72) (((gI σ 69) - 1)).toNatClampNeg), ⟨(ho1 (by omega)).1, (ho1 (by omega)).2.1, fun q => ?_⟩, rfl, BaR.one (by omega)⟩⟩⟩
      have z := (ho1 (by omega)).2.2.1 q
      have y := ((ho1 (by omega)).2.2.2.2 q).1
      exact z.trans y.symm
    have c160 : ¬ (opkZ x) = 15 := fun q => h160 (hcc.1.trans q)
    refine ⟨fun h166 => ?_, fun h166 => ?_⟩
    · have c166 : (opkZ x) = 16 := hcc.1.symm.trans h166
      refine hB _ _ _ _ _ (fun m167 hm167 => ?_)
      dsimp only [ugo, uwp, ust, uct, rfd, BjudgeExp, BjudgeExp_471, Nat.beq, lv_args, rlk, rs1, rs2, rdl, rky, rcd, rno, rsw, Value.category, List.filter, List.take, List.drop, List.reverse, List.reverseAux, List.cons_append, List.nil_append, Option.toList, Int.toNat, Int.reduceToNat, if_pos, if_neg, reduceIte, ↓reduceIte, Nat.reduceAdd, Nat.reduceEqDiff, Nat.reduceBEq, beq_self_eq_true, Bool.not_true, Bool.not_false, Bool.and_true, Bool.and_false, Bool.true_and, Bool.false_and, gI_sI, gI_sL, gI_sA, gI_sM, gL_sI, gL_sL, gL_sA, gL_sM, aI_sI, aI_sL, aI_sA, aI_sM, aL_sI, aL_sL, aL_sA, aL_sM]; try dsimp only
      have kk : 11 ≤ x.1.1 := by omega
      clear hok
      unfold Qv_judgeExpB
      try dsimp only
      exact ⟨rfl, Or.inr ⟨_, ex_d (by omega), fun _ => rfl, fun q => absurd q (by omega)⟩⟩
    have c166 : ¬ (opkZ x) = 16 := fun q => h166 (hcc.1.trans q)
    refine ⟨fun h168 => ?_, fun h168 => ?_⟩
    · have c168 : (opkZ x) = 17 := hcc.1.symm.trans h168
      refine hB _ _ _ _ _ (fun m169 hm169 => ?_)
      dsimp only [ugo, uwp, ust, uct, rfd, BjudgeExp, BjudgeExp_457, Nat.beq, lv_args, rlk, rs1, rs2, rdl, rky, rcd, rno, rsw, Value.category, List.filter, List.take, List.drop, List.reverse, List.reverseAux, List.cons_append, List.nil_append, Option.toList, Int.toNat, Int.reduceToNat, if_pos, if_neg, reduceIte, ↓reduceIte, Nat.reduceAdd, Nat.reduceEqDiff, Nat.reduceBEq, beq_self_eq_true, Bool.not_true, Bool.not_false, Bool.and_true, Bool.and_false, Bool.true_and, Bool.false_and, gI_sI, gI_sL, gI_sA, gI_sM, gL_sI, gL_sL, gL_sA, gL_sM, aI_sI, aI_sL, aI_sA, aI_sM, aL_sI, aL_sL, aL_sA, aL_sM]; try dsimp only
      have kk : x.1.1 = 9 := by omega
      clear hok
      refine ⟨trivial, fun w170 τ170 hq170 => ?_⟩
      obtain ⟨rfl, hJ170⟩ := hq170.2 C (opT T x.2.2.1.2.2.1) (T.1 i) x ⟨hE, ho9 (by omega), (by have z := hcc.2.2.2.2.2.2.1 (by omega); have y := hsg.2.2.2 (by omega); by_cases e8 : x.1.2.1 = 8; (rw [if_pos e8] at z; exact Or.inl ⟨e8, z⟩); (rw [if_neg e8] at z; exact Or.inr ⟨e8, z, by omega⟩)), (hfd (by omega)).1, (hfd (by omega)).2.1, (hfd (by omega)).2.2.1, (hfd (by omega)).2.2.2, ht0 (by omega)⟩
      dsimp only [Option.toList, List.cons_append, List.nil_append, Nat.beq, gI_sI, gI_sL, gI_sA, gI_sM, gL_sI, gL_sL, gL_sA, gL_sM, aI_sI, aI_sL, aI_sA, aI_sM, aL_sI, aL_sL, aL_sA, aL_sM]
      unfold Qv_judgeExpB
      try dsimp only
      refine ⟨rfl, hJ170.m (ex_9 (by omega)) (fun e h => ⟨fun q => absurd q (by omega), fun _ => ?_⟩)⟩
      obtain ⟨l, σ1, ty, su, v, hl, h8, hs, rfl⟩ := h
      rcases h8 with ⟨h8, rfl⟩ | ⟨h8, wk, hw, rfl⟩
      · exact ⟨_, ty, su, v, hs, rfl, BaR.as0 (by omega) h8 hl⟩
      · exact ⟨_, ty, su, v, hs, rfl, BaR.as1 (by omega) hw hl⟩
    have c168 : ¬ (opkZ x) = 17 := fun q => h168 (hcc.1.trans q)
    refine ⟨fun h171 => ?_, fun h171 => ?_⟩
    · have c171 : (opkZ x) = 18 := hcc.1.symm.trans h171
      refine hB _ _ _ _ _ (fun m172 hm172 => ?_)
      dsimp only [ugo, uwp, ust, uct, rfd, BjudgeExp, BjudgeExp_464, Nat.beq, lv_args, rlk, rs1, rs2, rdl, rky, rcd, rno, rsw, Value.category, List.filter, List.take, List.drop, List.reverse, List.reverseAux, List.cons_append, List.nil_append, Option.toList, Int.toNat, Int.reduceToNat, if_pos, if_neg, reduceIte, ↓reduceIte, Nat.reduceAdd, Nat.reduceEqDiff, Nat.reduceBEq, beq_self_eq_true, Bool.not_true, Bool.not_false, Bool.and_true, Bool.and_false, Bool.true_and, Bool.false_and, gI_sI, gI_sL, gI_sA, gI_sM, gL_sI, gL_sL, gL_sA, gL_sM, aI_sI, aI_sL, aI_sA, aI_sM, aL_sI, aL_sL, aL_sA, aL_sM]; try dsimp only
      have kk : x.1.1 = 10 := by omega
      clear hok
      refine ⟨trivial, fun w173 τ173 hq173 => ?_⟩
      obtain ⟨rfl, hJ173⟩ := hq173.2 C T (T.1 i) x ⟨hE, (hoa (by omega)).1, (hoa (by omega)).2.1, (hoa (by omega)).2.2.1, (hoa (by omega)).2.2.2, ht0 (by omega)⟩
      dsimp only [Option.toList, List.cons_append, List.nil_append, Nat.beq, gI_sI, gI_sL, gI_sA, gI_sM, gL_sI, gL_sL, gL_sA, gL_sM, aI_sI, aI_sL, aI_sA, aI_sM, aL_sI, aL_sL, aL_sA, aL_sM]
      unfold Qv_judgeExpB
      try dsimp only
      have hce : ∀ e, xaT C T (T.1 i) x = some e → 0 ≤ e.2.2.2 ∧ e.2.2.2 < 12 := fun e q => by
        unfold xaT at q
        split at q
        · next z =>
          cases q
          show 0 ≤ bsT _ _ _ 12 ∧ bsT _ _ _ 12 < 12
          have z2 : 0 ≤ bsT _ _ _ 12 := z.2
          exact ⟨z2, (bs_ok 12 (Nat.le_refl _)).elim (fun y => y.2.1) (fun y => by omega)⟩
        · cases q
      have hJ2 := JgR.k hJ173
      refine ⟨rfl, hJ2.m (ex_10 (by omega)) (fun e h => ⟨fun q => absurd q (by omega), fun _ => ?_⟩)⟩
      obtain ⟨he, l, ty, su, v, hl, hs, rfl⟩ := h
      refine ⟨_, ty, su, v, hs, rfl, BaR.cal (by omega) ?_ hl (hce e he)⟩
      have z := hcc.2.2.2.2.2.2.2.1 (by omega)
      rw [← z, Int32.ofInt_toInt]
    have c171 : ¬ (opkZ x) = 18 := fun q => h171 (hcc.1.trans q)
    refine hB _ _ _ _ _ (fun m174 hm174 => ?_)
    dsimp only [ugo, uwp, ust, uct, rfd, BjudgeExp, BjudgeExp_471, Nat.beq, lv_args, rlk, rs1, rs2, rdl, rky, rcd, rno, rsw, Value.category, List.filter, List.take, List.drop, List.reverse, List.reverseAux, List.cons_append, List.nil_append, Option.toList, Int.toNat, Int.reduceToNat, if_pos, if_neg, reduceIte, ↓reduceIte, Nat.reduceAdd, Nat.reduceEqDiff, Nat.reduceBEq, beq_self_eq_true, Bool.not_true, Bool.not_false, Bool.and_true, Bool.and_false, Bool.true_and, Bool.false_and, gI_sI, gI_sL, gI_sA, gI_sM, gL_sI, gL_sL, gL_sA, gL_sM, aI_sI, aI_sL, aI_sA, aI_sM, aL_sI, aL_sL, aL_sA, aL_sM]; try dsimp only
    have kk : 11 ≤ x.1.1 := by omega
    clear hok
    unfold Qv_judgeExpB
    try dsimp only
    exact ⟨rfl, Or.inr ⟨_, ex_d (by omega), fun _ => rfl, fun q => absurd q (by omega)⟩⟩
  next => exact hP.elim
theorem w_judgeExpB : UMet 88 (fun _ _ => True) Qw_judgeExpB := fun A1 σ _ w τ h C T i x hP => v_judgeExpB C T i x A1 σ hP w τ h
def Qw_judgeExpJ : UQ1 := fun A1 σ w τ => Qw_judgeExpA A1 σ w τ ∧ Qw_judgeExpB A1 σ w τ
theorem w_judgeExpJ : UMet 88 (fun _ _ => True) Qw_judgeExpJ := fun A1 σ q w τ h => ⟨w_judgeExpA A1 σ q w τ h, w_judgeExpB A1 σ q w τ h⟩

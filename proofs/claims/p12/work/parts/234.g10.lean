/-! S's of the reference: frames, methods, variables -/
def frR (σ : RS) : List Int := olY (aI σ 63) (nT (gI σ 62))
def wfF : List Int → Prop
  | [] => True
  | k :: F => (0 ≤ k ∧ k ≤ 11) ∧ (k = 0 ↔ F = []) ∧ wfF F
/-- a case or default is told of k -/
def gR (σ : RS) (k : Int32) : Prop := ∃ c, nT (aI σ 51 (nT k)) ≤ c ∧ c < nT (gI σ 18) ∧ (aI σ 19 c = 38 ∨ aI σ 19 c = 39) ∧ aI σ 20 c = k
def GrR (σ : RS) : Prop := ∀ i, i < nT (gI σ 62) → nT (aI σ 64 i) < nT (gI σ 49) ∧ (aI σ 63 i = 8 → nT (aI σ 51 (nT (aI σ 64 i))) ≤ nT (gI σ 18) ∧ (i + 1 < nT (gI σ 62) → gR σ (aI σ 64 i)))
/-- whether nothing is told yet in the switch on top -/
def FgR (σ : RS) (b : Int) : Prop := (b = 0 ∨ b = 1) ∧ ∀ i, i + 1 = nT (gI σ 62) → aI σ 63 i = 8 → (b = 0 ↔ gR σ (aI σ 64 i))
/-- variables, newest first; params of a method; methods -/
def vlR (σ : RS) : Nat → List (Int × Int × Int × Int)
  | 0 => []
  | n + 1 => ((aI σ 43 n).toInt, (aI σ 44 n).toInt, (aI σ 45 n).toInt, (aI σ 46 n).toInt) :: vlR σ n
def plR (f : Nat → Int32) (a : Nat) : Nat → List Int
  | 0 => []
  | n + 1 => (f (a + n)).toInt :: plR f a n
def mlR (σ : RS) : Nat → List (Int × Int × List Int)
  | 0 => []
  | n + 1 => ((aI σ 37 n).toInt, (aI σ 38 n).toInt, plR (aI σ 44) (nT (aI σ 40 n)) (nT (aI σ 39 n))) :: mlR σ n
def VvR (σ : RS) (s : SpC) : Prop := zVs s = vlR σ (nT (gI σ 42)) ∧ (0 ≤ gI σ 42 ∧ gI σ 42 ≤ 60)
def MvR (σ : RS) (s : SpC) : Prop := VvR σ s ∧ zMs s = mlR σ (nT (gI σ 36)) ∧ (0 ≤ gI σ 36 ∧ gI σ 36 ≤ 10) ∧ (∀ m, m < nT (gI σ 36) → nT (aI σ 40 m) + nT (aI σ 39 m) ≤ nT (gI σ 42))
def SRx (e : Nat) (σ : RS) (s : SpC) (n : Nat) : Prop := ShR σ s ∧ ((gI σ 17).toInt + n = 21 ∧ 1 ≤ n ∧ n + (frR σ).length = 21 + e) ∧ (wfF (frR σ) ∧ 0 ≤ gI σ 62 ∧ (frR σ = [] ∨ 0 < gI σ 36)) ∧ GrR σ ∧ MvR σ s
abbrev SR (σ : RS) (s : SpC) (n : Nat) : Prop := SRx 0 σ s n
theorem SR.x {e_ : Nat} {σ : RS} {s : SpC} {n : Nat} (h : SRx e_ σ s n) : XrR σ σ s n := ⟨h.1, ⟨h.2.1.1, h.2.1.2.1⟩, KR.rf⟩
theorem frR_c {σ τ : RS} (e1 : aI τ 63 = aI σ 63) (e2 : gI τ 62 = gI σ 62) : frR τ = frR σ := by unfold frR; rw [e1, e2]
/-- codes grow -/
def CgR (σ τ : RS) : Prop := nT (gI σ 18) ≤ nT (gI τ 18) ∧ ∀ c, c < nT (gI σ 18) → aI τ 19 c = aI σ 19 c ∧ aI τ 20 c = aI σ 20 c
theorem gR.g {σ τ : RS} {k : Int32} (h : gR σ k) (e : aI τ 51 (nT k) = aI σ 51 (nT k)) (c : CgR σ τ) : gR τ k := by
  obtain ⟨i, a, b, d, f⟩ := h
  have q := c.2 i b
  exact ⟨i, by rw [e]; exact a, Nat.lt_of_lt_of_le b c.1, by rw [q.1]; exact d, by rw [q.2]; exact f⟩
theorem CgR.rf {σ τ : RS} (e : gI τ 18 = gI σ 18) (a : aI τ 19 = aI σ 19) (b : aI τ 20 = aI σ 20) : CgR σ τ := by
  unfold CgR
  rw [e, a, b]
  exact ⟨Nat.le_refl _, fun _ _ => ⟨rfl, rfl⟩⟩
theorem CgR.em {σ τ : RS} {op a : Int32} (e : Em σ op a τ) : CgR σ τ := by
  obtain ⟨p1, p2, p3, p4, p5, p6, p7⟩ := e
  have en := nT_add p6 (show gI σ 18 < 2147483647 by lia)
  unfold CgR
  rw [p2, p3, p4, en]
  refine ⟨by omega, fun c hc => ?_⟩
  rw [upd_ne (by omega), upd_ne (by omega)]
  exact ⟨rfl, rfl⟩
theorem KR.cg {σ τ : RS} (h : KR σ τ) : CgR σ τ := ⟨h.2.1, h.2.2.1⟩
/-- what changes nothing of the frames -/
theorem GrR.g {σ τ : RS} (h : GrR σ) (c : CgR σ τ) (e62 : gI τ 62 = gI σ 62) (e49 : nT (gI σ 49) ≤ nT (gI τ 49)) (a63 : aI τ 63 = aI σ 63) (a64 : aI τ 64 = aI σ 64) (a51 : ∀ i, i < nT (gI σ 49) → aI τ 51 i = aI σ 51 i) : GrR τ := by
  intro i hi
  rw [e62] at hi
  have q := h i hi
  rw [a63, a64, e62]
  exact ⟨by omega, fun z1 => ⟨by rw [a51 _ q.1]; exact Nat.le_trans (q.2 z1).1 c.1, fun z2 => ((q.2 z1).2 z2).g (a51 _ q.1) c⟩⟩
theorem FgR.g {σ τ : RS} (h : FgR σ 0) (hG : GrR σ) (c : CgR σ τ) (e62 : gI τ 62 = gI σ 62) (a63 : aI τ 63 = aI σ 63) (a64 : aI τ 64 = aI σ 64) (a51 : ∀ i, i < nT (gI σ 49) → aI τ 51 i = aI σ 51 i) : FgR τ 0 := by
  refine ⟨Or.inl rfl, fun i hi => ?_⟩
  rw [e62] at hi
  rw [a63, a64]
  intro z
  exact ⟨fun _ => ((h.2 i hi z).mp rfl).g (a51 _ (hG i (by omega)).1) c, fun _ => rfl⟩
theorem vlR_c {σ τ : RS} (a : aI τ 43 = aI σ 43) (b : aI τ 44 = aI σ 44) (c : aI τ 45 = aI σ 45) (d : aI τ 46 = aI σ 46) : ∀ n, vlR τ n = vlR σ n := by
  intro n
  induction n with
  | zero => rfl
  | succ n ih => rw [vlR, vlR, ih, a, b, c, d]
theorem mlR_c {σ τ : RS} (a : aI τ 37 = aI σ 37) (b : aI τ 38 = aI σ 38) (c : aI τ 39 = aI σ 39) (d : aI τ 40 = aI σ 40) (e : aI τ 44 = aI σ 44) : ∀ n, mlR τ n = mlR σ n := by
  intro n
  induction n with
  | zero => rfl
  | succ n ih => rw [mlR, mlR, ih, a, b, c, d, e]
theorem MvR.c {σ τ : RS} {s t : SpC} (h : MvR σ s) (e2 : t.2 = s.2) (e36 : gI τ 36 = gI σ 36) (e42 : gI τ 42 = gI σ 42) (r : ∀ k, 37 ≤ k ∧ k ≤ 46 → aI τ k = aI σ k) : MvR τ t := by
  have a : zVs t = zVs s := by unfold zVs; rw [e2]
  have b : zMs t = zMs s := by unfold zMs; rw [e2]
  unfold MvR VvR
  rw [a, b, e36, e42, vlR_c (r 43 (by omega)) (r 44 (by omega)) (r 45 (by omega)) (r 46 (by omega)), mlR_c (r 37 (by omega)) (r 38 (by omega)) (r 39 (by omega)) (r 40 (by omega)) (r 44 (by omega)), r 39 (by omega), r 40 (by omega)]
  exact h
theorem xA_f {k : Nat} (h : 31 ≤ k) : xaR k = false := by
  unfold xaR
  have : Nat.ble k 28 = false := by
    cases q : Nat.ble k 28 with
    | false => rfl
    | true => have := Nat.le_of_ble_eq_true q; omega
  rw [this]
  simp only [Bool.and_false, Bool.false_or, beq_eq_false_iff_ne]
  omega
/-- behind a call that reads on -/
theorem SR.kr {e_ : Nat} {σ τ : RS} {s t : SpC} {n : Nat} (h : SRx e_ σ s n) (x : XrR σ τ t n) (e2 : t.2 = s.2) : SRx e_ τ t n := by
  have k := x.2.2
  have r : ∀ j, 31 ≤ j → aI τ j = aI σ j := fun j hj => k.1.2 j (xA_f hj)
  have e62 := k.1.1 62 rfl
  refine ⟨x.1, ⟨x.2.1.1, x.2.1.2, ?_⟩, ?_, h.2.2.2.1.g k.cg e62 (by rw [k.1.1 49 rfl]; exact Nat.le_refl _) (r 63 (by omega)) (r 64 (by omega)) (fun i _ => by rw [r 51 (by omega)]), h.2.2.2.2.c e2 (k.1.1 36 rfl) (k.1.1 42 rfl) (fun j hj => r j (by omega))⟩
  · rw [frR_c (r 63 (by omega)) e62]
    exact h.2.1.2.2
  · rw [frR_c (r 63 (by omega)) e62, e62, k.1.1 36 rfl]
    exact h.2.2.1
theorem FgR.kr {e_ : Nat} {σ τ : RS} {s t : SpC} {n m : Nat} (h : FgR σ 0) (hS : SRx e_ σ s n) (x : XrR σ τ t m) : FgR τ 0 := by
  have k := x.2.2
  have r : ∀ j, 31 ≤ j → aI τ j = aI σ j := fun j hj => k.1.2 j (xA_f hj)
  exact h.g hS.2.2.2.1 k.cg (k.1.1 62 rfl) (r 63 (by omega)) (r 64 (by omega)) (fun i _ => by rw [r 51 (by omega)])
theorem frR_kr {σ τ : RS} {t : SpC} {m : Nat} (x : XrR σ τ t m) : frR τ = frR σ := frR_c (x.2.2.1.2 63 rfl) (x.2.2.1.1 62 rfl)
def sI_ (k : Nat) : Bool := k == 2 || k == 14 || k == 15 || k == 17 || k == 18 || k == 36 || k == 42 || k == 49 || k == 62
def sA_ (k : Nat) : Bool := k == 3 || k == 4 || k == 6 || k == 19 || k == 20 || (Nat.ble 37 k && Nat.ble k 46) || k == 51 || k == 63 || k == 64
/-- what counts for S's -/
def SqR (σ τ : RS) : Prop := (∀ k, sI_ k = true → gI τ k = gI σ k) ∧ ∀ k, sA_ k = true → aI τ k = aI σ k
theorem sA_m {k : Nat} (h : 37 ≤ k ∧ k ≤ 46) : sA_ k = true := by
  unfold sA_
  rw [Nat.ble_eq_true_of_le h.1, Nat.ble_eq_true_of_le h.2]
  simp
theorem SR.sq {e_ : Nat} {σ τ : RS} {s : SpC} {n : Nat} (h : SRx e_ σ s n) (q : SqR σ τ) : SRx e_ τ s n := by
  have f : frR τ = frR σ := frR_c (q.2 63 rfl) (q.1 62 rfl)
  refine ⟨h.1.kp (q.1 2 rfl) (q.1 14 rfl) (q.1 15 rfl) (q.2 3 rfl) (q.2 4 rfl) (q.2 6 rfl), by rw [q.1 17 rfl, f]; exact h.2.1, by rw [f, q.1 62 rfl, q.1 36 rfl]; exact h.2.2.1, h.2.2.2.1.g (CgR.rf (q.1 18 rfl) (q.2 19 rfl) (q.2 20 rfl)) (q.1 62 rfl) (by rw [q.1 49 rfl]; exact Nat.le_refl _) (q.2 63 rfl) (q.2 64 rfl) (fun i _ => by rw [q.2 51 rfl]), h.2.2.2.2.c rfl (q.1 36 rfl) (q.1 42 rfl) (fun k hk => q.2 k (sA_m hk))⟩
theorem gR_sq {σ τ : RS} {k : Int32} (q : SqR σ τ) : gR τ k ↔ gR σ k := by
  unfold gR
  rw [q.2 51 rfl, q.1 18 rfl, q.2 19 rfl, q.2 20 rfl]
theorem FgR.sq {σ τ : RS} {b : Int} (h : FgR σ b) (q : SqR σ τ) : FgR τ b := by
  refine ⟨h.1, fun i hi z => ?_⟩
  rw [q.1 62 rfl] at hi
  rw [q.2 63 rfl] at z
  rw [q.2 64 rfl, gR_sq q]
  exact h.2 i hi z
theorem SqR.i {σ : RS} {k : Nat} {v : Int32} (hk : sI_ k = false) : SqR σ (sI σ k v) := ⟨fun j hj => by rw [gI_sI, nb_ne (fun q => by subst q; rw [hk] at hj; cases hj)], fun _ _ => rfl⟩
theorem SqR.a {σ : RS} {k : Nat} {f : Nat → Int32} (hk : sA_ k = false) : SqR σ (sA σ k f) := ⟨fun _ _ => rfl, fun j hj => by rw [aI_sA, nb_ne (fun q => by subst q; rw [hk] at hj; cases hj)]⟩
theorem SR.i {e_ : Nat} {σ : RS} {s : SpC} {n k : Nat} {v : Int32} (h : SRx e_ σ s n) (hk : sI_ k = false) : SRx e_ (sI σ k v) s n := SR.sq h (SqR.i hk)
theorem SR.a {e_ : Nat} {σ : RS} {s : SpC} {n k : Nat} {f : Nat → Int32} (h : SRx e_ σ s n) (hk : sA_ k = false) : SRx e_ (sA σ k f) s n := SR.sq h (SqR.a hk)
theorem FgR.i {σ : RS} {b : Int} {k : Nat} {v : Int32} (h : FgR σ b) (hk : sI_ k = false) : FgR (sI σ k v) b := h.sq (SqR.i hk)
theorem FgR.a {σ : RS} {b : Int} {k : Nat} {f : Nat → Int32} (h : FgR σ b) (hk : sA_ k = false) : FgR (sA σ k f) b := h.sq (SqR.a hk)
theorem frR_i {σ : RS} {k : Nat} {v : Int32} (h : k ≠ 62) : frR (sI σ k v) = frR σ := by
  refine frR_c rfl ?_
  rw [gI_sI, nb_ne (fun q => h q.symm)]
theorem frR_a {σ : RS} {k : Nat} {f : Nat → Int32} (h : k ≠ 63) : frR (sA σ k f) = frR σ := by
  refine frR_c ?_ rfl
  rw [aI_sA, nb_ne (fun q => h q.symm)]
theorem frR_em {σ τ : RS} {op a : Int32} (e : Em σ op a τ) : frR τ = frR σ := frR_c (e.2.2.2.2.1 63 (by omega)) (e.1 62 (by decide))
theorem SR.em {e_ : Nat} {σ τ : RS} {s : SpC} {n : Nat} {op a : Int32} (h : SRx e_ σ s n) (e : Em σ op a τ) : SRx e_ τ s n := by
  have c := CgR.em e
  have f := frR_em e
  have p := e.2.2.2.2.1
  have e8 := e.2.1
  have b8 := e.2.2.2.2.2
  refine ⟨h.1.kp (e.1 2 (by decide)) (e.1 14 (by decide)) (e.1 15 (by decide)) (p 3 (by omega)) (p 4 (by omega)) (p 6 (by omega)), by rw [e.1 17 (by decide), f]; exact h.2.1, by rw [f, e.1 62 (by decide), e.1 36 (by decide)]; exact h.2.2.1, h.2.2.2.1.g c (e.1 62 (by decide)) (by rw [e.1 49 (by decide)]; exact Nat.le_refl _) (p 63 (by omega)) (p 64 (by omega)) (fun i _ => by rw [p 51 (by omega)]), h.2.2.2.2.c rfl (e.1 36 (by decide)) (e.1 42 (by decide)) (fun k hk => p k (by omega))⟩
theorem FgR.em {e_ : Nat} {σ τ : RS} {s : SpC} {n : Nat} {op a : Int32} (h : FgR σ 0) (hS : SRx e_ σ s n) (e : Em σ op a τ) : FgR τ 0 := by
  have p := e.2.2.2.2.1
  exact h.g hS.2.2.2.1 (CgR.em e) (e.1 62 (by decide)) (p 63 (by omega)) (p 64 (by omega)) (fun i _ => by rw [p 51 (by omega)])
theorem frR_th {σ τ : RS} (e : Th σ τ) : frR τ = frR σ := frR_c (e.2.2.2.1 63 (by omega)) (e.1 62 (by decide))
theorem thk51 {σ τ : RS} (e : Th σ τ) : ∀ i, i < nT (gI σ 49) → aI τ 51 i = aI σ 51 i := by
  intro i hi
  rw [e.2.2.1, upd_ne (by omega)]
theorem th49 {σ τ : RS} (e : Th σ τ) : nT (gI τ 49) = nT (gI σ 49) + 1 := by
  rw [e.2.1, nT_add e.2.2.2.2.1 (by have := e.2.2.2.2.2; lia)]
theorem SR.th {e_ : Nat} {σ τ : RS} {s : SpC} {n : Nat} (h : SRx e_ σ s n) (e : Th σ τ) : SRx e_ τ s n := by
  have p := e.2.2.2.1
  have c : CgR σ τ := CgR.rf (e.1 18 (by decide)) (p 19 (by omega)) (p 20 (by omega))
  have f := frR_th e
  refine ⟨h.1.kp (e.1 2 (by decide)) (e.1 14 (by decide)) (e.1 15 (by decide)) (p 3 (by omega)) (p 4 (by omega)) (p 6 (by omega)), by rw [e.1 17 (by decide), f]; exact h.2.1, by rw [f, e.1 62 (by decide), e.1 36 (by decide)]; exact h.2.2.1, h.2.2.2.1.g c (e.1 62 (by decide)) (by rw [th49 e]; omega) (p 63 (by omega)) (p 64 (by omega)) (thk51 e), h.2.2.2.2.c rfl (e.1 36 (by decide)) (e.1 42 (by decide)) (fun k hk => p k (by omega))⟩
theorem FgR.th {e_ : Nat} {σ τ : RS} {s : SpC} {n : Nat} (h : FgR σ 0) (hS : SRx e_ σ s n) (e : Th σ τ) : FgR τ 0 := by
  have p := e.2.2.2.1
  exact h.g hS.2.2.2.1 (CgR.rf (e.1 18 (by decide)) (p 19 (by omega)) (p 20 (by omega))) (e.1 62 (by decide)) (p 63 (by omega)) (p 64 (by omega)) (thk51 e)
/-- a frame is popped -/
theorem frR_pop {σ : RS} (h : 0 < gI σ 62) : frR σ = (aI σ 63 (gI σ 62 - 1).toNatClampNeg).toInt :: frR (sI σ 62 (gI σ 62 - 1)) := by
  have e := nT_sub h
  show olY (aI σ 63) (nT (gI σ 62)) = _
  rw [e]
  rfl
theorem frR_nil {σ : RS} (h : gI σ 62 ≤ 0) : frR σ = [] := by
  have : nT (gI σ 62) = 0 := by
    have q : (gI σ 62).toInt ≤ (0 : Int32).toInt := Int32.le_iff_toInt_le.mp h
    have q : (gI σ 62).toInt ≤ 0 := q
    show (gI σ 62).toInt.toNat = 0
    omega
  show olY _ _ = _
  rw [this]
  rfl
theorem SR.pop {σ : RS} {s : SpC} {n : Nat} (h : SR σ s n) (h0 : 0 < gI σ 62) : SR (sI (sI σ 62 (gI σ 62 - 1)) 17 (gI σ 17 - 1)) s (n + 1) ∧ FgR (sI (sI σ 62 (gI σ 62 - 1)) 17 (gI σ 17 - 1)) 0 := by
  have e := nT_sub h0
  have p := frR_pop h0
  have l : (frR σ).length = (frR (sI σ 62 (gI σ 62 - 1))).length + 1 := by rw [p]; rfl
  have h1 := h.2.1
  refine ⟨⟨h.1.kp rfl rfl rfl rfl rfl rfl, ⟨?_, by omega, ?_⟩, ⟨?_, ?_, ?_⟩, ?_, h.2.2.2.2.c rfl rfl rfl (fun _ _ => rfl)⟩, ?_⟩
  · show (gI σ 17 - 1).toInt + _ = _
    rw [i32_sub (by omega) (by omega)]
    omega
  · show _ + (frR (sI σ 62 (gI σ 62 - 1))).length = _
    omega
  · have q := h.2.2.1.1
    rw [p] at q
    exact q.2.2
  · show 0 ≤ gI σ 62 - 1
    lia
  · exact Or.inr (h.2.2.1.2.2.resolve_left (fun q => by rw [p] at q; cases q))
  · intro i hi
    have hi : i < nT (gI σ 62 - 1) := hi
    have q := h.2.2.2.1 i (by omega)
    exact ⟨q.1, fun z1 => ⟨(q.2 z1).1, fun z2 => (q.2 z1).2 (by have z2 : i + 1 < nT (gI σ 62 - 1) := z2; omega)⟩⟩
  · refine ⟨Or.inl rfl, fun i hi z => ?_⟩
    have hi : i + 1 = nT (gI σ 62 - 1) := hi
    have q := h.2.2.2.1 i (by omega)
    exact ⟨fun _ => (q.2 z).2 (by omega), fun _ => rfl⟩
/-- what a call of piece, statement tells -/
def StQ (τ : RS) (Φ : SpC) (w : Option Value) : Prop := (w = some (.int 0) ∧ FlR τ Φ) ∨ (w = some (.int 1) ∧ ∃ s n b, SR τ s n ∧ FgR τ b ∧ pcY b (frR τ) n s = Φ)
theorem StQ.f {τ : RS} {Φ T : SpC} (h : FlR τ T) (g : GpY T Φ) : StQ τ Φ (some (.int 0)) := Or.inl ⟨rfl, h.g g⟩
/-- a frame more -/
theorem SR.op {σ τ : RS} {s : SpC} {n : Nat} {sort k : Int32} (h : SR σ s n) (hg : FgR σ 0) (hn : 2 ≤ n) (x : ShR τ s) (e17 : (gI τ 17).toInt + (n - 1 : Nat) = 21) (e62 : gI τ 62 = gI σ 62 + 1) (hb : gI σ 62 < 80) (ei : ∀ j, j ≠ 17 → j ≠ 62 → gI τ j = gI σ j) (a63 : aI τ 63 = upd (aI σ 63) (nT (gI σ 62)) sort) (a64 : aI τ 64 = upd (aI σ 64) (nT (gI σ 62)) k) (ea : ∀ j, j < 63 → aI τ j = aI σ j) (hk : nT k < nT (gI σ 49)) (hs : 0 ≤ sort.toInt ∧ sort.toInt ≤ 11) (h0 : sort.toInt = 0 ↔ frR σ = []) (h6 : 0 < gI σ 36) (h8 : sort = 8 → nT (aI σ 51 (nT k)) ≤ nT (gI σ 18) ∧ ¬ gR σ k) : SR τ s (n - 1) ∧ FgR τ 1 ∧ frR τ = sort.toInt :: frR σ := by
  have hl := h.2.2.1.2.1
  have en := nT_add hl (show gI σ 62 < 2147483647 by lia)
  have f : frR τ = sort.toInt :: frR σ := by
    unfold frR
    rw [e62, en, a63]
    show (upd _ _ _ _).toInt :: _ = _
    rw [upd_eq, olY_upd _ (Nat.le_refl _)]
  have cg : CgR σ τ := CgR.rf (ei 18 (by decide) (by decide)) (ea 19 (by decide)) (ea 20 (by decide))
  have h1 := h.2.1
  refine ⟨⟨x, ⟨e17, by omega, ?_⟩, ⟨?_, ?_, ?_⟩, ?_, h.2.2.2.2.c rfl (ei 36 (by decide) (by decide)) (ei 42 (by decide) (by decide)) (fun j hj => ea j (by omega))⟩, ?_, f⟩
  · rw [f, List.length_cons]
    omega
  · rw [f]
    exact ⟨hs, h0, h.2.2.1.1⟩
  · rw [e62]
    lia
  · exact Or.inr (by rw [ei 36 (by decide) (by decide)]; exact h6)
  · intro i hi
    rw [e62, en] at hi
    rw [a63, a64, e62, en, ei 49 (by decide) (by decide)]
    by_cases q : i = nT (gI σ 62)
    · subst q
      rw [upd_eq, upd_eq]
      exact ⟨hk, fun z1 => ⟨by rw [ea 51 (by decide), ei 18 (by decide) (by decide)]; exact (h8 z1).1, fun z => absurd z (by omega)⟩⟩
    · rw [upd_ne q, upd_ne q]
      have q2 := h.2.2.2.1 i (by omega)
      refine ⟨q2.1, fun z1 => ⟨by rw [ea 51 (by decide), ei 18 (by decide) (by decide)]; exact (q2.2 z1).1, fun z2 => ?_⟩⟩
      by_cases q3 : i + 1 < nT (gI σ 62)
      · exact ((q2.2 z1).2 q3).g (by rw [ea 51 (by decide)]) cg
      · exact ((hg.2 i (by omega) z1).mp rfl).g (by rw [ea 51 (by decide)]) cg
  · refine ⟨Or.inr rfl, fun i hi z => ?_⟩
    rw [e62, en] at hi
    obtain rfl : i = nT (gI σ 62) := by omega
    rw [a63, upd_eq] at z
    rw [a64, upd_eq]
    refine ⟨fun q => absurd q (by decide), fun q => absurd ?_ (h8 z).2⟩
    obtain ⟨c, q1, q2, q3, q4⟩ := q
    rw [ea 51 (by decide)] at q1
    rw [ei 18 (by decide) (by decide)] at q2
    rw [ea 19 (by decide)] at q3
    rw [ea 20 (by decide)] at q4
    exact ⟨c, q1, q2, q3, q4⟩
/-- a variable more -/
def VaR (σ τ : RS) (ty f : Int32) : Prop := (∀ j, j ≠ 14 → j ≠ 42 → gI τ j = gI σ j) ∧ gI τ 42 = gI σ 42 + 1 ∧ (0 ≤ gI σ 42 ∧ gI σ 42 < 60) ∧
  (aI τ 43 = upd (aI σ 43) (nT (gI σ 42)) (gI σ 14) ∧ aI τ 44 = upd (aI σ 44) (nT (gI σ 42)) ty ∧ aI τ 45 = upd (aI σ 45) (nT (gI σ 42)) f ∧ aI τ 46 = upd (aI σ 46) (nT (gI σ 42)) (if gI σ 36 = 0 ∨ gI σ 62 = 0 then gI σ 36 else gI σ 36 - 1)) ∧ (∀ j, j < 43 ∨ 48 < j → aI τ j = aI σ j)
theorem vlR_up {σ τ : RS} {k : Nat} {x y z w : Int32} (a : aI τ 43 = upd (aI σ 43) k x) (b : aI τ 44 = upd (aI σ 44) k y) (c : aI τ 45 = upd (aI σ 45) k z) (d : aI τ 46 = upd (aI σ 46) k w) : ∀ n, n ≤ k → vlR τ n = vlR σ n := by
  intro n
  induction n with
  | zero => exact fun _ => rfl
  | succ n ih =>
    intro h
    rw [vlR, vlR, ih (by omega), a, b, c, d, upd_ne (by omega), upd_ne (by omega), upd_ne (by omega), upd_ne (by omega)]
theorem plR_up {f : Nat → Int32} {a k : Nat} {x : Int32} : ∀ n, a + n ≤ k → plR (upd f k x) a n = plR f a n := by
  intro n
  induction n with
  | zero => exact fun _ => rfl
  | succ n ih =>
    intro h
    rw [plR, plR, ih (by omega), upd_ne (by omega)]
theorem mlR_up {σ τ : RS} {k : Nat} {x : Int32} (a : aI τ 37 = aI σ 37) (b : aI τ 38 = aI σ 38) (c : aI τ 39 = aI σ 39) (d : aI τ 40 = aI σ 40) (e : aI τ 44 = upd (aI σ 44) k x) : ∀ n, (∀ m, m < n → nT (aI σ 40 m) + nT (aI σ 39 m) ≤ k) → mlR τ n = mlR σ n := by
  intro n
  induction n with
  | zero => exact fun _ => rfl
  | succ n ih =>
    intro h
    rw [mlR, mlR, ih (fun m hm => h m (by omega)), a, b, c, d, e, plR_up _ (h n (by omega))]
/-- variables and methods behind a variable more -/
theorem VaR.vv {σ τ : RS} {ty f : Int32} {s : SpC} (h : VaR σ τ ty f) (v : VvR σ s) (e : (zMs s).length = nT (gI σ 36) + (if gI σ 62 = 0 then 1 else 0)) (h36 : 0 ≤ gI σ 36 ∧ gI σ 36 ≤ 10) (h0 : gI σ 36 = 0 → gI σ 62 = 0) (ha : zAt s = (gI σ 14).toInt) : VvR τ (vadY ty.toInt f.toInt s) := by
  obtain ⟨p1, p2, p3, ⟨q1, q2, q3, q4⟩, p5⟩ := h
  have en := nT_add p3.1 (show gI σ 42 < 2147483647 by lia)
  refine ⟨?_, by rw [p2]; lia⟩
  rw [p2, en, vlR, vlR_up q1 q2 q3 q4 _ (Nat.le_refl _), q1, q2, q3, q4, upd_eq, upd_eq, upd_eq, upd_eq, ← v.1]
  show (zAt s, ty.toInt, f.toInt, ((zMs s).length : Int) - 1) :: zVs s = _
  rw [ha, e]
  congr 4
  have nn : (nT (gI σ 36) : Int) = (gI σ 36).toInt := by
    have := Int32.le_iff_toInt_le.mp h36.1
    have q : 0 ≤ (gI σ 36).toInt := this
    show (((gI σ 36).toInt.toNat : Nat) : Int) = _
    omega
  by_cases z : gI σ 62 = 0
  · rw [if_pos z, if_pos (Or.inr z)]
    omega
  · rw [if_neg z, if_neg (fun q => q.elim (fun q => z (h0 q)) z)]
    have a1 := Int32.le_iff_toInt_le.mp h36.1
    have a2 := Int32.le_iff_toInt_le.mp h36.2
    have a1 : 0 ≤ (gI σ 36).toInt := a1
    have a2 : (gI σ 36).toInt ≤ 10 := a2
    rw [i32_sub (by omega) (by omega)]
    omega

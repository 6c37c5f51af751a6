/-! the class's judge: what stands while exps are judged -/
/-- what is told around: out of what is read -/
def CzT (N : Int → Int) (z : ZS) (ms : MfT) : CxT := (N, fun v => ((vth z.1 v).2.1, (vth z.1 v).2.2.1), (zVs z.1).length, ms)
/-- what was read, but for what the reader keeps of it -/
def ZD (N : Int → Int) (E A B V : Nat → Nat) (σ : CsC) (z : ZS) : Prop :=
  EnC E σ ∧ True ∧
  ((∀ j, (eIC σ (E 302) j).toInt = zK z.1 j) ∧ ∀ j : Nat, (eLC σ (E 304) j).toInt = N j) ∧
  (LiC σ (E 213) (xnM z) A ∧ LiC σ (E 214) (snM z) B ∧ LiC σ (E 212) (zVs z.1).length V ∧ LiC σ (E 211) (zMs z.1).length (fun k => E (1000 + k))) ∧
  ((∀ i, i < xnM z → XoC N A σ (xth z i) i (A i) ∧ oprX (xth z i) (xnM z)) ∧ ∀ i, i < xnM z → (∀ a ∈ (xth z i).2.2.2, (xth z i).2.2.1.1 ≤ a ∧ 0 ≤ a ∧ a < (i : Int)) ∧ ChC A σ (xth z i).2.2.2) ∧
  ((∀ j, j < snM z → SoC A B σ (reS z j) (B j) ∧ oprS (reS z j) (xnM z) (snM z)) ∧ ∀ i j, i < j → j < snM z → B i < B j) ∧
  (∀ v, v < (zVs z.1).length → VrC σ (vth z.1 v) (z.2.2.2.2.2.1 v) (V v)) ∧
  True ∧ True ∧ (zVs z.1).length ≤ 60 ∧ ∀ i j, i < j → j < (zVs z.1).length → V i < V j
theorem ZD.cg {N : Int → Int} {E A B V : Nat → Nat} {σ τ : CsC} {z : ZS} (h : ZD N E A B V σ z) (f : ∀ a k, ¬ k = 245 → ¬ k = 246 → fIC τ a k = fIC σ a k ∧ fLC τ a k = fLC σ a k ∧ fRC τ a k = fRC σ a k) (e : eIC τ = eIC σ ∧ eLC τ = eLC σ ∧ eRC τ = eRC σ) (c : cnC τ = cnC σ) : ZD N E A B V τ z := by
  obtain ⟨h1, _, ⟨h3, h3'⟩, ⟨l1, l2, l3, l4⟩, ⟨h5, h5'⟩, ⟨h6, h6'⟩, h7, h8⟩ := h
  have li : ∀ {a n : Nat} {F : Nat → Nat}, LiC σ a n F → LiC τ a n F := fun {a n F} q => q.cg (f a 1 (by decide) (by decide)).2.2 e.2.2 (f a 2 (by decide) (by decide)).1 (Nat.le_of_eq c.symm)
  exact ⟨h1.cg (fun a k _ hk => (f a k (by omega) (by omega)).2.2) (Nat.le_of_eq c.symm), trivial, ⟨by rw [e.1]; exact h3, by rw [e.2.1]; exact h3'⟩, ⟨li l1, li l2, li l3, li l4⟩, ⟨fun i hi => ⟨(h5 i hi).1.cg (fun k hk => f _ k (by omega) (by omega)), (h5 i hi).2⟩, fun i hi => ⟨(h5' i hi).1, ChC.cg (fun a _ => (f _ 75 (by decide) (by decide)).2.2) (h5' i hi).2⟩⟩, ⟨fun j hj => ⟨(h6 j hj).1.cg (fun k hk => f _ k (by omega) (by omega)), (h6 j hj).2⟩, h6'⟩, fun v hv => (h7 v hv).cg (fun k hk => (f _ k (by omega) (by omega)).1), h8⟩
theorem ZD.we {N : Int → Int} {E A B V : Nat → Nat} {σ τ : CsC} {z : ZS} (h : ZD N E A B V σ z) (w : WeC σ τ) : ZD N E A B V τ z := h.cg (fun a k _ _ => ⟨by rw [we_i w], by rw [we_l w], by rw [we_r w]⟩) ⟨we_ei w, we_el w, we_er w⟩ (we_c w)
theorem ZC.d {N : Int → Int} {E A B V : Nat → Nat} {σ : CsC} {e : Nat} {z : ZS} (h : ZC N E A B V (prS e σ) z) : ZD N E A B V σ z := ZD.cg (σ := prS e σ) ⟨h.1, trivial, h.2.2.1, h.2.2.2.1, h.2.2.2.2.1, h.2.2.2.2.2.1, h.2.2.2.2.2.2.1, trivial, trivial, h.2.2.2.2.2.2.2.2.2⟩ (fun a k n5 n6 => ⟨rfl, (u2C_nk (fun q => by first | exact n5 q | exact n5 q.symm)).symm, (u2C_nk (fun q => by first | exact n6 q | exact n6 q.symm)).symm⟩) ⟨rfl, rfl, rfl⟩ rfl
/-- what stands at first -/
def StC (N : Int → Int) (E A B V : Nat → Nat) (σ : CsC) (z : ZS) (ms : MfT) (nm : Nat) : Prop := (ZD N E A B V σ z ∧ SkM z [] ∧ ∀ i, i < xnM z → (xth z i).1.1 = 15 → 0 ≤ (xth z i).2.1.2.1 ∧ (xth z i).2.1.2.1 < ((zVs z.1).length : Int)) ∧ (PjC E σ ∧ fIC σ (E 1) 217 = 0 ∧ TnC E σ) ∧ MaC E σ ms nm ∧ ∀ i m r, ms i = some m → fRC σ (MoE E i) 183 = some r → r ≠ E 303
/-- what judging exps leaves alone -/
def JfC (E A : Nat → Nat) (z : ZS) (σ0 σ : CsC) : Prop := (∀ a k, [67, 68, 69, 70, 71, 335, 336].elem k = false → fIC σ a k = fIC σ0 a k ∧ fLC σ a k = fLC σ0 a k ∧ fRC σ a k = fRC σ0 a k) ∧ True ∧ ((∀ a, a ≠ E 303 → eIC σ a = eIC σ0 a) ∧ eLC σ = eLC σ0 ∧ eRC σ = eRC σ0) ∧ cnC σ = cnC σ0 ∧ (∀ k, k < xnM z → ¬ (xth z k).1.1 = 10 → fIC σ (A k) 67 = fIC σ0 (A k) 67) ∧ ∀ k, k < xnM z → ¬ (xth z k).1.1 = 7 → ¬ (xth z k).1.1 = 9 → fIC σ (A k) 69 = fIC σ0 (A k) 69
/-- what tokens mean: the calls among the first i exps -/
def mnT (z : ZS) (T : Nat → TvT) (r : Nat → Int) : Nat → Nat → Int
  | 0, j => r j
  | i + 1, j => if (xth z i).1.1 = 10 ∧ (xth z i).1.2.2.1.toNat = j then 100 + (T i).2.2.2 else mnT z T r i j
theorem mn_c {z : ZS} {T U : Nat → TvT} {r : Nat → Int} : ∀ {i : Nat}, (∀ k, k < i → T k = U k) → ∀ j, mnT z T r i j = mnT z U r i j := by
  intro i
  induction i with
  | zero => exact fun _ _ => rfl
  | succ i ih =>
    intro h j
    rw [mnT, mnT, h i (by omega), ih (fun k hk => h k (by omega)) j]
/-- the first i exps are judged -/
def JxC (E A V : Nat → Nat) (z : ZS) (σ0 σ : CsC) (T : TbT) (i : Nat) : Prop := JfC E A z σ0 σ ∧ (∀ k, k < xnM z → TwC σ (A k) (T.1 k)) ∧ (∀ k, k < i → ((xth z k).1.1 = 7 ∨ (xth z k).1.1 = 9 → (fIC σ (A k) 69).toInt = (T.1 k).2.2.2) ∧ ((xth z k).1.1 = 10 → (fIC σ (A k) 67).toInt = (T.1 k).2.2.2)) ∧ (∀ v, v < (zVs z.1).length → (fIC σ (V v) 335).toInt = (T.2 v).1 ∧ (¬ (T.2 v).1 = 0 → fLC σ (V v) 336 = (T.2 v).2)) ∧ ∀ j : Nat, (eIC σ (E 303) j).toInt = mnT z T.1 (fun q => (eIC σ0 (E 303) q).toInt) i j
/-- TYPES of exps that have been judged -/
def TyP (z : ZS) (T : TbT) (i : Nat) : Prop := ∀ k, k < i → (xth z k).1.1 ≤ 10 → ¬ (T.1 k).1 = -1
theorem A_in {N : Int → Int} {E A B V : Nat → Nat} {σ : CsC} {z : ZS} (h : ZD N E A B V σ z) {i j : Nat} (hi : i < xnM z) (hj : j < xnM z) (e : A i = A j) : i = j := by
  have a := (h.2.2.2.2.1.1 i hi).1.2.2.2
  have b := (h.2.2.2.2.1.1 j hj).1.2.2.2
  rw [e] at a
  omega
/-- operands: by the pile -/
theorem sk_lt : ∀ {l : List ItZ} {S : List Int}, SkP l S → ∀ q ∈ S, 0 ≤ q ∧ q < (xcZ l : Int) ∧ (xgZ l q.toNat).1.1 ≤ 10 := by
  intro l
  induction l with
  | nil =>
    intro S h q hq
    have h : S = [] := h
    rw [h] at hq
    cases hq
  | cons x l ih =>
    intro S h q hq
    obtain ⟨T, e, h⟩ := h
    have key : ∀ q ∈ T, 0 ≤ q ∧ q < (xcZ l : Int) ∧ (xgZ l q.toNat).1.1 ≤ 10 := fun q hq => ih h q (List.mem_append_right _ hq)
    rw [e] at hq
    cases x with
    | inr y =>
      have hq : q ∈ T := by
        rcases List.mem_append.mp hq with m | m
        · cases m
        · exact m
      exact key q hq
    | inl x =>
      rcases List.mem_append.mp hq with m | m
      · have m : q ∈ (if x.1.1 ≤ 10 then [(xcZ l : Int)] else []) := m
        by_cases c : x.1.1 ≤ 10
        · rw [if_pos c] at m
          have e2 : q = (xcZ l : Int) := List.mem_singleton.mp m
          rw [e2]
          refine ⟨by omega, by show _ < ((xcZ l + 1 : Nat) : Int); omega, ?_⟩
          show (if (xcZ l : Int).toNat = xcZ l then x else _).1.1 ≤ 10
          rw [if_pos (by omega)]
          exact c
        · rw [if_neg c] at m
          cases m
      · obtain ⟨a, b, c⟩ := key q m
        refine ⟨a, by show _ < ((xcZ l + 1 : Nat) : Int); omega, ?_⟩
        show (if q.toNat = xcZ l then x else _).1.1 ≤ 10
        rw [if_neg (by omega)]
        exact c
theorem sk_op : ∀ {l : List ItZ} {S : List Int}, SkP l S → ∀ i, i < xcZ l → ∀ q ∈ opsZ (xgZ l i), 0 ≤ q ∧ q < (i : Int) ∧ (xgZ l q.toNat).1.1 ≤ 10 := by
  intro l
  induction l with
  | nil => intro S h i hi; exact absurd hi (Nat.not_lt_zero _)
  | cons x l ih =>
    intro S h i hi q hq
    obtain ⟨T, e, h⟩ := h
    cases x with
    | inr y => exact ih h i hi q hq
    | inl x =>
      have hi : i < xcZ l + 1 := hi
      by_cases c : i = xcZ l
      · have hq : q ∈ opsZ (if i = xcZ l then x else xgZ l i) := hq
        rw [if_pos c] at hq
        obtain ⟨a, b, d⟩ := sk_lt h q (List.mem_append_left _ hq)
        refine ⟨a, by rw [c]; exact b, ?_⟩
        show (if q.toNat = xcZ l then x else _).1.1 ≤ 10
        rw [if_neg (by omega)]
        exact d
      · have hq : q ∈ opsZ (if i = xcZ l then x else xgZ l i) := hq
        rw [if_neg c] at hq
        obtain ⟨a, b, d⟩ := ih h i (by omega) q hq
        refine ⟨a, b, ?_⟩
        show (if q.toNat = xcZ l then x else _).1.1 ≤ 10
        rw [if_neg (by omega)]
        exact d
/-- an operand of exp i: its object, TYPE .. -/
def OpP (A : Nat → Nat) (z : ZS) (σ : CsC) (T : TbT) (i : Nat) (q : Int) : Prop := (0 ≤ q ∧ q < (i : Int)) ∧ A q.toNat ≠ A i ∧ TwC σ (A q.toNat) (opT T q) ∧ ¬ (opT T q).1 = -1
theorem JxC.op {N : Int → Int} {E A B V : Nat → Nat} {σ0 σ : CsC} {z : ZS} {ms : MfT} {nm : Nat} {T : TbT} {i : Nat} (hS : StC N E A B V σ0 z ms nm) (h : JxC E A V z σ0 σ T i) (hT : TyP z T i) (hi : i < xnM z) {q : Int} (hq : q ∈ opsZ (xth z i)) : OpP A z σ T i q := by
  obtain ⟨a, b, c⟩ := sk_op hS.1.2.1 i hi q hq
  refine ⟨⟨a, b⟩, fun e => ?_, h.2.1 q.toNat (by omega), hT q.toNat (by omega) c⟩
  have := A_in hS.1.1 (by omega) hi e
  omega
theorem JxC.xq {N : Int → Int} {E A B V : Nat → Nat} {σ0 σ : CsC} {z : ZS} {ms : MfT} {nm : Nat} {T : TbT} {i : Nat} (hS : StC N E A B V σ0 z ms nm) (h : JxC E A V z σ0 σ T i) (hi : i < xnM z) : XqC σ (xth z i) (A i) := by
  have hb := (hS.1.1.2.2.2.2.1.1 i hi).1.1
  have hf := h.1
  refine ⟨⟨?_, ?_, ?_⟩, fun hk => ?_, fun hk => ?_⟩
  · rw [(hf.1 (A i) 60 (by decide)).1]; exact hb.1.1
  · rw [(hf.1 (A i) 61 (by decide)).1]; exact hb.1.2.1
  · rw [(hf.1 (A i) 62 (by decide)).1]; exact hb.1.2.2.1
  · rw [hf.2.2.2.2.1 i hi hk]; exact hb.2.1.2.1
  · rw [hf.2.2.2.2.2 i hi (by omega) (by omega)]; exact hb.2.1.2.2
theorem JxC.pj {N : Int → Int} {E A B V : Nat → Nat} {σ0 σ : CsC} {z : ZS} {ms : MfT} {nm : Nat} {T : TbT} {i : Nat} (hS : StC N E A B V σ0 z ms nm) (h : JxC E A V z σ0 σ T i) : PjC E σ := by
  have hp := hS.2.1.1
  have hf := h.1
  refine ⟨?_, ?_, ?_⟩
  · rw [(hf.1 _ 121 (by decide)).2.2]; exact hp.1
  · rw [hf.2.2.2.1]; exact hp.2.1
  · rw [hf.2.2.2.1]; exact hp.2.2
theorem JxC.er {N : Int → Int} {E A B V : Nat → Nat} {σ0 σ : CsC} {z : ZS} {ms : MfT} {nm : Nat} {T : TbT} {i : Nat} (hS : StC N E A B V σ0 z ms nm) (h : JxC E A V z σ0 σ T i) : fIC σ (E 1) 217 = 0 := by
  rw [(h.1.1 (E 1) 217 (by decide)).1]
  exact hS.2.1.2.1
theorem JxC.ma {N : Int → Int} {E A B V : Nat → Nat} {σ0 σ : CsC} {z : ZS} {ms : MfT} {nm : Nat} {T : TbT} {i : Nat} (hS : StC N E A B V σ0 z ms nm) (h : JxC E A V z σ0 σ T i) : MaC E σ ms nm := by
  obtain ⟨⟨⟨h1, h2, h3⟩, h4, h5, h6, h7⟩, hr⟩ := hS.2.2
  have hf := h.1
  refine ⟨⟨by rw [(hf.1 _ 211 (by decide)).2.2]; exact h1, by rw [(hf.1 _ 215 (by decide)).2.2]; exact h2, by rw [(hf.1 _ 216 (by decide)).2.2]; exact h3⟩, h4.cg (hf.1 _ 1 (by decide)).2.2 hf.2.2.1.2.2 (hf.1 _ 2 (by decide)).1 (Nat.le_of_eq hf.2.2.2.1.symm), h5, fun i m hm => ⟨(h6 i m hm).1, ?_⟩, h7⟩
  obtain ⟨g1, g2, g3, r, ⟨g4, g5, g6⟩, g7⟩ := (h6 i m hm).2
  refine ⟨?_, ?_, ?_, r, ⟨by rw [(hf.1 _ 183 (by decide)).2.2]; exact g4, by rw [hf.2.2.2.1]; exact g5, g6⟩, fun j hj => ?_⟩
  · rw [(hf.1 _ 181 (by decide)).2.1]; exact g1
  · rw [(hf.1 _ 182 (by decide)).1]; exact g2
  · rw [(hf.1 _ 185 (by decide)).1]; exact g3
  · rw [hf.2.2.1.1 r (hr i m r hm g4)]; exact g7 j hj
theorem JxC.vp {N : Int → Int} {E A B V : Nat → Nat} {σ0 σ : CsC} {z : ZS} {ms : MfT} {nm : Nat} {T : TbT} {i : Nat} (hS : StC N E A B V σ0 z ms nm) (h : JxC E A V z σ0 σ T i) : VpC E V σ (CzT N z ms) := by
  have hZ := hS.1.1
  have hf := h.1
  refine ⟨⟨by rw [(hf.1 _ 121 (by decide)).2.2]; exact hS.2.1.1.1, by rw [(hf.1 _ 212 (by decide)).2.2]; exact hZ.1.2.1.2.1⟩, (hZ.2.2.2.1.2.2.1).cg (hf.1 _ 1 (by decide)).2.2 hf.2.2.1.2.2 (hf.1 _ 2 (by decide)).1 (Nat.le_of_eq hf.2.2.2.1.symm), fun v hv => ?_⟩
  have q := hZ.2.2.2.2.2.2.1 v hv
  refine ⟨?_, ?_⟩
  · rw [(hf.1 _ 331 (by decide)).1]; exact q.2.1
  · rw [(hf.1 _ 332 (by decide)).1]; exact q.2.2.1
theorem JxC.tn {N : Int → Int} {E A B V : Nat → Nat} {σ0 σ : CsC} {z : ZS} {ms : MfT} {nm : Nat} {T : TbT} {i : Nat} (hS : StC N E A B V σ0 z ms nm) (h : JxC E A V z σ0 σ T i) : TnC E σ ∧ ∀ j : Nat, (eLC σ (E 304) j).toInt = N j := by
  have hf := h.1
  refine ⟨⟨by rw [(hf.1 _ 210 (by decide)).2.2]; exact hS.2.1.2.2.1, by rw [(hf.1 _ 303 (by decide)).2.2]; exact hS.2.1.2.2.2.1, by rw [(hf.1 _ 304 (by decide)).2.2]; exact hS.2.1.2.2.2.2⟩, fun j => ?_⟩
  rw [hf.2.2.1.2.1]
  exact hS.1.1.2.2.1.2 j
theorem JxC.lt {N : Int → Int} {E A B V : Nat → Nat} {σ0 σ : CsC} {z : ZS} {ms : MfT} {nm : Nat} {T : TbT} {i : Nat} (hS : StC N E A B V σ0 z ms nm) (h : JxC E A V z σ0 σ T i) (hi : i < xnM z) : A i < cnC σ := by
  rw [h.1.2.2.2.1]
  exact (hS.1.1.2.2.2.1.1.2 i hi).2
/-- a field that leads to an operand -/
theorem JxC.rf {N : Int → Int} {E A B V : Nat → Nat} {σ0 σ : CsC} {z : ZS} {ms : MfT} {nm : Nat} {T : TbT} {i : Nat} (hS : StC N E A B V σ0 z ms nm) (h : JxC E A V z σ0 σ T i) (hi : i < xnM z) : fRC σ (A i) 72 = opA A (xth z i).2.2.1.2.1 ∧ fRC σ (A i) 73 = opA A (xth z i).2.2.1.2.2.1 ∧ fRC σ (A i) 74 = opA A (xth z i).2.2.1.2.2.2.1 := by
  have hb := (hS.1.1.2.2.2.2.1.1 i hi).1.1
  rw [(h.1.1 _ 72 (by decide)).2.2, (h.1.1 _ 73 (by decide)).2.2, (h.1.1 _ 74 (by decide)).2.2]
  exact ⟨hb.2.2.1, hb.2.2.2.1, hb.2.2.2.2.1⟩
theorem el_sub {M L : List Nat} (h : M.all (fun k => L.elem k) = true) {k : Nat} (hk : L.elem k = false) : M.elem k = false := by
  cases e : M.elem k with
  | false => rfl
  | true =>
    have := List.all_eq_true.mp h k (List.elem_iff.mp e)
    rw [hk] at this
    cases this
/-- one exp is judged -/
theorem JxC.st {N : Int → Int} {E A B V : Nat → Nat} {σ0 σ τ : CsC} {z : ZS} {ms : MfT} {nm : Nat} {T : TbT} {i : Nat} {M : List Nat} {e : TvT} (hS : StC N E A B V σ0 z ms nm) (h : JxC E A V z σ0 σ T i) (hi : i < xnM z) (hM : M.all (fun k => [68, 69, 70, 71].elem k) = true) (h69 : M.elem 69 = true → (xth z i).1.1 = 7 ∨ (xth z i).1.1 = 9) (h10 : ¬ (xth z i).1.1 = 10) (h15 : ¬ (xth z i).1.1 = 15) (x : XuC M σ τ (A i)) (t : TwC τ (A i) e) (hw : (xth z i).1.1 = 7 ∨ (xth z i).1.1 = 9 → (fIC τ (A i) 69).toInt = e.2.2.2) : JxC E A V z σ0 τ (fun k => if k = i then e else T.1 k, vrT (CzT N z ms) T (xth z i)) (i + 1) := by
  obtain ⟨⟨f1, f2, ⟨f3, f4, f5⟩, f6, f7, f8⟩, g1, g2, g3, g4⟩ := h
  have ne : ∀ k, k < xnM z → k ≠ i → A k ≠ A i := fun k hk q e9 => q (A_in hS.1.1 hk hi e9)
  have no : ∀ k, [68, 69, 70, 71].elem k = false → M.elem k = false := fun k hk => el_sub hM hk
  refine ⟨⟨fun a k hk => ?_, ?_, ⟨?_, ?_, ?_⟩, ?_, fun k hk q => ?_, fun k hk q1 q2 => ?_⟩, fun k hk => ?_, fun k hk => ?_, fun v hv => ?_, fun j => ?_⟩
  · have hn : [68, 69, 70, 71].elem k = false := by
      cases e9 : [68, 69, 70, 71].elem k with
      | false => rfl
      | true =>
        have := List.elem_iff.mp e9
        rw [show [67, 68, 69, 70, 71, 335, 336].elem k = true from List.elem_iff.mpr (by simp only [List.mem_cons, List.not_mem_nil, or_false] at this ⊢; omega)] at hk
        cases hk
    have q := x.1 a k (Or.inl (no k hn))
    exact ⟨q.1.trans (f1 a k hk).1, q.2.1.trans (f1 a k hk).2.1, q.2.2.trans (f1 a k hk).2.2⟩
  · trivial
  · intro a ha; rw [x.2.1.1]; exact f3 a ha
  · rw [x.2.1.2.1]; exact f4
  · rw [x.2.1.2.2]; exact f5
  · rw [x.2.2]; exact f6
  · rw [(x.1 (A k) 67 (Or.inl (no 67 (by decide)))).1]; exact f7 k hk q
  · by_cases c : k = i
    · have hm : M.elem 69 = false := by
        cases e9 : M.elem 69 with
        | false => rfl
        | true => rcases h69 e9 with q | q <;> (rw [← c] at q; omega)
      rw [(x.1 (A k) 69 (Or.inl hm)).1]
      exact f8 k hk q1 q2
    · rw [(x.1 (A k) 69 (Or.inr (ne k hk c))).1]
      exact f8 k hk q1 q2
  · dsimp only
    by_cases c : k = i
    · rw [if_pos c, c]; exact t
    · rw [if_neg c]
      exact (g1 k hk).cg (fun j => ⟨(x.1 (A k) j (Or.inr (ne k hk c))).1, (x.1 (A k) j (Or.inr (ne k hk c))).2.1⟩)
  · dsimp only
    by_cases c : k = i
    · rw [if_pos c, c]
      exact ⟨hw, fun q => absurd q h10⟩
    · rw [if_neg c]
      have q := g2 k (by omega)
      have n9 := ne k (by omega) c
      exact ⟨fun q9 => by rw [(x.1 (A k) 69 (Or.inr n9)).1]; exact q.1 q9, fun q9 => by rw [(x.1 (A k) 67 (Or.inr n9)).1]; exact q.2 q9⟩
  · rw [show (vrT (CzT N z ms) T (xth z i)) = T.2 from vr_d h15]
    have q := g3 v hv
    rw [(x.1 (V v) 335 (Or.inl (no 335 (by decide)))).1, (x.1 (V v) 336 (Or.inl (no 336 (by decide)))).2.1]
    exact q
  · rw [x.2.1.1, mnT, if_neg (fun q => h10 q.1)]
    refine (g4 j).trans (mn_c (fun k hk => ?_) j)
    show T.1 k = if k = i then e else T.1 k
    rw [if_neg (by omega)]
/-- nothing is to be judged -/
theorem JxC.no {N : Int → Int} {E A V : Nat → Nat} {σ0 σ τ : CsC} {z : ZS} {ms : MfT} {T : TbT} {i : Nat} (h : JxC E A V z σ0 σ T i) (hk : (xth z i).1.1 = 1 ∨ (11 ≤ (xth z i).1.1 ∧ (xth z i).1.1 ≤ 14) ∨ 15 < (xth z i).1.1 ∨ (xth z i).1.1 < 0) (w : WeC σ τ) : JxC E A V z σ0 τ (fun k => if k = i then T.1 i else T.1 k, vrT (CzT N z ms) T (xth z i)) (i + 1) := by
  have e : (fun k => if k = i then T.1 i else T.1 k) = T.1 := by
    funext k
    by_cases c : k = i
    · rw [if_pos c, c]
    · rw [if_neg c]
  rw [e, vr_d (by omega)]
  have h9 : JxC E A V z σ0 τ T i := by
    unfold JxC JfC TwC
    rw [we_i w, we_l w, we_r w, we_ei w, we_el w, we_er w, we_c w]
    exact h
  obtain ⟨f, g1, g2, g3, g4⟩ := h9
  refine ⟨f, g1, fun k hk' => ?_, g3, fun j => ?_⟩
  · by_cases c : k = i
    · rw [c]
      exact ⟨fun q => by omega, fun q => by omega⟩
    · exact g2 k (by omega)
  · rw [mnT, if_neg (fun q => by omega)]
    exact g4 j
theorem V_in {N : Int → Int} {E A B V : Nat → Nat} {σ : CsC} {z : ZS} (h : ZD N E A B V σ z) {i j : Nat} (hi : i < (zVs z.1).length) (hj : j < (zVs z.1).length) (e : V i = V j) : i = j := by
  have q := h.2.2.2.2.2.2.2.2.2.2
  rcases Nat.lt_trichotomy i j with c | c | c
  · have := q i j c hj; omega
  · exact c
  · have := q j i c hi; omega
/-- a variable's exp -/
theorem JxC.so {N : Int → Int} {E A B V : Nat → Nat} {σ0 σ τ : CsC} {z : ZS} {ms : MfT} {nm : Nat} {T : TbT} {i : Nat} {l : Nat} (hS : StC N E A B V σ0 z ms nm) (h : JxC E A V z σ0 σ T i) (hk : (xth z i).1.1 = 15) (hl : (xth z i).2.1.2.1 = (l : Int)) (hl2 : l < (zVs z.1).length) (x : XuC [335, 336] σ τ (V l)) (t : (fIC τ (V l) 335).toInt = if ¬ (vtT (CzT N z ms) (xth z i).2.1.2.1).2 = 0 ∧ ¬ (opT T (xth z i).2.2.1.2.1).2.1 = 0 then 1 else 0) (u : fLC τ (V l) 336 = (opT T (xth z i).2.2.1.2.1).2.2.1) : JxC E A V z σ0 τ (fun k => if k = i then T.1 i else T.1 k, vrT (CzT N z ms) T (xth z i)) (i + 1) := by
  have e : (fun k => if k = i then T.1 i else T.1 k) = T.1 := by
    funext k
    by_cases c : k = i
    · rw [if_pos c, c]
    · rw [if_neg c]
  rw [e]
  obtain ⟨⟨f1, -, ⟨f3, f4, f5⟩, f6, f7, f8⟩, g1, g2, g3, g4⟩ := h
  refine ⟨⟨fun a k hk' => ?_, trivial, ⟨?_, ?_, ?_⟩, ?_, fun k hk' q => ?_, fun k hk' q1 q2 => ?_⟩, fun k hk' => ?_, fun k hk' => ?_, fun v hv => ?_, fun j => ?_⟩
  · have hn : [335, 336].elem k = false := by
      cases e9 : [335, 336].elem k with
      | false => rfl
      | true =>
        have := List.elem_iff.mp e9
        rw [show [67, 68, 69, 70, 71, 335, 336].elem k = true from List.elem_iff.mpr (by simp only [List.mem_cons, List.not_mem_nil, or_false] at this ⊢; omega)] at hk'
        cases hk'
    have q := x.1 a k (Or.inl hn)
    exact ⟨q.1.trans (f1 a k hk').1, q.2.1.trans (f1 a k hk').2.1, q.2.2.trans (f1 a k hk').2.2⟩
  · intro a ha; rw [x.2.1.1]; exact f3 a ha
  · rw [x.2.1.2.1]; exact f4
  · rw [x.2.1.2.2]; exact f5
  · rw [x.2.2]; exact f6
  · rw [(x.1 (A k) 67 (Or.inl (by decide))).1]; exact f7 k hk' q
  · rw [(x.1 (A k) 69 (Or.inl (by decide))).1]; exact f8 k hk' q1 q2
  · have q := g1 k hk'
    unfold TwC at *
    rw [(x.1 (A k) 68 (Or.inl (by decide))).1, (x.1 (A k) 70 (Or.inl (by decide))).1, (x.1 (A k) 71 (Or.inl (by decide))).2.1]
    exact q
  · by_cases c : k = i
    · rw [c]
      exact ⟨fun q => by omega, fun q => by omega⟩
    · rw [(x.1 (A k) 69 (Or.inl (by decide))).1, (x.1 (A k) 67 (Or.inl (by decide))).1]
      exact g2 k (by omega)
  · show (fIC τ (V v) 335).toInt = (vrT (CzT N z ms) T (xth z i) v).1 ∧ (¬ (vrT (CzT N z ms) T (xth z i) v).1 = 0 → fLC τ (V v) 336 = (vrT (CzT N z ms) T (xth z i) v).2)
    unfold vrT
    rw [if_pos hk]
    try dsimp only
    by_cases c : v = l
    · rw [if_pos (by omega), c]
      exact ⟨t, fun _ => u⟩
    · rw [if_neg (by omega)]
      have n9 : V v ≠ V l := fun q => c (V_in hS.1.1 hv hl2 q)
      rw [(x.1 (V v) 335 (Or.inr n9)).1, (x.1 (V v) 336 (Or.inr n9)).2.1]
      exact g3 v hv
  · rw [x.2.1.1, mnT, if_neg (fun q => by omega)]
    exact g4 j
/-- a call -/
theorem JxC.ca {N : Int → Int} {E A B V : Nat → Nat} {σ0 σ τ : CsC} {z : ZS} {ms : MfT} {nm : Nat} {T : TbT} {i : Nat} {e : TvT} {v : Int32} (hS : StC N E A B V σ0 z ms nm) (h : JxC E A V z σ0 σ T i) (hi : i < xnM z) (hk : (xth z i).1.1 = 10) (x : XwC [67, 68] σ τ (A i) (E 303)) (t : TwC τ (A i) e) (hw : (fIC τ (A i) 67).toInt = e.2.2.2) (hv : v.toInt = 100 + e.2.2.2) (hr : eIC τ (E 303) = upd (eIC σ (E 303)) (xth z i).1.2.2.1.toNat v) : JxC E A V z σ0 τ (fun k => if k = i then e else T.1 k, vrT (CzT N z ms) T (xth z i)) (i + 1) := by
  obtain ⟨⟨f1, -, ⟨f3, f4, f5⟩, f6, f7, f8⟩, g1, g2, g3, g4⟩ := h
  have ne : ∀ k, k < xnM z → k ≠ i → A k ≠ A i := fun k hk q e9 => q (A_in hS.1.1 hk hi e9)
  refine ⟨⟨fun a k hk' => ?_, trivial, ⟨?_, ?_, ?_⟩, ?_, fun k hk' q => ?_, fun k hk' q1 q2 => ?_⟩, fun k hk' => ?_, fun k hk' => ?_, fun w hw' => ?_, fun j => ?_⟩
  · have hn : [67, 68].elem k = false := by
      cases e9 : [67, 68].elem k with
      | false => rfl
      | true =>
        have := List.elem_iff.mp e9
        rw [show [67, 68, 69, 70, 71, 335, 336].elem k = true from List.elem_iff.mpr (by simp only [List.mem_cons, List.not_mem_nil, or_false] at this ⊢; omega)] at hk'
        cases hk'
    have q := x.1 a k (Or.inl hn)
    exact ⟨q.1.trans (f1 a k hk').1, q.2.1.trans (f1 a k hk').2.1, q.2.2.trans (f1 a k hk').2.2⟩
  · intro a ha; rw [x.2.1.1 a ha]; exact f3 a ha
  · rw [x.2.1.2.1]; exact f4
  · rw [x.2.1.2.2]; exact f5
  · rw [x.2.2]; exact f6
  · have c : k ≠ i := fun c => q (by rw [c]; exact hk)
    rw [(x.1 (A k) 67 (Or.inr (ne k hk' c))).1]; exact f7 k hk' q
  · rw [(x.1 (A k) 69 (Or.inl (by decide))).1]; exact f8 k hk' q1 q2
  · dsimp only
    by_cases c : k = i
    · rw [if_pos c, c]; exact t
    · rw [if_neg c]
      exact (g1 k hk').cg (fun j => ⟨(x.1 (A k) j (Or.inr (ne k hk' c))).1, (x.1 (A k) j (Or.inr (ne k hk' c))).2.1⟩)
  · dsimp only
    by_cases c : k = i
    · rw [if_pos c, c]
      exact ⟨fun q => by omega, fun _ => hw⟩
    · rw [if_neg c]
      have q := g2 k (by omega)
      have n9 := ne k (by omega) c
      exact ⟨fun q9 => by rw [(x.1 (A k) 69 (Or.inr n9)).1]; exact q.1 q9, fun q9 => by rw [(x.1 (A k) 67 (Or.inr n9)).1]; exact q.2 q9⟩
  · rw [show (vrT (CzT N z ms) T (xth z i)) = T.2 from vr_d (by omega)]
    rw [(x.1 (V w) 335 (Or.inl (by decide))).1, (x.1 (V w) 336 (Or.inl (by decide))).2.1]
    exact g3 w hw'
  · rw [hr, mnT]
    by_cases c : (xth z i).1.2.2.1.toNat = j
    · rw [if_pos ⟨hk, c⟩, ← c, upd_eq, hv]
      show _ = 100 + (if i = i then e else T.1 i).2.2.2
      rw [if_pos rfl]
    · rw [if_neg (fun q => c q.2), upd_ne (fun q => c q.symm)]
      refine (g4 j).trans (mn_c (fun k hk => ?_) j)
      show T.1 k = if k = i then e else T.1 k
      rw [if_neg (by omega)]
/-- arguments as objects -/
theorem ar_c {A : Nat → Nat} {σ : CsC} : ∀ {l : List Int}, ChC A σ l → ArC σ (match l with
    | [] => none
    | b :: _ => some (A b.toNat)) (l.map (fun q => A q.toNat)) := by
  intro l
  induction l with
  | nil => exact fun _ => rfl
  | cons a l ih =>
    intro h
    refine ⟨rfl, ?_⟩
    rw [h.1]
    exact ih h.2

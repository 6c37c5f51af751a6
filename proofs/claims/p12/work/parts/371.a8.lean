/-! the reference judges calls: the last one that is as narrow as all others is the only one -/
def blT (ms : MfT) (key : Int) (as : List Int) : Nat → Int
  | 0 => -2
  | k + 1 => if taT ms key as k = true ∧ naT ms key as (psT ms k) 12 = true then (k : Int) else blT ms key as k
/-- no two of the same NAME and params -/
def NdT (ms : MfT) : Prop := ∀ i j a b, i < 12 → j < 12 → ms i = some a → ms j = some b → a.1 = b.1 → a.2.2 = b.2.2 → i = j
def okT (ms : MfT) (key : Int) (as : List Int) (i : Nat) : Prop := taT ms key as i = true ∧ naT ms key as (psT ms i) 12 = true
theorem ta_iff {ms : MfT} {key : Int} {as : List Int} {i : Nat} : taT ms key as i = true ↔ ∃ e, ms i = some e ∧ e.1 = key ∧ tkT as e.2.2 = true := by
  unfold taT
  cases h : ms i with
  | none => exact ⟨fun q => absurd q (by simp), fun ⟨e, q, _⟩ => absurd q (by simp)⟩
  | some m =>
    dsimp only
    rw [Bool.and_eq_true, decide_eq_true_eq]
    exact ⟨fun q => ⟨m, rfl, q⟩, fun ⟨e, q, r⟩ => by cases q; exact r⟩
theorem ps_e {ms : MfT} {i : Nat} {e : MtT} (h : ms i = some e) : psT ms i = e.2.2 := by
  unfold psT
  rw [h]
theorem na_sx {ms : MfT} {key : Int} {as ps : List Int} {j : Nat} : naT ms key as ps (j + 1) = true ↔ (naT ms key as ps j = true ∧ (taT ms key as j = true → tkT ps (psT ms j) = true)) := by
  rw [naT, Bool.and_eq_true]
  have e : (match ms j with | some n => !(taT ms key as j) || tkT ps n.2.2 | none => true) = true ↔ (taT ms key as j = true → tkT ps (psT ms j) = true) := by
    cases h : ms j with
    | none => exact ⟨fun _ q => (by obtain ⟨e, q, _⟩ := ta_iff.mp q; rw [h] at q; exact absurd q (by simp)), fun _ => rfl⟩
    | some n =>
      dsimp only
      rw [ps_e h, Bool.or_eq_true]
      cases taT ms key as j with
      | true => exact ⟨fun q _ => q.resolve_left (by decide), fun q => Or.inr (q rfl)⟩
      | false => exact ⟨fun _ q => absurd q (by decide), fun _ => Or.inl rfl⟩
  exact and_congr Iff.rfl e
theorem na_a {ms : MfT} {key : Int} {as ps : List Int} : ∀ {k : Nat}, naT ms key as ps k = true → ∀ o, o < k → taT ms key as o = true → tkT ps (psT ms o) = true := by
  intro k
  induction k with
  | zero => intro _ o ho; omega
  | succ k ih =>
    intro h o ho ht
    have q := na_sx.mp h
    by_cases e : o = k
    · rw [e] at ht ⊢
      exact q.2 ht
    · exact ih q.1 o (by omega) ht
theorem tk_rf : ∀ ps : List Int, tkT ps ps = true := by
  intro ps
  exact tk_iff.mpr ⟨rfl, fun j _ => Or.inl rfl⟩
theorem tk_as : ∀ {p q : List Int}, tkT p q = true → tkT q p = true → p = q := by
  intro p
  induction p with
  | nil => intro q h g; cases q with
    | nil => rfl
    | cons b m => exact absurd h (by simp [tkT])
  | cons a l ih => intro q h g; cases q with
    | nil => exact absurd h (by simp [tkT])
    | cons b m =>
      rw [tkT, Bool.and_eq_true, decide_eq_true_eq] at h g
      rw [ih h.2 g.2, show a = b by have := h.1; have := g.1; omega]
theorem ok_un {ms : MfT} {key : Int} {as : List Int} {i j : Nat} (hn : NdT ms) (hi : i < 12) (hj : j < 12) (a : okT ms key as i) (b : okT ms key as j) : i = j := by
  obtain ⟨e, e1, e2, e3⟩ := ta_iff.mp a.1
  obtain ⟨f, f1, f2, f3⟩ := ta_iff.mp b.1
  have p := na_a a.2 j hj b.1
  have q := na_a b.2 i hi a.1
  rw [ps_e e1, ps_e f1] at p q
  exact hn i j e f hi hj e1 f1 (e2.trans f2.symm) (tk_as p q)
theorem bl_ok {ms : MfT} {key : Int} {as : List Int} : ∀ k : Nat, (0 ≤ blT ms key as k ∧ blT ms key as k < (k : Int) ∧ okT ms key as (blT ms key as k).toNat) ∨ (blT ms key as k = -2 ∧ ∀ i, i < k → ¬ okT ms key as i) := by
  intro k
  induction k with
  | zero => exact Or.inr ⟨rfl, fun i hi => absurd hi (Nat.not_lt_zero _)⟩
  | succ k ih =>
    rw [blT]
    by_cases h : taT ms key as k = true ∧ naT ms key as (psT ms k) 12 = true
    · rw [if_pos h]
      exact Or.inl ⟨by omega, by omega, h⟩
    · rw [if_neg h]
      rcases ih with q | q
      · exact Or.inl ⟨q.1, by omega, q.2.2⟩
      · refine Or.inr ⟨q.1, fun i hi => ?_⟩
        by_cases e : i = k
        · rw [e]; exact h
        · exact q.2 i (by omega)
theorem bs_ok {ms : MfT} {key : Int} {as : List Int} : ∀ k : Nat, k ≤ 12 → (0 ≤ bsT ms key as k ∧ bsT ms key as k < 12 ∧ okT ms key as (bsT ms key as k).toNat) ∨ (bsT ms key as k = -1 ∧ ∀ j, j < k → ¬ okT ms key as (odT (11 - j))) := by
  intro k
  induction k with
  | zero => intro _; exact Or.inr ⟨rfl, fun i hi => absurd hi (Nat.not_lt_zero _)⟩
  | succ k ih =>
    intro hk
    rw [bsT]
    by_cases h : taT ms key as (odT (11 - k)) = true ∧ naT ms key as (psT ms (odT (11 - k))) 12 = true
    · rw [if_pos h]
      exact Or.inl ⟨by omega, by unfold odT; omega, h⟩
    · rw [if_neg h]
      rcases ih (by omega) with q | q
      · exact Or.inl q
      · refine Or.inr ⟨q.1, fun i hi => ?_⟩
        by_cases e : i = k
        · rw [e]; exact h
        · exact q.2 i (by omega)
theorem bl_bs {ms : MfT} {key : Int} {as : List Int} (hn : NdT ms) : (0 ≤ blT ms key as 12 ∧ bsT ms key as 12 = blT ms key as 12) ∨ (blT ms key as 12 < 0 ∧ bsT ms key as 12 < 0) := by
  rcases bl_ok (ms := ms) (key := key) (as := as) 12 with ⟨a0, a1, a2⟩ | ⟨a0, a1⟩
  · rcases bs_ok (ms := ms) (key := key) (as := as) 12 (Nat.le_refl _) with ⟨b0, b1, b2⟩ | ⟨b0, b1⟩
    · have e := ok_un hn (by omega) (by omega) a2 b2
      exact Or.inl ⟨a0, by omega⟩
    · exfalso
      have h := b1 (11 - ((blT ms key as 12).toNat + 2) % 12) (by omega)
      rw [show odT (11 - (11 - ((blT ms key as 12).toNat + 2) % 12)) = (blT ms key as 12).toNat by unfold odT; omega] at h
      exact h a2
  · rcases bs_ok (ms := ms) (key := key) (as := as) 12 (Nat.le_refl _) with ⟨b0, b1, b2⟩ | ⟨b0, b1⟩
    · exact absurd b2 (a1 _ (by omega))
    · exact Or.inr ⟨by omega, by omega⟩
/-- methods as token t sees them -/
def MsR (σ : RS) (t : Int32) (key : Int) (ms : MfT) : Prop := ∀ m : Int32, 0 ≤ m.toInt → m.toInt < 12 → ((m.toInt < (gI σ 36).toInt ∨ 10 ≤ m.toInt) ↔ ∃ e, ms m.toInt.toNat = some e) ∧ ∀ e, ms m.toInt.toNat = some e → (nmR σ m t.toNatClampNeg ↔ e.1 = key) ∧ MpR σ m e.2.2 ∧ (if m = 10 then (5 : Int32) else if m = 11 then 3 else aI σ 38 m.toNatClampNeg).toInt = e.2.1
theorem gd_mem {as : List Int} {k : Nat} (h : k < as.length) : as.getD k 0 ∈ as := by
  rw [List.getD_eq_getElem?_getD, List.getElem?_eq_getElem h]
  exact List.getElem_mem h
def Pv_callA : UP1 := fun A1 σ => match A1 with
  | [.int c, .int t] => ¬ gI σ 66 = 0
  | _ => False
def Qv_callA : UQ1 := fun A1 σ w τ => match A1 with
  | [.int c, .int t] => w = none ∧ ¬ gI τ 66 = 0
  | _ => False
def Qw_callA : UQ1 := fun A1 σ w τ => Pv_callA A1 σ → Qv_callA A1 σ w τ
set_option maxRecDepth 100000 in
set_option maxHeartbeats 4000000 in
theorem v_callA : UMet 104 (Pv_callA) (Qv_callA) := by
  refine UMet.by Bcall [(70, (fun _ _ => True), Qw_err), (102, (fun _ _ => True), Qw_isCloser), (103, (fun _ _ => True), Qw_isMethod), (86, (fun _ _ => True), Qw_isNamed), (77, (fun _ _ => True), Qw_lie), (78, (fun _ _ => True), Qw_none), (85, (fun _ _ => True), Qw_resultOf), (101, (fun _ _ => True), Qw_takes)] rfl (ucc w_err (ucc w_isCloser (ucc w_isMethod (ucc w_isNamed (ucc w_lie (ucc w_none (ucc w_resultOf (ucc w_takes uc0)))))))) ?_
  intro A1 σ hP K hB hW
  unfold Pv_callA at hP
  split at hP
  next c t =>
    have all : ∀ N : Nat, (∀ (x1 : Int32) (x2 : Int32) (Y : RS), ¬ gI Y 66 = 0 → K N 0 [(0, .ref 1000), (1, .int x1), (2, .int x2)] [] Y) ∧ (∀ (x1 : Int32) (x2 : Int32) (x3 : Int32) (x4 : Int32) (x5 : Int32) (x6 : Int32) (Y : RS), ¬ gI Y 66 = 0 → K N 29 [(0, .ref 1000), (1, .int x1), (2, .int x2), (3, .int x3), (4, .int x4), (5, .int x5), (6, .int x6)] [] Y) ∧ (∀ (x1 : Int32) (x2 : Int32) (x3 : Int32) (x4 : Int32) (x5 : Int32) (x6 : Int32) (Y : RS), ¬ gI Y 66 = 0 → K N 35 [(0, .ref 1000), (1, .int x1), (2, .int x2), (3, .int x3), (4, .int x4), (5, .int x5), (6, .int x6)] [] Y) ∧ (∀ (x1 : Int32) (x2 : Int32) (x3 : Int32) (x4 : Int32) (x5 : Int32) (x6 : Int32) (Y : RS), ¬ gI Y 66 = 0 → K N 49 [(0, .ref 1000), (1, .int x1), (2, .int x2), (3, .int x3), (4, .int x4), (5, .int x5), (6, .int x6)] [] Y) ∧ (∀ (x1 : Int32) (x2 : Int32) (x3 : Int32) (x4 : Int32) (x5 : Int32) (x6 : Int32) (Y : RS), ¬ gI Y 66 = 0 → K N 64 [(0, .ref 1000), (1, .int x1), (2, .int x2), (3, .int x3), (4, .int x4), (5, .int x5), (6, .int x6)] [] Y) ∧ (∀ (x1 : Int32) (x2 : Int32) (x3 : Int32) (x4 : Int32) (x5 : Int32) (x6 : Int32) (Y : RS), ¬ gI Y 66 = 0 → K N 69 [(0, .ref 1000), (1, .int x1), (2, .int x2), (3, .int x3), (4, .int x4), (5, .int x5), (6, .int x6)] [] Y) ∧ (∀ (x1 : Int32) (x2 : Int32) (x3 : Int32) (x4 : Int32) (x5 : Int32) (x6 : Int32) (Y : RS), ¬ gI Y 66 = 0 → K N 82 [(0, .ref 1000), (1, .int x1), (2, .int x2), (3, .int x3), (4, .int x4), (5, .int x5), (6, .int x6)] [] Y) ∧ (∀ (x1 : Int32) (x2 : Int32) (x3 : Int32) (x4 : Int32) (x5 : Int32) (x6 : Int32) (Y : RS), ¬ gI Y 66 = 0 → K N 96 [(0, .ref 1000), (1, .int x1), (2, .int x2), (3, .int x3), (4, .int x4), (5, .int x5), (6, .int x6)] [] Y) ∧ (∀ (x1 : Int32) (x2 : Int32) (x3 : Int32) (x4 : Int32) (x5 : Int32) (x6 : Int32) (Y : RS), ¬ gI Y 66 = 0 → K N 100 [(0, .ref 1000), (1, .int x1), (2, .int x2), (3, .int x3), (4, .int x4), (5, .int x5), (6, .int x6)] [] Y) ∧ (∀ (x1 : Int32) (x2 : Int32) (x3 : Int32) (x4 : Int32) (x5 : Int32) (x6 : Int32) (s0 : Int32) (Y : RS), ¬ gI Y 66 = 0 → K N 101 [(0, .ref 1000), (1, .int x1), (2, .int x2), (3, .int x3), (4, .int x4), (5, .int x5), (6, .int x6)] [.int s0] Y) ∧ (∀ (x1 : Int32) (x2 : Int32) (x3 : Int32) (x4 : Int32) (x5 : Int32) (x6 : Int32) (Y : RS), ¬ gI Y 66 = 0 → K N 109 [(0, .ref 1000), (1, .int x1), (2, .int x2), (3, .int x3), (4, .int x4), (5, .int x5), (6, .int x6)] [] Y) ∧ (∀ (x1 : Int32) (x2 : Int32) (x3 : Int32) (x4 : Int32) (x5 : Int32) (x6 : Int32) (Y : RS), ¬ gI Y 66 = 0 → K N 122 [(0, .ref 1000), (1, .int x1), (2, .int x2), (3, .int x3), (4, .int x4), (5, .int x5), (6, .int x6)] [] Y) ∧ (∀ (x1 : Int32) (x2 : Int32) (x3 : Int32) (x4 : Int32) (x5 : Int32) (x6 : Int32) (Y : RS), ¬ gI Y 66 = 0 → K N 128 [(0, .ref 1000), (1, .int x1), (2, .int x2), (3, .int x3), (4, .int x4), (5, .int x5), (6, .int x6)] [] Y) ∧ (∀ (x1 : Int32) (x2 : Int32) (x3 : Int32) (x4 : Int32) (x5 : Int32) (x6 : Int32) (x7 : Int32) (Y : RS), ¬ gI Y 66 = 0 → K N 135 [(0, .ref 1000), (1, .int x1), (2, .int x2), (3, .int x3), (4, .int x4), (5, .int x5), (6, .int x6), (7, .int x7)] [] Y) ∧ (∀ (x1 : Int32) (x2 : Int32) (x3 : Int32) (x4 : Int32) (x5 : Int32) (x6 : Int32) (x7 : Int32) (Y : RS), ¬ gI Y 66 = 0 → K N 142 [(0, .ref 1000), (1, .int x1), (2, .int x2), (3, .int x3), (4, .int x4), (5, .int x5), (6, .int x6), (7, .int x7)] [] Y) ∧ (∀ (x1 : Int32) (x2 : Int32) (x3 : Int32) (x4 : Int32) (x5 : Int32) (x6 : Int32) (x7 : Int32) (Y : RS), ¬ gI Y 66 = 0 → K N 151 [(0, .ref 1000), (1, .int x1), (2, .int x2), (3, .int x3), (4, .int x4), (5, .int x5), (6, .int x6), (7, .int x7)] [] Y) ∧ (∀ (x1 : Int32) (x2 : Int32) (x3 : Int32) (x4 : Int32) (x5 : Int32) (x6 : Int32) (x7 : Int32) (Y : RS), ¬ gI Y 66 = 0 → K N 161 [(0, .ref 1000), (1, .int x1), (2, .int x2), (3, .int x3), (4, .int x4), (5, .int x5), (6, .int x6), (7, .int x7)] [] Y) ∧ (∀ (x1 : Int32) (x2 : Int32) (x3 : Int32) (x4 : Int32) (x5 : Int32) (x6 : Int32) (x7 : Int32) (Y : RS), ¬ gI Y 66 = 0 → K N 173 [(0, .ref 1000), (1, .int x1), (2, .int x2), (3, .int x3), (4, .int x4), (5, .int x5), (6, .int x6), (7, .int x7)] [] Y) ∧ (∀ (x1 : Int32) (x2 : Int32) (x3 : Int32) (x4 : Int32) (x5 : Int32) (x6 : Int32) (x7 : Int32) (Y : RS), ¬ gI Y 66 = 0 → K N 176 [(0, .ref 1000), (1, .int x1), (2, .int x2), (3, .int x3), (4, .int x4), (5, .int x5), (6, .int x6), (7, .int x7)] [] Y) ∧ (∀ (x1 : Int32) (x2 : Int32) (x3 : Int32) (x4 : Int32) (x5 : Int32) (x6 : Int32) (x7 : Int32) (x8 : Int32) (x9 : Int32) (Y : RS), ¬ gI Y 66 = 0 → K N 182 [(0, .ref 1000), (1, .int x1), (2, .int x2), (3, .int x3), (4, .int x4), (5, .int x5), (6, .int x6), (7, .int x7), (8, .int x8), (9, .int x9)] [] Y) ∧ (∀ (x1 : Int32) (x2 : Int32) (x3 : Int32) (x4 : Int32) (x5 : Int32) (x6 : Int32) (x7 : Int32) (x8 : Int32) (x9 : Int32) (Y : RS), ¬ gI Y 66 = 0 → K N 189 [(0, .ref 1000), (1, .int x1), (2, .int x2), (3, .int x3), (4, .int x4), (5, .int x5), (6, .int x6), (7, .int x7), (8, .int x8), (9, .int x9)] [] Y) ∧ (∀ (x1 : Int32) (x2 : Int32) (x3 : Int32) (x4 : Int32) (x5 : Int32) (x6 : Int32) (x7 : Int32) (x8 : Int32) (x9 : Int32) (Y : RS), ¬ gI Y 66 = 0 → K N 196 [(0, .ref 1000), (1, .int x1), (2, .int x2), (3, .int x3), (4, .int x4), (5, .int x5), (6, .int x6), (7, .int x7), (8, .int x8), (9, .int x9)] [] Y) ∧ (∀ (x1 : Int32) (x2 : Int32) (x3 : Int32) (x4 : Int32) (x5 : Int32) (x6 : Int32) (x7 : Int32) (x8 : Int32) (x9 : Int32) (Y : RS), ¬ gI Y 66 = 0 → K N 205 [(0, .ref 1000), (1, .int x1), (2, .int x2), (3, .int x3), (4, .int x4), (5, .int x5), (6, .int x6), (7, .int x7), (8, .int x8), (9, .int x9)] [] Y) ∧ (∀ (x1 : Int32) (x2 : Int32) (x3 : Int32) (x4 : Int32) (x5 : Int32) (x6 : Int32) (x7 : Int32) (x8 : Int32) (x9 : Int32) (Y : RS), ¬ gI Y 66 = 0 → K N 215 [(0, .ref 1000), (1, .int x1), (2, .int x2), (3, .int x3), (4, .int x4), (5, .int x5), (6, .int x6), (7, .int x7), (8, .int x8), (9, .int x9)] [] Y) ∧ (∀ (x1 : Int32) (x2 : Int32) (x3 : Int32) (x4 : Int32) (x5 : Int32) (x6 : Int32) (x7 : Int32) (x8 : Int32) (x9 : Int32) (Y : RS), ¬ gI Y 66 = 0 → K N 227 [(0, .ref 1000), (1, .int x1), (2, .int x2), (3, .int x3), (4, .int x4), (5, .int x5), (6, .int x6), (7, .int x7), (8, .int x8), (9, .int x9)] [] Y) ∧ (∀ (x1 : Int32) (x2 : Int32) (x3 : Int32) (x4 : Int32) (x5 : Int32) (x6 : Int32) (x7 : Int32) (x8 : Int32) (x9 : Int32) (Y : RS), ¬ gI Y 66 = 0 → K N 232 [(0, .ref 1000), (1, .int x1), (2, .int x2), (3, .int x3), (4, .int x4), (5, .int x5), (6, .int x6), (7, .int x7), (8, .int x8), (9, .int x9)] [] Y) ∧ (∀ (x1 : Int32) (x2 : Int32) (x3 : Int32) (x4 : Int32) (x5 : Int32) (x6 : Int32) (x7 : Int32) (x8 : Int32) (x9 : Int32) (Y : RS), ¬ gI Y 66 = 0 → K N 243 [(0, .ref 1000), (1, .int x1), (2, .int x2), (3, .int x3), (4, .int x4), (5, .int x5), (6, .int x6), (7, .int x7), (8, .int x8), (9, .int x9)] [] Y) ∧ (∀ (x1 : Int32) (x2 : Int32) (x3 : Int32) (x4 : Int32) (x5 : Int32) (x6 : Int32) (x7 : Int32) (x8 : Int32) (x9 : Int32) (Y : RS), ¬ gI Y 66 = 0 → K N 247 [(0, .ref 1000), (1, .int x1), (2, .int x2), (3, .int x3), (4, .int x4), (5, .int x5), (6, .int x6), (7, .int x7), (8, .int x8), (9, .int x9)] [] Y) ∧ (∀ (x1 : Int32) (x2 : Int32) (x3 : Int32) (x4 : Int32) (x5 : Int32) (x6 : Int32) (x7 : Int32) (x8 : Int32) (x9 : Int32) (s0 : Int32) (Y : RS), ¬ gI Y 66 = 0 → K N 248 [(0, .ref 1000), (1, .int x1), (2, .int x2), (3, .int x3), (4, .int x4), (5, .int x5), (6, .int x6), (7, .int x7), (8, .int x8), (9, .int x9)] [.int s0] Y) ∧ (∀ (x1 : Int32) (x2 : Int32) (x3 : Int32) (x4 : Int32) (x5 : Int32) (x6 : Int32) (x7 : Int32) (x8 : Int32) (x9 : Int32) (Y : RS), ¬ gI Y 66 = 0 → K N 250 [(0, .ref 1000), (1, .int x1), (2, .int x2), (3, .int x3), (4, .int x4), (5, .int x5), (6, .int x6), (7, .int x7), (8, .int x8), (9, .int x9)] [] Y) ∧ (∀ (x1 : Int32) (x2 : Int32) (x3 : Int32) (x4 : Int32) (x5 : Int32) (x6 : Int32) (x7 : Int32) (x8 : Int32) (x9 : Int32) (Y : RS), ¬ gI Y 66 = 0 → K N 256 [(0, .ref 1000), (1, .int x1), (2, .int x2), (3, .int x3), (4, .int x4), (5, .int x5), (6, .int x6), (7, .int x7), (8, .int x8), (9, .int x9)] [] Y) ∧ (∀ (x1 : Int32) (x2 : Int32) (x3 : Int32) (x4 : Int32) (x5 : Int32) (x6 : Int32) (x7 : Int32) (x8 : Int32) (x9 : Int32) (Y : RS), ¬ gI Y 66 = 0 → K N 261 [(0, .ref 1000), (1, .int x1), (2, .int x2), (3, .int x3), (4, .int x4), (5, .int x5), (6, .int x6), (7, .int x7), (8, .int x8), (9, .int x9)] [] Y) ∧ (∀ (x1 : Int32) (x2 : Int32) (x3 : Int32) (x4 : Int32) (x5 : Int32) (x6 : Int32) (x7 : Int32) (Y : RS), ¬ gI Y 66 = 0 → K N 265 [(0, .ref 1000), (1, .int x1), (2, .int x2), (3, .int x3), (4, .int x4), (5, .int x5), (6, .int x6), (7, .int x7)] [] Y) ∧ (∀ (x1 : Int32) (x2 : Int32) (x3 : Int32) (x4 : Int32) (x5 : Int32) (x6 : Int32) (x7 : Int32) (Y : RS), ¬ gI Y 66 = 0 → K N 271 [(0, .ref 1000), (1, .int x1), (2, .int x2), (3, .int x3), (4, .int x4), (5, .int x5), (6, .int x6), (7, .int x7)] [] Y) ∧ (∀ (x1 : Int32) (x2 : Int32) (x3 : Int32) (x4 : Int32) (x5 : Int32) (x6 : Int32) (x7 : Int32) (Y : RS), ¬ gI Y 66 = 0 → K N 276 [(0, .ref 1000), (1, .int x1), (2, .int x2), (3, .int x3), (4, .int x4), (5, .int x5), (6, .int x6), (7, .int x7)] [] Y) ∧ (∀ (x1 : Int32) (x2 : Int32) (x3 : Int32) (x4 : Int32) (x5 : Int32) (x6 : Int32) (x7 : Int32) (Y : RS), ¬ gI Y 66 = 0 → K N 289 [(0, .ref 1000), (1, .int x1), (2, .int x2), (3, .int x3), (4, .int x4), (5, .int x5), (6, .int x6), (7, .int x7)] [] Y) := by
      intro N
      induction N using Nat.strongRecOn with
      | ind N ih =>
        refine ⟨?_, ?_, ?_, ?_, ?_, ?_, ?_, ?_, ?_, ?_, ?_, ?_, ?_, ?_, ?_, ?_, ?_, ?_, ?_, ?_, ?_, ?_, ?_, ?_, ?_, ?_, ?_, ?_, ?_, ?_, ?_, ?_, ?_, ?_, ?_, ?_⟩
        · intro x1 x2 Y hz
          refine hB _ _ _ _ _ (fun m1 hm1 => ?_)
          dsimp only [ugo, uwp, ust, uct, rfd, Bcall, Bcall_0, Nat.beq, lv_args, rlk, rs1, rs2, rdl, rky, rcd, rno, rsw, Value.category, List.filter, List.take, List.drop, List.reverse, List.reverseAux, List.cons_append, List.nil_append, Option.toList, Int.toNat, Int.reduceToNat, if_pos, if_neg, reduceIte, ↓reduceIte, Nat.reduceAdd, Nat.reduceEqDiff, Nat.reduceBEq, beq_self_eq_true, Bool.not_true, Bool.not_false, Bool.and_true, Bool.and_false, Bool.true_and, Bool.false_and, gI_sI, gI_sL, gI_sA, gI_sM, gL_sI, gL_sL, gL_sA, gL_sM, aI_sI, aI_sL, aI_sA, aI_sM, aL_sI, aL_sL, aL_sA, aL_sM, oi_0, oi_1]; try dsimp only
          intro p2
          exact hW _ 29 [(0, .ref 1000), (1, .int x1), (2, .int x2), (3, .int ((aI Y 20) (x1).toNatClampNeg)), (4, .int ((gI Y 69) - ((aI Y 20) (x1).toNatClampNeg))), (5, .int 1), (6, .int 0)] _ _ _ (by simp [rdl, rky, Value.category]) ((ih m1 hm1).2.1 x1 x2 ((aI Y 20) (x1).toNatClampNeg) ((gI Y 69) - ((aI Y 20) (x1).toNatClampNeg)) 1 0 _ hz)
        · intro x1 x2 x3 x4 x5 x6 Y hz
          refine hB _ _ _ _ _ (fun m1 hm1 => ?_)
          dsimp only [ugo, uwp, ust, uct, rfd, Bcall, Bcall_29, Nat.beq, lv_args, rlk, rs1, rs2, rdl, rky, rcd, rno, rsw, Value.category, List.filter, List.take, List.drop, List.reverse, List.reverseAux, List.cons_append, List.nil_append, Option.toList, Int.toNat, Int.reduceToNat, if_pos, if_neg, reduceIte, ↓reduceIte, Nat.reduceAdd, Nat.reduceEqDiff, Nat.reduceBEq, beq_self_eq_true, Bool.not_true, Bool.not_false, Bool.and_true, Bool.and_false, Bool.true_and, Bool.false_and, gI_sI, gI_sL, gI_sA, gI_sM, gL_sI, gL_sL, gL_sA, gL_sM, aI_sI, aI_sL, aI_sA, aI_sM, aL_sI, aL_sL, aL_sA, aL_sM]; try dsimp only
          refine ⟨fun h2 => ?_, fun h2 => ?_⟩
          · exact hW _ 109 [(0, .ref 1000), (1, .int x1), (2, .int x2), (3, .int x3), (4, .int x4), (5, .int x5), (6, .int x6)] _ _ _ (by simp [rdl, rky, Value.category]) ((ih m1 hm1).2.2.2.2.2.2.2.2.2.2.1 x1 x2 x3 x4 x5 x6 _ hz)
          · exact hW _ 35 [(0, .ref 1000), (1, .int x1), (2, .int x2), (3, .int x3), (4, .int x4), (5, .int x5), (6, .int x6)] _ _ _ (by simp [rdl, rky, Value.category]) ((ih m1 hm1).2.2.1 x1 x2 x3 x4 x5 x6 _ hz)
        · intro x1 x2 x3 x4 x5 x6 Y hz
          refine hB _ _ _ _ _ (fun m1 hm1 => ?_)
          dsimp only [ugo, uwp, ust, uct, rfd, Bcall, Bcall_35, Nat.beq, lv_args, rlk, rs1, rs2, rdl, rky, rcd, rno, rsw, Value.category, List.filter, List.take, List.drop, List.reverse, List.reverseAux, List.cons_append, List.nil_append, Option.toList, Int.toNat, Int.reduceToNat, if_pos, if_neg, reduceIte, ↓reduceIte, Nat.reduceAdd, Nat.reduceEqDiff, Nat.reduceBEq, beq_self_eq_true, Bool.not_true, Bool.not_false, Bool.and_true, Bool.and_false, Bool.true_and, Bool.false_and, gI_sI, gI_sL, gI_sA, gI_sM, gL_sI, gL_sL, gL_sA, gL_sM, aI_sI, aI_sL, aI_sA, aI_sM, aL_sI, aL_sL, aL_sA, aL_sM, oi_5]; try dsimp only
          intro p2
          refine ⟨fun h3 => ?_, fun h3 => ?_⟩
          · exact hW _ 64 [(0, .ref 1000), (1, .int x1), (2, .int x2), (3, .int x3), (4, .int x4), (5, .int x5), (6, .int x6)] _ _ _ (by simp [rdl, rky, Value.category]) ((ih m1 hm1).2.2.2.2.1 x1 x2 x3 x4 x5 x6 _ hz)
          · exact hW _ 49 [(0, .ref 1000), (1, .int x1), (2, .int x2), (3, .int x3), (4, .int x4), (5, .int x5), (6, .int x6)] _ _ _ (by simp [rdl, rky, Value.category]) ((ih m1 hm1).2.2.2.1 x1 x2 x3 x4 x5 x6 _ hz)
        · intro x1 x2 x3 x4 x5 x6 Y hz
          refine hB _ _ _ _ _ (fun m1 hm1 => ?_)
          dsimp only [ugo, uwp, ust, uct, rfd, Bcall, Bcall_49, Nat.beq, lv_args, rlk, rs1, rs2, rdl, rky, rcd, rno, rsw, Value.category, List.filter, List.take, List.drop, List.reverse, List.reverseAux, List.cons_append, List.nil_append, Option.toList, Int.toNat, Int.reduceToNat, if_pos, if_neg, reduceIte, ↓reduceIte, Nat.reduceAdd, Nat.reduceEqDiff, Nat.reduceBEq, beq_self_eq_true, Bool.not_true, Bool.not_false, Bool.and_true, Bool.and_false, Bool.true_and, Bool.false_and, gI_sI, gI_sL, gI_sA, gI_sM, gL_sI, gL_sL, gL_sA, gL_sM, aI_sI, aI_sL, aI_sA, aI_sM, aL_sI, aL_sL, aL_sA, aL_sM, oi_5]; try dsimp only
          intro p2
          refine ⟨trivial, fun w3 τ3 hq3 => ?_⟩
          obtain ⟨rfl, hz3⟩ := hq3 (show ¬ (5 : Int32) = 0 by decide)
          dsimp only [Option.toList, List.cons_append, List.nil_append, Nat.beq, gI_sI, gI_sL, gI_sA, gI_sM, gL_sI, gL_sL, gL_sA, gL_sM, aI_sI, aI_sL, aI_sA, aI_sM, aL_sI, aL_sL, aL_sA, aL_sM]
          exact hW _ 64 [(0, .ref 1000), (1, .int x1), (2, .int x2), (3, .int x3), (4, .int x4), (5, .int x5), (6, .int x6)] _ _ _ (by simp [rdl, rky, Value.category]) ((ih m1 hm1).2.2.2.2.1 x1 x2 x3 x4 x5 x6 _ hz3)
        · intro x1 x2 x3 x4 x5 x6 Y hz
          refine hB _ _ _ _ _ (fun m1 hm1 => ?_)
          dsimp only [ugo, uwp, ust, uct, rfd, Bcall, Bcall_64, Nat.beq, lv_args, rlk, rs1, rs2, rdl, rky, rcd, rno, rsw, Value.category, List.filter, List.take, List.drop, List.reverse, List.reverseAux, List.cons_append, List.nil_append, Option.toList, Int.toNat, Int.reduceToNat, if_pos, if_neg, reduceIte, ↓reduceIte, Nat.reduceAdd, Nat.reduceEqDiff, Nat.reduceBEq, beq_self_eq_true, Bool.not_true, Bool.not_false, Bool.and_true, Bool.and_false, Bool.true_and, Bool.false_and, gI_sI, gI_sL, gI_sA, gI_sM, gL_sI, gL_sL, gL_sA, gL_sM, aI_sI, aI_sL, aI_sA, aI_sM, aL_sI, aL_sL, aL_sA, aL_sM]; try dsimp only
          refine ⟨fun h2 => ?_, fun h2 => ?_⟩
          · exact hW _ 100 [(0, .ref 1000), (1, .int x1), (2, .int x2), (3, .int x3), (4, .int x4), (5, .int x5), (6, .int x6)] _ _ _ (by simp [rdl, rky, Value.category]) ((ih m1 hm1).2.2.2.2.2.2.2.2.1 x1 x2 x3 x4 x5 x6 _ hz)
          · exact hW _ 69 [(0, .ref 1000), (1, .int x1), (2, .int x2), (3, .int x3), (4, .int x4), (5, .int x5), (6, .int x6)] _ _ _ (by simp [rdl, rky, Value.category]) ((ih m1 hm1).2.2.2.2.2.1 x1 x2 x3 x4 x5 x6 _ hz)
        · intro x1 x2 x3 x4 x5 x6 Y hz
          refine hB _ _ _ _ _ (fun m1 hm1 => ?_)
          dsimp only [ugo, uwp, ust, uct, rfd, Bcall, Bcall_69, Nat.beq, lv_args, rlk, rs1, rs2, rdl, rky, rcd, rno, rsw, Value.category, List.filter, List.take, List.drop, List.reverse, List.reverseAux, List.cons_append, List.nil_append, Option.toList, Int.toNat, Int.reduceToNat, if_pos, if_neg, reduceIte, ↓reduceIte, Nat.reduceAdd, Nat.reduceEqDiff, Nat.reduceBEq, beq_self_eq_true, Bool.not_true, Bool.not_false, Bool.and_true, Bool.and_false, Bool.true_and, Bool.false_and, gI_sI, gI_sL, gI_sA, gI_sM, gL_sI, gL_sL, gL_sA, gL_sM, aI_sI, aI_sL, aI_sA, aI_sM, aL_sI, aL_sL, aL_sA, aL_sM]; try dsimp only
          intro p2
          refine ⟨fun h3 => ?_, fun h3 => ?_⟩
          · exact hW _ 100 [(0, .ref 1000), (1, .int x1), (2, .int x2), (3, .int x3), (4, .int x4), (5, .int x5), (6, .int x6)] _ _ _ (by simp [rdl, rky, Value.category]) ((ih m1 hm1).2.2.2.2.2.2.2.2.1 x1 x2 x3 x4 x5 x6 _ hz)
          · exact hW _ 82 [(0, .ref 1000), (1, .int x1), (2, .int x2), (3, .int x3), (4, .int x4), (5, .int x5), (6, .int x6)] _ _ _ (by simp [rdl, rky, Value.category]) ((ih m1 hm1).2.2.2.2.2.2.1 x1 x2 x3 x4 x5 x6 _ hz)
        · intro x1 x2 x3 x4 x5 x6 Y hz
          refine hB _ _ _ _ _ (fun m1 hm1 => ?_)
          dsimp only [ugo, uwp, ust, uct, rfd, Bcall, Bcall_82, Nat.beq, lv_args, rlk, rs1, rs2, rdl, rky, rcd, rno, rsw, Value.category, List.filter, List.take, List.drop, List.reverse, List.reverseAux, List.cons_append, List.nil_append, Option.toList, Int.toNat, Int.reduceToNat, if_pos, if_neg, reduceIte, ↓reduceIte, Nat.reduceAdd, Nat.reduceEqDiff, Nat.reduceBEq, beq_self_eq_true, Bool.not_true, Bool.not_false, Bool.and_true, Bool.and_false, Bool.true_and, Bool.false_and, gI_sI, gI_sL, gI_sA, gI_sM, gL_sI, gL_sL, gL_sA, gL_sM, aI_sI, aI_sL, aI_sA, aI_sM, aL_sI, aL_sL, aL_sA, aL_sM, oi_5]; try dsimp only
          intro p2
          refine ⟨fun h3 => ?_, fun h3 => ?_⟩
          · exact hW _ 100 [(0, .ref 1000), (1, .int x1), (2, .int x2), (3, .int x3), (4, .int x4), (5, .int x5), (6, .int x6)] _ _ _ (by simp [rdl, rky, Value.category]) ((ih m1 hm1).2.2.2.2.2.2.2.2.1 x1 x2 x3 x4 x5 x6 _ hz)
          · exact hW _ 96 [(0, .ref 1000), (1, .int x1), (2, .int x2), (3, .int x3), (4, .int x4), (5, .int x5), (6, .int x6)] _ _ _ (by simp [rdl, rky, Value.category]) ((ih m1 hm1).2.2.2.2.2.2.2.1 x1 x2 x3 x4 x5 x6 _ hz)
        · intro x1 x2 x3 x4 x5 x6 Y hz
          refine hB _ _ _ _ _ (fun m1 hm1 => ?_)
          dsimp only [ugo, uwp, ust, uct, rfd, Bcall, Bcall_96, Nat.beq, lv_args, rlk, rs1, rs2, rdl, rky, rcd, rno, rsw, Value.category, List.filter, List.take, List.drop, List.reverse, List.reverseAux, List.cons_append, List.nil_append, Option.toList, Int.toNat, Int.reduceToNat, if_pos, if_neg, reduceIte, ↓reduceIte, Nat.reduceAdd, Nat.reduceEqDiff, Nat.reduceBEq, beq_self_eq_true, Bool.not_true, Bool.not_false, Bool.and_true, Bool.and_false, Bool.true_and, Bool.false_and, gI_sI, gI_sL, gI_sA, gI_sM, gL_sI, gL_sL, gL_sA, gL_sM, aI_sI, aI_sL, aI_sA, aI_sM, aL_sI, aL_sL, aL_sA, aL_sM, oi_1]; try dsimp only
          exact hW _ 101 [(0, .ref 1000), (1, .int x1), (2, .int x2), (3, .int x3), (4, .int x4), (5, .int x5), (6, .int x6)] _ _ _ (by simp [rdl, rky, Value.category]) ((ih m1 hm1).2.2.2.2.2.2.2.2.2.1 x1 x2 x3 x4 x5 x6 1 _ hz)
        · intro x1 x2 x3 x4 x5 x6 Y hz
          refine hB _ _ _ _ _ (fun m1 hm1 => ?_)
          dsimp only [ugo, uwp, ust, uct, rfd, Bcall, Bcall_100, Nat.beq, lv_args, rlk, rs1, rs2, rdl, rky, rcd, rno, rsw, Value.category, List.filter, List.take, List.drop, List.reverse, List.reverseAux, List.cons_append, List.nil_append, Option.toList, Int.toNat, Int.reduceToNat, if_pos, if_neg, reduceIte, ↓reduceIte, Nat.reduceAdd, Nat.reduceEqDiff, Nat.reduceBEq, beq_self_eq_true, Bool.not_true, Bool.not_false, Bool.and_true, Bool.and_false, Bool.true_and, Bool.false_and, gI_sI, gI_sL, gI_sA, gI_sM, gL_sI, gL_sL, gL_sA, gL_sM, aI_sI, aI_sL, aI_sA, aI_sM, aL_sI, aL_sL, aL_sA, aL_sM, oi_0]; try dsimp only
          exact hW _ 101 [(0, .ref 1000), (1, .int x1), (2, .int x2), (3, .int x3), (4, .int x4), (5, .int x5), (6, .int x6)] _ _ _ (by simp [rdl, rky, Value.category]) ((ih m1 hm1).2.2.2.2.2.2.2.2.2.1 x1 x2 x3 x4 x5 x6 0 _ hz)
        · intro x1 x2 x3 x4 x5 x6 s0 Y hz
          refine hB _ _ _ _ _ (fun m1 hm1 => ?_)
          dsimp only [ugo, uwp, ust, uct, rfd, Bcall, Bcall_101, Nat.beq, lv_args, rlk, rs1, rs2, rdl, rky, rcd, rno, rsw, Value.category, List.filter, List.take, List.drop, List.reverse, List.reverseAux, List.cons_append, List.nil_append, Option.toList, Int.toNat, Int.reduceToNat, if_pos, if_neg, reduceIte, ↓reduceIte, Nat.reduceAdd, Nat.reduceEqDiff, Nat.reduceBEq, beq_self_eq_true, Bool.not_true, Bool.not_false, Bool.and_true, Bool.and_false, Bool.true_and, Bool.false_and, gI_sI, gI_sL, gI_sA, gI_sM, gL_sI, gL_sL, gL_sA, gL_sM, aI_sI, aI_sL, aI_sA, aI_sM, aL_sI, aL_sL, aL_sA, aL_sM, oi_1]; try dsimp only
          exact hW _ 29 [(0, .ref 1000), (1, .int x1), (2, .int x2), (3, .int x3), (4, .int x4), (5, .int s0), (6, .int (x6 + 1))] _ _ _ (by simp [rdl, rky, Value.category]) ((ih m1 hm1).2.1 x1 x2 x3 x4 s0 (x6 + 1) _ hz)
        · intro x1 x2 x3 x4 x5 x6 Y hz
          refine hB _ _ _ _ _ (fun m1 hm1 => ?_)
          dsimp only [ugo, uwp, ust, uct, rfd, Bcall, Bcall_109, Nat.beq, lv_args, rlk, rs1, rs2, rdl, rky, rcd, rno, rsw, Value.category, List.filter, List.take, List.drop, List.reverse, List.reverseAux, List.cons_append, List.nil_append, Option.toList, Int.toNat, Int.reduceToNat, if_pos, if_neg, reduceIte, ↓reduceIte, Nat.reduceAdd, Nat.reduceEqDiff, Nat.reduceBEq, beq_self_eq_true, Bool.not_true, Bool.not_false, Bool.and_true, Bool.and_false, Bool.true_and, Bool.false_and, gI_sI, gI_sL, gI_sA, gI_sM, gL_sI, gL_sL, gL_sA, gL_sM, aI_sI, aI_sL, aI_sA, aI_sM, aL_sI, aL_sL, aL_sA, aL_sM, oi_m2]; try dsimp only
          intro p2
          refine ⟨fun h3 => ?_, fun h3 => ?_⟩
          · exact hW _ 128 [(0, .ref 1000), (1, .int x1), (2, .int x2), (3, .int x3), (4, .int x4), (5, .int x5), (6, .int x6)] _ _ _ (by simp [rdl, rky, Value.category]) ((ih m1 hm1).2.2.2.2.2.2.2.2.2.2.2.2.1 x1 x2 x3 x4 x5 x6 _ hz)
          · exact hW _ 122 [(0, .ref 1000), (1, .int x1), (2, .int x2), (3, .int x3), (4, .int x4), (5, .int x5), (6, .int x6)] _ _ _ (by simp [rdl, rky, Value.category]) ((ih m1 hm1).2.2.2.2.2.2.2.2.2.2.2.1 x1 x2 x3 x4 x5 x6 _ hz)
        · intro x1 x2 x3 x4 x5 x6 Y hz
          refine hB _ _ _ _ _ (fun m1 hm1 => ?_)
          dsimp only [ugo, uwp, ust, uct, rfd, Bcall, Bcall_122, Nat.beq, lv_args, rlk, rs1, rs2, rdl, rky, rcd, rno, rsw, Value.category, List.filter, List.take, List.drop, List.reverse, List.reverseAux, List.cons_append, List.nil_append, Option.toList, Int.toNat, Int.reduceToNat, if_pos, if_neg, reduceIte, ↓reduceIte, Nat.reduceAdd, Nat.reduceEqDiff, Nat.reduceBEq, beq_self_eq_true, Bool.not_true, Bool.not_false, Bool.and_true, Bool.and_false, Bool.true_and, Bool.false_and, gI_sI, gI_sL, gI_sA, gI_sM, gL_sI, gL_sL, gL_sA, gL_sM, aI_sI, aI_sL, aI_sA, aI_sM, aL_sI, aL_sL, aL_sA, aL_sM]; try dsimp only
          refine ⟨trivial, fun w2 τ2 hq2 => ?_⟩
          obtain ⟨rfl, rfl⟩ := hq2 trivial
          dsimp only [Option.toList, List.cons_append, List.nil_append, Nat.beq, gI_sI, gI_sL, gI_sA, gI_sM, gL_sI, gL_sL, gL_sA, gL_sM, aI_sI, aI_sL, aI_sA, aI_sM, aL_sI, aL_sL, aL_sA, aL_sM]
          unfold Qv_callA
          try dsimp only
          exact ⟨rfl, hz⟩
        · intro x1 x2 x3 x4 x5 x6 Y hz
          refine hB _ _ _ _ _ (fun m1 hm1 => ?_)
          dsimp only [ugo, uwp, ust, uct, rfd, Bcall, Bcall_128, Nat.beq, lv_args, rlk, rs1, rs2, rdl, rky, rcd, rno, rsw, Value.category, List.filter, List.take, List.drop, List.reverse, List.reverseAux, List.cons_append, List.nil_append, Option.toList, Int.toNat, Int.reduceToNat, if_pos, if_neg, reduceIte, ↓reduceIte, Nat.reduceAdd, Nat.reduceEqDiff, Nat.reduceBEq, beq_self_eq_true, Bool.not_true, Bool.not_false, Bool.and_true, Bool.and_false, Bool.true_and, Bool.false_and, gI_sI, gI_sL, gI_sA, gI_sM, gL_sI, gL_sL, gL_sA, gL_sM, aI_sI, aI_sL, aI_sA, aI_sM, aL_sI, aL_sL, aL_sA, aL_sM, oi_0, oi_m2]; try dsimp only
          exact hW _ 135 [(0, .ref 1000), (1, .int x1), (2, .int x2), (3, .int x3), (4, .int x4), (5, .int x5), (6, .int (-2)), (7, .int 0)] _ _ _ (by simp [rdl, rky, Value.category]) ((ih m1 hm1).2.2.2.2.2.2.2.2.2.2.2.2.2.1 x1 x2 x3 x4 x5 (-2) 0 _ hz)
        · intro x1 x2 x3 x4 x5 x6 x7 Y hz
          refine hB _ _ _ _ _ (fun m1 hm1 => ?_)
          dsimp only [ugo, uwp, ust, uct, rfd, Bcall, Bcall_135, Nat.beq, lv_args, rlk, rs1, rs2, rdl, rky, rcd, rno, rsw, Value.category, List.filter, List.take, List.drop, List.reverse, List.reverseAux, List.cons_append, List.nil_append, Option.toList, Int.toNat, Int.reduceToNat, if_pos, if_neg, reduceIte, ↓reduceIte, Nat.reduceAdd, Nat.reduceEqDiff, Nat.reduceBEq, beq_self_eq_true, Bool.not_true, Bool.not_false, Bool.and_true, Bool.and_false, Bool.true_and, Bool.false_and, gI_sI, gI_sL, gI_sA, gI_sM, gL_sI, gL_sL, gL_sA, gL_sM, aI_sI, aI_sL, aI_sA, aI_sM, aL_sI, aL_sL, aL_sA, aL_sM, oi_12]; try dsimp only
          refine ⟨fun h2 => ?_, fun h2 => ?_⟩
          · exact hW _ 271 [(0, .ref 1000), (1, .int x1), (2, .int x2), (3, .int x3), (4, .int x4), (5, .int x5), (6, .int x6), (7, .int x7)] _ _ _ (by simp [rdl, rky, Value.category]) ((ih m1 hm1).2.2.2.2.2.2.2.2.2.2.2.2.2.2.2.2.2.2.2.2.2.2.2.2.2.2.2.2.2.2.2.2.2.1 x1 x2 x3 x4 x5 x6 x7 _ hz)
          · exact hW _ 142 [(0, .ref 1000), (1, .int x1), (2, .int x2), (3, .int x3), (4, .int x4), (5, .int x5), (6, .int x6), (7, .int x7)] _ _ _ (by simp [rdl, rky, Value.category]) ((ih m1 hm1).2.2.2.2.2.2.2.2.2.2.2.2.2.2.1 x1 x2 x3 x4 x5 x6 x7 _ hz)
        · intro x1 x2 x3 x4 x5 x6 x7 Y hz
          refine hB _ _ _ _ _ (fun m1 hm1 => ?_)
          dsimp only [ugo, uwp, ust, uct, rfd, Bcall, Bcall_142, Nat.beq, lv_args, rlk, rs1, rs2, rdl, rky, rcd, rno, rsw, Value.category, List.filter, List.take, List.drop, List.reverse, List.reverseAux, List.cons_append, List.nil_append, Option.toList, Int.toNat, Int.reduceToNat, if_pos, if_neg, reduceIte, ↓reduceIte, Nat.reduceAdd, Nat.reduceEqDiff, Nat.reduceBEq, beq_self_eq_true, Bool.not_true, Bool.not_false, Bool.and_true, Bool.and_false, Bool.true_and, Bool.false_and, gI_sI, gI_sL, gI_sA, gI_sM, gL_sI, gL_sL, gL_sA, gL_sM, aI_sI, aI_sL, aI_sA, aI_sM, aL_sI, aL_sL, aL_sA, aL_sM]; try dsimp only
          refine ⟨trivial, fun w2 τ2 hq2 => ?_⟩
          obtain ⟨rfl, b2, rfl, hb2⟩ := hq2 trivial
          try rw [show (x7).toInt = (x7).toInt from (rfl : (x7).toInt = (x7).toInt)] at hb2
          dsimp only [Option.toList, List.cons_append, List.nil_append, Nat.beq, gI_sI, gI_sL, gI_sA, gI_sM, gL_sI, gL_sL, gL_sA, gL_sM, aI_sI, aI_sL, aI_sA, aI_sM, aL_sI, aL_sL, aL_sA, aL_sM]
          refine ⟨fun h3 => ?_, fun h3 => ?_⟩
          · exact hW _ 265 [(0, .ref 1000), (1, .int x1), (2, .int x2), (3, .int x3), (4, .int x4), (5, .int x5), (6, .int x6), (7, .int x7)] _ _ _ (by simp [rdl, rky, Value.category]) ((ih m1 hm1).2.2.2.2.2.2.2.2.2.2.2.2.2.2.2.2.2.2.2.2.2.2.2.2.2.2.2.2.2.2.2.2.1 x1 x2 x3 x4 x5 x6 x7 _ hz)
          · exact hW _ 151 [(0, .ref 1000), (1, .int x1), (2, .int x2), (3, .int x3), (4, .int x4), (5, .int x5), (6, .int x6), (7, .int x7)] _ _ _ (by simp [rdl, rky, Value.category]) ((ih m1 hm1).2.2.2.2.2.2.2.2.2.2.2.2.2.2.2.1 x1 x2 x3 x4 x5 x6 x7 _ hz)
        · intro x1 x2 x3 x4 x5 x6 x7 Y hz
          refine hB _ _ _ _ _ (fun m1 hm1 => ?_)
          dsimp only [ugo, uwp, ust, uct, rfd, Bcall, Bcall_151, Nat.beq, lv_args, rlk, rs1, rs2, rdl, rky, rcd, rno, rsw, Value.category, List.filter, List.take, List.drop, List.reverse, List.reverseAux, List.cons_append, List.nil_append, Option.toList, Int.toNat, Int.reduceToNat, if_pos, if_neg, reduceIte, ↓reduceIte, Nat.reduceAdd, Nat.reduceEqDiff, Nat.reduceBEq, beq_self_eq_true, Bool.not_true, Bool.not_false, Bool.and_true, Bool.and_false, Bool.true_and, Bool.false_and, gI_sI, gI_sL, gI_sA, gI_sM, gL_sI, gL_sL, gL_sA, gL_sM, aI_sI, aI_sL, aI_sA, aI_sM, aL_sI, aL_sL, aL_sA, aL_sM]; try dsimp only
          refine ⟨trivial, fun w2 τ2 hq2 => ?_⟩
          obtain ⟨rfl, b2, rfl, hb2⟩ := hq2 trivial
          dsimp only [Option.toList, List.cons_append, List.nil_append, Nat.beq, gI_sI, gI_sL, gI_sA, gI_sM, gL_sI, gL_sL, gL_sA, gL_sM, aI_sI, aI_sL, aI_sA, aI_sM, aL_sI, aL_sL, aL_sA, aL_sM]
          refine ⟨fun h3 => ?_, fun h3 => ?_⟩
          · exact hW _ 265 [(0, .ref 1000), (1, .int x1), (2, .int x2), (3, .int x3), (4, .int x4), (5, .int x5), (6, .int x6), (7, .int x7)] _ _ _ (by simp [rdl, rky, Value.category]) ((ih m1 hm1).2.2.2.2.2.2.2.2.2.2.2.2.2.2.2.2.2.2.2.2.2.2.2.2.2.2.2.2.2.2.2.2.1 x1 x2 x3 x4 x5 x6 x7 _ hz)
          · exact hW _ 161 [(0, .ref 1000), (1, .int x1), (2, .int x2), (3, .int x3), (4, .int x4), (5, .int x5), (6, .int x6), (7, .int x7)] _ _ _ (by simp [rdl, rky, Value.category]) ((ih m1 hm1).2.2.2.2.2.2.2.2.2.2.2.2.2.2.2.2.1 x1 x2 x3 x4 x5 x6 x7 _ hz)
        · intro x1 x2 x3 x4 x5 x6 x7 Y hz
          refine hB _ _ _ _ _ (fun m1 hm1 => ?_)
          dsimp only [ugo, uwp, ust, uct, rfd, Bcall, Bcall_161, Nat.beq, lv_args, rlk, rs1, rs2, rdl, rky, rcd, rno, rsw, Value.category, List.filter, List.take, List.drop, List.reverse, List.reverseAux, List.cons_append, List.nil_append, Option.toList, Int.toNat, Int.reduceToNat, if_pos, if_neg, reduceIte, ↓reduceIte, Nat.reduceAdd, Nat.reduceEqDiff, Nat.reduceBEq, beq_self_eq_true, Bool.not_true, Bool.not_false, Bool.and_true, Bool.and_false, Bool.true_and, Bool.false_and, gI_sI, gI_sL, gI_sA, gI_sM, gL_sI, gL_sL, gL_sA, gL_sM, aI_sI, aI_sL, aI_sA, aI_sM, aL_sI, aL_sL, aL_sA, aL_sM]; try dsimp only
          refine ⟨trivial, fun w2 τ2 hq2 => ?_⟩
          obtain ⟨rfl, b2, rfl, hb2⟩ := hq2 trivial
          dsimp only [Option.toList, List.cons_append, List.nil_append, Nat.beq, gI_sI, gI_sL, gI_sA, gI_sM, gL_sI, gL_sL, gL_sA, gL_sM, aI_sI, aI_sL, aI_sA, aI_sM, aL_sI, aL_sL, aL_sA, aL_sM]
          refine ⟨fun h3 => ?_, fun h3 => ?_⟩
          · exact hW _ 176 [(0, .ref 1000), (1, .int x1), (2, .int x2), (3, .int x3), (4, .int x4), (5, .int x5), (6, .int x6), (7, .int x7)] _ _ _ (by simp [rdl, rky, Value.category]) ((ih m1 hm1).2.2.2.2.2.2.2.2.2.2.2.2.2.2.2.2.2.2.1 x1 x2 x3 x4 x5 x6 x7 _ hz)
          · exact hW _ 173 [(0, .ref 1000), (1, .int x1), (2, .int x2), (3, .int x3), (4, .int x4), (5, .int x5), (6, .int x6), (7, .int x7)] _ _ _ (by simp [rdl, rky, Value.category]) ((ih m1 hm1).2.2.2.2.2.2.2.2.2.2.2.2.2.2.2.2.2.1 x1 x2 x3 x4 x5 x6 x7 _ hz)
        · intro x1 x2 x3 x4 x5 x6 x7 Y hz
          refine hB _ _ _ _ _ (fun m1 hm1 => ?_)
          dsimp only [ugo, uwp, ust, uct, rfd, Bcall, Bcall_173, Nat.beq, lv_args, rlk, rs1, rs2, rdl, rky, rcd, rno, rsw, Value.category, List.filter, List.take, List.drop, List.reverse, List.reverseAux, List.cons_append, List.nil_append, Option.toList, Int.toNat, Int.reduceToNat, if_pos, if_neg, reduceIte, ↓reduceIte, Nat.reduceAdd, Nat.reduceEqDiff, Nat.reduceBEq, beq_self_eq_true, Bool.not_true, Bool.not_false, Bool.and_true, Bool.and_false, Bool.true_and, Bool.false_and, gI_sI, gI_sL, gI_sA, gI_sM, gL_sI, gL_sL, gL_sA, gL_sM, aI_sI, aI_sL, aI_sA, aI_sM, aL_sI, aL_sL, aL_sA, aL_sM]; try dsimp only
          exact hW _ 265 [(0, .ref 1000), (1, .int x1), (2, .int x2), (3, .int x3), (4, .int x4), (5, .int x5), (6, .int x6), (7, .int x7)] _ _ _ (by simp [rdl, rky, Value.category]) ((ih m1 hm1).2.2.2.2.2.2.2.2.2.2.2.2.2.2.2.2.2.2.2.2.2.2.2.2.2.2.2.2.2.2.2.2.1 x1 x2 x3 x4 x5 x6 x7 _ hz)
        · intro x1 x2 x3 x4 x5 x6 x7 Y hz
          refine hB _ _ _ _ _ (fun m1 hm1 => ?_)
          dsimp only [ugo, uwp, ust, uct, rfd, Bcall, Bcall_176, Nat.beq, lv_args, rlk, rs1, rs2, rdl, rky, rcd, rno, rsw, Value.category, List.filter, List.take, List.drop, List.reverse, List.reverseAux, List.cons_append, List.nil_append, Option.toList, Int.toNat, Int.reduceToNat, if_pos, if_neg, reduceIte, ↓reduceIte, Nat.reduceAdd, Nat.reduceEqDiff, Nat.reduceBEq, beq_self_eq_true, Bool.not_true, Bool.not_false, Bool.and_true, Bool.and_false, Bool.true_and, Bool.false_and, gI_sI, gI_sL, gI_sA, gI_sM, gL_sI, gL_sL, gL_sA, gL_sM, aI_sI, aI_sL, aI_sA, aI_sM, aL_sI, aL_sL, aL_sA, aL_sM, oi_0, oi_1]; try dsimp only
          exact hW _ 182 [(0, .ref 1000), (1, .int x1), (2, .int x2), (3, .int x3), (4, .int x4), (5, .int x5), (6, .int x6), (7, .int x7), (8, .int 1), (9, .int 0)] _ _ _ (by simp [rdl, rky, Value.category]) ((ih m1 hm1).2.2.2.2.2.2.2.2.2.2.2.2.2.2.2.2.2.2.2.1 x1 x2 x3 x4 x5 x6 x7 1 0 _ hz)
        · intro x1 x2 x3 x4 x5 x6 x7 x8 x9 Y hz
          refine hB _ _ _ _ _ (fun m1 hm1 => ?_)
          dsimp only [ugo, uwp, ust, uct, rfd, Bcall, Bcall_182, Nat.beq, lv_args, rlk, rs1, rs2, rdl, rky, rcd, rno, rsw, Value.category, List.filter, List.take, List.drop, List.reverse, List.reverseAux, List.cons_append, List.nil_append, Option.toList, Int.toNat, Int.reduceToNat, if_pos, if_neg, reduceIte, ↓reduceIte, Nat.reduceAdd, Nat.reduceEqDiff, Nat.reduceBEq, beq_self_eq_true, Bool.not_true, Bool.not_false, Bool.and_true, Bool.and_false, Bool.true_and, Bool.false_and, gI_sI, gI_sL, gI_sA, gI_sM, gL_sI, gL_sL, gL_sA, gL_sM, aI_sI, aI_sL, aI_sA, aI_sM, aL_sI, aL_sL, aL_sA, aL_sM, oi_12]; try dsimp only
          refine ⟨fun h2 => ?_, fun h2 => ?_⟩
          · exact hW _ 256 [(0, .ref 1000), (1, .int x1), (2, .int x2), (3, .int x3), (4, .int x4), (5, .int x5), (6, .int x6), (7, .int x7), (8, .int x8), (9, .int x9)] _ _ _ (by simp [rdl, rky, Value.category]) ((ih m1 hm1).2.2.2.2.2.2.2.2.2.2.2.2.2.2.2.2.2.2.2.2.2.2.2.2.2.2.2.2.2.2.1 x1 x2 x3 x4 x5 x6 x7 x8 x9 _ hz)
          · exact hW _ 189 [(0, .ref 1000), (1, .int x1), (2, .int x2), (3, .int x3), (4, .int x4), (5, .int x5), (6, .int x6), (7, .int x7), (8, .int x8), (9, .int x9)] _ _ _ (by simp [rdl, rky, Value.category]) ((ih m1 hm1).2.2.2.2.2.2.2.2.2.2.2.2.2.2.2.2.2.2.2.2.1 x1 x2 x3 x4 x5 x6 x7 x8 x9 _ hz)
        · intro x1 x2 x3 x4 x5 x6 x7 x8 x9 Y hz
          refine hB _ _ _ _ _ (fun m1 hm1 => ?_)
          dsimp only [ugo, uwp, ust, uct, rfd, Bcall, Bcall_189, Nat.beq, lv_args, rlk, rs1, rs2, rdl, rky, rcd, rno, rsw, Value.category, List.filter, List.take, List.drop, List.reverse, List.reverseAux, List.cons_append, List.nil_append, Option.toList, Int.toNat, Int.reduceToNat, if_pos, if_neg, reduceIte, ↓reduceIte, Nat.reduceAdd, Nat.reduceEqDiff, Nat.reduceBEq, beq_self_eq_true, Bool.not_true, Bool.not_false, Bool.and_true, Bool.and_false, Bool.true_and, Bool.false_and, gI_sI, gI_sL, gI_sA, gI_sM, gL_sI, gL_sL, gL_sA, gL_sM, aI_sI, aI_sL, aI_sA, aI_sM, aL_sI, aL_sL, aL_sA, aL_sM]; try dsimp only
          refine ⟨fun h2 => ?_, fun h2 => ?_⟩
          · exact hW _ 250 [(0, .ref 1000), (1, .int x1), (2, .int x2), (3, .int x3), (4, .int x4), (5, .int x5), (6, .int x6), (7, .int x7), (8, .int x8), (9, .int x9)] _ _ _ (by simp [rdl, rky, Value.category]) ((ih m1 hm1).2.2.2.2.2.2.2.2.2.2.2.2.2.2.2.2.2.2.2.2.2.2.2.2.2.2.2.2.2.1 x1 x2 x3 x4 x5 x6 x7 x8 x9 _ hz)
          · exact hW _ 196 [(0, .ref 1000), (1, .int x1), (2, .int x2), (3, .int x3), (4, .int x4), (5, .int x5), (6, .int x6), (7, .int x7), (8, .int x8), (9, .int x9)] _ _ _ (by simp [rdl, rky, Value.category]) ((ih m1 hm1).2.2.2.2.2.2.2.2.2.2.2.2.2.2.2.2.2.2.2.2.2.1 x1 x2 x3 x4 x5 x6 x7 x8 x9 _ hz)
        · intro x1 x2 x3 x4 x5 x6 x7 x8 x9 Y hz
          refine hB _ _ _ _ _ (fun m1 hm1 => ?_)
          dsimp only [ugo, uwp, ust, uct, rfd, Bcall, Bcall_196, Nat.beq, lv_args, rlk, rs1, rs2, rdl, rky, rcd, rno, rsw, Value.category, List.filter, List.take, List.drop, List.reverse, List.reverseAux, List.cons_append, List.nil_append, Option.toList, Int.toNat, Int.reduceToNat, if_pos, if_neg, reduceIte, ↓reduceIte, Nat.reduceAdd, Nat.reduceEqDiff, Nat.reduceBEq, beq_self_eq_true, Bool.not_true, Bool.not_false, Bool.and_true, Bool.and_false, Bool.true_and, Bool.false_and, gI_sI, gI_sL, gI_sA, gI_sM, gL_sI, gL_sL, gL_sA, gL_sM, aI_sI, aI_sL, aI_sA, aI_sM, aL_sI, aL_sL, aL_sA, aL_sM]; try dsimp only
          refine ⟨trivial, fun w2 τ2 hq2 => ?_⟩
          obtain ⟨rfl, b2, rfl, hb2⟩ := hq2 trivial
          try rw [show (x9).toInt = (x9).toInt from (rfl : (x9).toInt = (x9).toInt)] at hb2
          dsimp only [Option.toList, List.cons_append, List.nil_append, Nat.beq, gI_sI, gI_sL, gI_sA, gI_sM, gL_sI, gL_sL, gL_sA, gL_sM, aI_sI, aI_sL, aI_sA, aI_sM, aL_sI, aL_sL, aL_sA, aL_sM]
          refine ⟨fun h3 => ?_, fun h3 => ?_⟩
          · exact hW _ 250 [(0, .ref 1000), (1, .int x1), (2, .int x2), (3, .int x3), (4, .int x4), (5, .int x5), (6, .int x6), (7, .int x7), (8, .int x8), (9, .int x9)] _ _ _ (by simp [rdl, rky, Value.category]) ((ih m1 hm1).2.2.2.2.2.2.2.2.2.2.2.2.2.2.2.2.2.2.2.2.2.2.2.2.2.2.2.2.2.1 x1 x2 x3 x4 x5 x6 x7 x8 x9 _ hz)
          · exact hW _ 205 [(0, .ref 1000), (1, .int x1), (2, .int x2), (3, .int x3), (4, .int x4), (5, .int x5), (6, .int x6), (7, .int x7), (8, .int x8), (9, .int x9)] _ _ _ (by simp [rdl, rky, Value.category]) ((ih m1 hm1).2.2.2.2.2.2.2.2.2.2.2.2.2.2.2.2.2.2.2.2.2.2.1 x1 x2 x3 x4 x5 x6 x7 x8 x9 _ hz)
        · intro x1 x2 x3 x4 x5 x6 x7 x8 x9 Y hz
          refine hB _ _ _ _ _ (fun m1 hm1 => ?_)
          dsimp only [ugo, uwp, ust, uct, rfd, Bcall, Bcall_205, Nat.beq, lv_args, rlk, rs1, rs2, rdl, rky, rcd, rno, rsw, Value.category, List.filter, List.take, List.drop, List.reverse, List.reverseAux, List.cons_append, List.nil_append, Option.toList, Int.toNat, Int.reduceToNat, if_pos, if_neg, reduceIte, ↓reduceIte, Nat.reduceAdd, Nat.reduceEqDiff, Nat.reduceBEq, beq_self_eq_true, Bool.not_true, Bool.not_false, Bool.and_true, Bool.and_false, Bool.true_and, Bool.false_and, gI_sI, gI_sL, gI_sA, gI_sM, gL_sI, gL_sL, gL_sA, gL_sM, aI_sI, aI_sL, aI_sA, aI_sM, aL_sI, aL_sL, aL_sA, aL_sM]; try dsimp only
          refine ⟨trivial, fun w2 τ2 hq2 => ?_⟩
          obtain ⟨rfl, b2, rfl, hb2⟩ := hq2 trivial
          dsimp only [Option.toList, List.cons_append, List.nil_append, Nat.beq, gI_sI, gI_sL, gI_sA, gI_sM, gL_sI, gL_sL, gL_sA, gL_sM, aI_sI, aI_sL, aI_sA, aI_sM, aL_sI, aL_sL, aL_sA, aL_sM]
          refine ⟨fun h3 => ?_, fun h3 => ?_⟩
          · exact hW _ 250 [(0, .ref 1000), (1, .int x1), (2, .int x2), (3, .int x3), (4, .int x4), (5, .int x5), (6, .int x6), (7, .int x7), (8, .int x8), (9, .int x9)] _ _ _ (by simp [rdl, rky, Value.category]) ((ih m1 hm1).2.2.2.2.2.2.2.2.2.2.2.2.2.2.2.2.2.2.2.2.2.2.2.2.2.2.2.2.2.1 x1 x2 x3 x4 x5 x6 x7 x8 x9 _ hz)
          · exact hW _ 215 [(0, .ref 1000), (1, .int x1), (2, .int x2), (3, .int x3), (4, .int x4), (5, .int x5), (6, .int x6), (7, .int x7), (8, .int x8), (9, .int x9)] _ _ _ (by simp [rdl, rky, Value.category]) ((ih m1 hm1).2.2.2.2.2.2.2.2.2.2.2.2.2.2.2.2.2.2.2.2.2.2.2.1 x1 x2 x3 x4 x5 x6 x7 x8 x9 _ hz)
        · intro x1 x2 x3 x4 x5 x6 x7 x8 x9 Y hz
          refine hB _ _ _ _ _ (fun m1 hm1 => ?_)
          dsimp only [ugo, uwp, ust, uct, rfd, Bcall, Bcall_215, Nat.beq, lv_args, rlk, rs1, rs2, rdl, rky, rcd, rno, rsw, Value.category, List.filter, List.take, List.drop, List.reverse, List.reverseAux, List.cons_append, List.nil_append, Option.toList, Int.toNat, Int.reduceToNat, if_pos, if_neg, reduceIte, ↓reduceIte, Nat.reduceAdd, Nat.reduceEqDiff, Nat.reduceBEq, beq_self_eq_true, Bool.not_true, Bool.not_false, Bool.and_true, Bool.and_false, Bool.true_and, Bool.false_and, gI_sI, gI_sL, gI_sA, gI_sM, gL_sI, gL_sL, gL_sA, gL_sM, aI_sI, aI_sL, aI_sA, aI_sM, aL_sI, aL_sL, aL_sA, aL_sM]; try dsimp only
          refine ⟨trivial, fun w2 τ2 hq2 => ?_⟩
          obtain ⟨rfl, b2, rfl, hb2⟩ := hq2 trivial
          dsimp only [Option.toList, List.cons_append, List.nil_append, Nat.beq, gI_sI, gI_sL, gI_sA, gI_sM, gL_sI, gL_sL, gL_sA, gL_sM, aI_sI, aI_sL, aI_sA, aI_sM, aL_sI, aL_sL, aL_sA, aL_sM]
          refine ⟨fun h3 => ?_, fun h3 => ?_⟩
          · exact hW _ 250 [(0, .ref 1000), (1, .int x1), (2, .int x2), (3, .int x3), (4, .int x4), (5, .int x5), (6, .int x6), (7, .int x7), (8, .int x8), (9, .int x9)] _ _ _ (by simp [rdl, rky, Value.category]) ((ih m1 hm1).2.2.2.2.2.2.2.2.2.2.2.2.2.2.2.2.2.2.2.2.2.2.2.2.2.2.2.2.2.1 x1 x2 x3 x4 x5 x6 x7 x8 x9 _ hz)
          · exact hW _ 227 [(0, .ref 1000), (1, .int x1), (2, .int x2), (3, .int x3), (4, .int x4), (5, .int x5), (6, .int x6), (7, .int x7), (8, .int x8), (9, .int x9)] _ _ _ (by simp [rdl, rky, Value.category]) ((ih m1 hm1).2.2.2.2.2.2.2.2.2.2.2.2.2.2.2.2.2.2.2.2.2.2.2.2.1 x1 x2 x3 x4 x5 x6 x7 x8 x9 _ hz)
        · intro x1 x2 x3 x4 x5 x6 x7 x8 x9 Y hz
          refine hB _ _ _ _ _ (fun m1 hm1 => ?_)
          dsimp only [ugo, uwp, ust, uct, rfd, Bcall, Bcall_227, Nat.beq, lv_args, rlk, rs1, rs2, rdl, rky, rcd, rno, rsw, Value.category, List.filter, List.take, List.drop, List.reverse, List.reverseAux, List.cons_append, List.nil_append, Option.toList, Int.toNat, Int.reduceToNat, if_pos, if_neg, reduceIte, ↓reduceIte, Nat.reduceAdd, Nat.reduceEqDiff, Nat.reduceBEq, beq_self_eq_true, Bool.not_true, Bool.not_false, Bool.and_true, Bool.and_false, Bool.true_and, Bool.false_and, gI_sI, gI_sL, gI_sA, gI_sM, gL_sI, gL_sL, gL_sA, gL_sM, aI_sI, aI_sL, aI_sA, aI_sM, aL_sI, aL_sL, aL_sA, aL_sM]; try dsimp only
          refine ⟨fun h2 => ?_, fun h2 => ?_⟩
          · exact hW _ 247 [(0, .ref 1000), (1, .int x1), (2, .int x2), (3, .int x3), (4, .int x4), (5, .int x5), (6, .int x6), (7, .int x7), (8, .int x8), (9, .int x9)] _ _ _ (by simp [rdl, rky, Value.category]) ((ih m1 hm1).2.2.2.2.2.2.2.2.2.2.2.2.2.2.2.2.2.2.2.2.2.2.2.2.2.2.2.1 x1 x2 x3 x4 x5 x6 x7 x8 x9 _ hz)
          · exact hW _ 232 [(0, .ref 1000), (1, .int x1), (2, .int x2), (3, .int x3), (4, .int x4), (5, .int x5), (6, .int x6), (7, .int x7), (8, .int x8), (9, .int x9)] _ _ _ (by simp [rdl, rky, Value.category]) ((ih m1 hm1).2.2.2.2.2.2.2.2.2.2.2.2.2.2.2.2.2.2.2.2.2.2.2.2.2.1 x1 x2 x3 x4 x5 x6 x7 x8 x9 _ hz)
        · intro x1 x2 x3 x4 x5 x6 x7 x8 x9 Y hz
          refine hB _ _ _ _ _ (fun m1 hm1 => ?_)
          dsimp only [ugo, uwp, ust, uct, rfd, Bcall, Bcall_232, Nat.beq, lv_args, rlk, rs1, rs2, rdl, rky, rcd, rno, rsw, Value.category, List.filter, List.take, List.drop, List.reverse, List.reverseAux, List.cons_append, List.nil_append, Option.toList, Int.toNat, Int.reduceToNat, if_pos, if_neg, reduceIte, ↓reduceIte, Nat.reduceAdd, Nat.reduceEqDiff, Nat.reduceBEq, beq_self_eq_true, Bool.not_true, Bool.not_false, Bool.and_true, Bool.and_false, Bool.true_and, Bool.false_and, gI_sI, gI_sL, gI_sA, gI_sM, gL_sI, gL_sL, gL_sA, gL_sM, aI_sI, aI_sL, aI_sA, aI_sM, aL_sI, aL_sL, aL_sA, aL_sM]; try dsimp only
          refine ⟨trivial, fun w2 τ2 hq2 => ?_⟩
          obtain ⟨rfl, b2, rfl, hb2⟩ := hq2 trivial
          dsimp only [Option.toList, List.cons_append, List.nil_append, Nat.beq, gI_sI, gI_sL, gI_sA, gI_sM, gL_sI, gL_sL, gL_sA, gL_sM, aI_sI, aI_sL, aI_sA, aI_sM, aL_sI, aL_sL, aL_sA, aL_sM]
          refine ⟨fun h3 => ?_, fun h3 => ?_⟩
          · exact hW _ 247 [(0, .ref 1000), (1, .int x1), (2, .int x2), (3, .int x3), (4, .int x4), (5, .int x5), (6, .int x6), (7, .int x7), (8, .int x8), (9, .int x9)] _ _ _ (by simp [rdl, rky, Value.category]) ((ih m1 hm1).2.2.2.2.2.2.2.2.2.2.2.2.2.2.2.2.2.2.2.2.2.2.2.2.2.2.2.1 x1 x2 x3 x4 x5 x6 x7 x8 x9 _ hz)
          · exact hW _ 243 [(0, .ref 1000), (1, .int x1), (2, .int x2), (3, .int x3), (4, .int x4), (5, .int x5), (6, .int x6), (7, .int x7), (8, .int x8), (9, .int x9)] _ _ _ (by simp [rdl, rky, Value.category]) ((ih m1 hm1).2.2.2.2.2.2.2.2.2.2.2.2.2.2.2.2.2.2.2.2.2.2.2.2.2.2.1 x1 x2 x3 x4 x5 x6 x7 x8 x9 _ hz)
        · intro x1 x2 x3 x4 x5 x6 x7 x8 x9 Y hz
          refine hB _ _ _ _ _ (fun m1 hm1 => ?_)
          dsimp only [ugo, uwp, ust, uct, rfd, Bcall, Bcall_243, Nat.beq, lv_args, rlk, rs1, rs2, rdl, rky, rcd, rno, rsw, Value.category, List.filter, List.take, List.drop, List.reverse, List.reverseAux, List.cons_append, List.nil_append, Option.toList, Int.toNat, Int.reduceToNat, if_pos, if_neg, reduceIte, ↓reduceIte, Nat.reduceAdd, Nat.reduceEqDiff, Nat.reduceBEq, beq_self_eq_true, Bool.not_true, Bool.not_false, Bool.and_true, Bool.and_false, Bool.true_and, Bool.false_and, gI_sI, gI_sL, gI_sA, gI_sM, gL_sI, gL_sL, gL_sA, gL_sM, aI_sI, aI_sL, aI_sA, aI_sM, aL_sI, aL_sL, aL_sA, aL_sM, oi_1]; try dsimp only
          exact hW _ 248 [(0, .ref 1000), (1, .int x1), (2, .int x2), (3, .int x3), (4, .int x4), (5, .int x5), (6, .int x6), (7, .int x7), (8, .int x8), (9, .int x9)] _ _ _ (by simp [rdl, rky, Value.category]) ((ih m1 hm1).2.2.2.2.2.2.2.2.2.2.2.2.2.2.2.2.2.2.2.2.2.2.2.2.2.2.2.2.1 x1 x2 x3 x4 x5 x6 x7 x8 x9 1 _ hz)
        · intro x1 x2 x3 x4 x5 x6 x7 x8 x9 Y hz
          refine hB _ _ _ _ _ (fun m1 hm1 => ?_)
          dsimp only [ugo, uwp, ust, uct, rfd, Bcall, Bcall_247, Nat.beq, lv_args, rlk, rs1, rs2, rdl, rky, rcd, rno, rsw, Value.category, List.filter, List.take, List.drop, List.reverse, List.reverseAux, List.cons_append, List.nil_append, Option.toList, Int.toNat, Int.reduceToNat, if_pos, if_neg, reduceIte, ↓reduceIte, Nat.reduceAdd, Nat.reduceEqDiff, Nat.reduceBEq, beq_self_eq_true, Bool.not_true, Bool.not_false, Bool.and_true, Bool.and_false, Bool.true_and, Bool.false_and, gI_sI, gI_sL, gI_sA, gI_sM, gL_sI, gL_sL, gL_sA, gL_sM, aI_sI, aI_sL, aI_sA, aI_sM, aL_sI, aL_sL, aL_sA, aL_sM, oi_0]; try dsimp only
          exact hW _ 248 [(0, .ref 1000), (1, .int x1), (2, .int x2), (3, .int x3), (4, .int x4), (5, .int x5), (6, .int x6), (7, .int x7), (8, .int x8), (9, .int x9)] _ _ _ (by simp [rdl, rky, Value.category]) ((ih m1 hm1).2.2.2.2.2.2.2.2.2.2.2.2.2.2.2.2.2.2.2.2.2.2.2.2.2.2.2.2.1 x1 x2 x3 x4 x5 x6 x7 x8 x9 0 _ hz)
        · intro x1 x2 x3 x4 x5 x6 x7 x8 x9 s0 Y hz
          refine hB _ _ _ _ _ (fun m1 hm1 => ?_)
          dsimp only [ugo, uwp, ust, uct, rfd, Bcall, Bcall_248, Nat.beq, lv_args, rlk, rs1, rs2, rdl, rky, rcd, rno, rsw, Value.category, List.filter, List.take, List.drop, List.reverse, List.reverseAux, List.cons_append, List.nil_append, Option.toList, Int.toNat, Int.reduceToNat, if_pos, if_neg, reduceIte, ↓reduceIte, Nat.reduceAdd, Nat.reduceEqDiff, Nat.reduceBEq, beq_self_eq_true, Bool.not_true, Bool.not_false, Bool.and_true, Bool.and_false, Bool.true_and, Bool.false_and, gI_sI, gI_sL, gI_sA, gI_sM, gL_sI, gL_sL, gL_sA, gL_sM, aI_sI, aI_sL, aI_sA, aI_sM, aL_sI, aL_sL, aL_sA, aL_sM]; try dsimp only
          exact hW _ 250 [(0, .ref 1000), (1, .int x1), (2, .int x2), (3, .int x3), (4, .int x4), (5, .int x5), (6, .int x6), (7, .int x7), (8, .int s0), (9, .int x9)] _ _ _ (by simp [rdl, rky, Value.category]) ((ih m1 hm1).2.2.2.2.2.2.2.2.2.2.2.2.2.2.2.2.2.2.2.2.2.2.2.2.2.2.2.2.2.1 x1 x2 x3 x4 x5 x6 x7 s0 x9 _ hz)
        · intro x1 x2 x3 x4 x5 x6 x7 x8 x9 Y hz
          refine hB _ _ _ _ _ (fun m1 hm1 => ?_)
          dsimp only [ugo, uwp, ust, uct, rfd, Bcall, Bcall_250, Nat.beq, lv_args, rlk, rs1, rs2, rdl, rky, rcd, rno, rsw, Value.category, List.filter, List.take, List.drop, List.reverse, List.reverseAux, List.cons_append, List.nil_append, Option.toList, Int.toNat, Int.reduceToNat, if_pos, if_neg, reduceIte, ↓reduceIte, Nat.reduceAdd, Nat.reduceEqDiff, Nat.reduceBEq, beq_self_eq_true, Bool.not_true, Bool.not_false, Bool.and_true, Bool.and_false, Bool.true_and, Bool.false_and, gI_sI, gI_sL, gI_sA, gI_sM, gL_sI, gL_sL, gL_sA, gL_sM, aI_sI, aI_sL, aI_sA, aI_sM, aL_sI, aL_sL, aL_sA, aL_sM, oi_1]; try dsimp only
          exact hW _ 182 [(0, .ref 1000), (1, .int x1), (2, .int x2), (3, .int x3), (4, .int x4), (5, .int x5), (6, .int x6), (7, .int x7), (8, .int x8), (9, .int (x9 + 1))] _ _ _ (by simp [rdl, rky, Value.category]) ((ih m1 hm1).2.2.2.2.2.2.2.2.2.2.2.2.2.2.2.2.2.2.2.1 x1 x2 x3 x4 x5 x6 x7 x8 (x9 + 1) _ hz)
        · intro x1 x2 x3 x4 x5 x6 x7 x8 x9 Y hz
          refine hB _ _ _ _ _ (fun m1 hm1 => ?_)
          dsimp only [ugo, uwp, ust, uct, rfd, Bcall, Bcall_256, Nat.beq, lv_args, rlk, rs1, rs2, rdl, rky, rcd, rno, rsw, Value.category, List.filter, List.take, List.drop, List.reverse, List.reverseAux, List.cons_append, List.nil_append, Option.toList, Int.toNat, Int.reduceToNat, if_pos, if_neg, reduceIte, ↓reduceIte, Nat.reduceAdd, Nat.reduceEqDiff, Nat.reduceBEq, beq_self_eq_true, Bool.not_true, Bool.not_false, Bool.and_true, Bool.and_false, Bool.true_and, Bool.false_and, gI_sI, gI_sL, gI_sA, gI_sM, gL_sI, gL_sL, gL_sA, gL_sM, aI_sI, aI_sL, aI_sA, aI_sM, aL_sI, aL_sL, aL_sA, aL_sM]; try dsimp only
          refine ⟨fun h2 => ?_, fun h2 => ?_⟩
          · exact hW _ 265 [(0, .ref 1000), (1, .int x1), (2, .int x2), (3, .int x3), (4, .int x4), (5, .int x5), (6, .int x6), (7, .int x7)] _ _ _ (by simp [rdl, rky, Value.category]) ((ih m1 hm1).2.2.2.2.2.2.2.2.2.2.2.2.2.2.2.2.2.2.2.2.2.2.2.2.2.2.2.2.2.2.2.2.1 x1 x2 x3 x4 x5 x6 x7 _ hz)
          · exact hW _ 261 [(0, .ref 1000), (1, .int x1), (2, .int x2), (3, .int x3), (4, .int x4), (5, .int x5), (6, .int x6), (7, .int x7), (8, .int x8), (9, .int x9)] _ _ _ (by simp [rdl, rky, Value.category]) ((ih m1 hm1).2.2.2.2.2.2.2.2.2.2.2.2.2.2.2.2.2.2.2.2.2.2.2.2.2.2.2.2.2.2.2.1 x1 x2 x3 x4 x5 x6 x7 x8 x9 _ hz)
        · intro x1 x2 x3 x4 x5 x6 x7 x8 x9 Y hz
          refine hB _ _ _ _ _ (fun m1 hm1 => ?_)
          dsimp only [ugo, uwp, ust, uct, rfd, Bcall, Bcall_261, Nat.beq, lv_args, rlk, rs1, rs2, rdl, rky, rcd, rno, rsw, Value.category, List.filter, List.take, List.drop, List.reverse, List.reverseAux, List.cons_append, List.nil_append, Option.toList, Int.toNat, Int.reduceToNat, if_pos, if_neg, reduceIte, ↓reduceIte, Nat.reduceAdd, Nat.reduceEqDiff, Nat.reduceBEq, beq_self_eq_true, Bool.not_true, Bool.not_false, Bool.and_true, Bool.and_false, Bool.true_and, Bool.false_and, gI_sI, gI_sL, gI_sA, gI_sM, gL_sI, gL_sL, gL_sA, gL_sM, aI_sI, aI_sL, aI_sA, aI_sM, aL_sI, aL_sL, aL_sA, aL_sM]; try dsimp only
          exact hW _ 265 [(0, .ref 1000), (1, .int x1), (2, .int x2), (3, .int x3), (4, .int x4), (5, .int x5), (6, .int x7), (7, .int x7)] _ _ _ (by simp [rdl, rky, Value.category]) ((ih m1 hm1).2.2.2.2.2.2.2.2.2.2.2.2.2.2.2.2.2.2.2.2.2.2.2.2.2.2.2.2.2.2.2.2.1 x1 x2 x3 x4 x5 x7 x7 _ hz)
        · intro x1 x2 x3 x4 x5 x6 x7 Y hz
          refine hB _ _ _ _ _ (fun m1 hm1 => ?_)
          dsimp only [ugo, uwp, ust, uct, rfd, Bcall, Bcall_265, Nat.beq, lv_args, rlk, rs1, rs2, rdl, rky, rcd, rno, rsw, Value.category, List.filter, List.take, List.drop, List.reverse, List.reverseAux, List.cons_append, List.nil_append, Option.toList, Int.toNat, Int.reduceToNat, if_pos, if_neg, reduceIte, ↓reduceIte, Nat.reduceAdd, Nat.reduceEqDiff, Nat.reduceBEq, beq_self_eq_true, Bool.not_true, Bool.not_false, Bool.and_true, Bool.and_false, Bool.true_and, Bool.false_and, gI_sI, gI_sL, gI_sA, gI_sM, gL_sI, gL_sL, gL_sA, gL_sM, aI_sI, aI_sL, aI_sA, aI_sM, aL_sI, aL_sL, aL_sA, aL_sM, oi_1]; try dsimp only
          exact hW _ 135 [(0, .ref 1000), (1, .int x1), (2, .int x2), (3, .int x3), (4, .int x4), (5, .int x5), (6, .int x6), (7, .int (x7 + 1))] _ _ _ (by simp [rdl, rky, Value.category]) ((ih m1 hm1).2.2.2.2.2.2.2.2.2.2.2.2.2.1 x1 x2 x3 x4 x5 x6 (x7 + 1) _ hz)
        · intro x1 x2 x3 x4 x5 x6 x7 Y hz
          refine hB _ _ _ _ _ (fun m1 hm1 => ?_)
          dsimp only [ugo, uwp, ust, uct, rfd, Bcall, Bcall_271, Nat.beq, lv_args, rlk, rs1, rs2, rdl, rky, rcd, rno, rsw, Value.category, List.filter, List.take, List.drop, List.reverse, List.reverseAux, List.cons_append, List.nil_append, Option.toList, Int.toNat, Int.reduceToNat, if_pos, if_neg, reduceIte, ↓reduceIte, Nat.reduceAdd, Nat.reduceEqDiff, Nat.reduceBEq, beq_self_eq_true, Bool.not_true, Bool.not_false, Bool.and_true, Bool.and_false, Bool.true_and, Bool.false_and, gI_sI, gI_sL, gI_sA, gI_sM, gL_sI, gL_sL, gL_sA, gL_sM, aI_sI, aI_sL, aI_sA, aI_sM, aL_sI, aL_sL, aL_sA, aL_sM]; try dsimp only
          refine ⟨fun h2 => ?_, fun h2 => ?_⟩
          · exact hW _ 289 [(0, .ref 1000), (1, .int x1), (2, .int x2), (3, .int x3), (4, .int x4), (5, .int x5), (6, .int x6), (7, .int x7)] _ _ _ (by simp [rdl, rky, Value.category]) ((ih m1 hm1).2.2.2.2.2.2.2.2.2.2.2.2.2.2.2.2.2.2.2.2.2.2.2.2.2.2.2.2.2.2.2.2.2.2.2 x1 x2 x3 x4 x5 x6 x7 _ hz)
          · exact hW _ 276 [(0, .ref 1000), (1, .int x1), (2, .int x2), (3, .int x3), (4, .int x4), (5, .int x5), (6, .int x6), (7, .int x7)] _ _ _ (by simp [rdl, rky, Value.category]) ((ih m1 hm1).2.2.2.2.2.2.2.2.2.2.2.2.2.2.2.2.2.2.2.2.2.2.2.2.2.2.2.2.2.2.2.2.2.2.1 x1 x2 x3 x4 x5 x6 x7 _ hz)
        · intro x1 x2 x3 x4 x5 x6 x7 Y hz
          refine hB _ _ _ _ _ (fun m1 hm1 => ?_)
          dsimp only [ugo, uwp, ust, uct, rfd, Bcall, Bcall_276, Nat.beq, lv_args, rlk, rs1, rs2, rdl, rky, rcd, rno, rsw, Value.category, List.filter, List.take, List.drop, List.reverse, List.reverseAux, List.cons_append, List.nil_append, Option.toList, Int.toNat, Int.reduceToNat, if_pos, if_neg, reduceIte, ↓reduceIte, Nat.reduceAdd, Nat.reduceEqDiff, Nat.reduceBEq, beq_self_eq_true, Bool.not_true, Bool.not_false, Bool.and_true, Bool.and_false, Bool.true_and, Bool.false_and, gI_sI, gI_sL, gI_sA, gI_sM, gL_sI, gL_sL, gL_sA, gL_sM, aI_sI, aI_sL, aI_sA, aI_sM, aL_sI, aL_sL, aL_sA, aL_sM, oi_6]; try dsimp only
          refine ⟨trivial, fun w2 τ2 hq2 => ?_⟩
          obtain ⟨rfl, hz2⟩ := hq2 (show ¬ (6 : Int32) = 0 by decide)
          dsimp only [Option.toList, List.cons_append, List.nil_append, Nat.beq, gI_sI, gI_sL, gI_sA, gI_sM, gL_sI, gL_sL, gL_sA, gL_sM, aI_sI, aI_sL, aI_sA, aI_sM, aL_sI, aL_sL, aL_sA, aL_sM]
          refine ⟨trivial, fun w3 τ3 hq3 => ?_⟩
          obtain ⟨rfl, rfl⟩ := hq3 trivial
          dsimp only [Option.toList, List.cons_append, List.nil_append, Nat.beq, gI_sI, gI_sL, gI_sA, gI_sM, gL_sI, gL_sL, gL_sA, gL_sM, aI_sI, aI_sL, aI_sA, aI_sM, aL_sI, aL_sL, aL_sA, aL_sM]
          unfold Qv_callA
          try dsimp only
          exact ⟨rfl, hz2⟩
        · intro x1 x2 x3 x4 x5 x6 x7 Y hz
          refine hB _ _ _ _ _ (fun m1 hm1 => ?_)
          dsimp only [ugo, uwp, ust, uct, rfd, Bcall, Bcall_289, Nat.beq, lv_args, rlk, rs1, rs2, rdl, rky, rcd, rno, rsw, Value.category, List.filter, List.take, List.drop, List.reverse, List.reverseAux, List.cons_append, List.nil_append, Option.toList, Int.toNat, Int.reduceToNat, if_pos, if_neg, reduceIte, ↓reduceIte, Nat.reduceAdd, Nat.reduceEqDiff, Nat.reduceBEq, beq_self_eq_true, Bool.not_true, Bool.not_false, Bool.and_true, Bool.and_false, Bool.true_and, Bool.false_and, gI_sI, gI_sL, gI_sA, gI_sM, gL_sI, gL_sL, gL_sA, gL_sM, aI_sI, aI_sL, aI_sA, aI_sM, aL_sI, aL_sL, aL_sA, aL_sM, oi_0, oi_100]; try dsimp only
          intro p2
          intro p3
          refine ⟨trivial, fun w4 τ4 hq4 => ?_⟩
          obtain ⟨rfl, r4, rfl, hr4⟩ := hq4 trivial
          dsimp only [Option.toList, List.cons_append, List.nil_append, Nat.beq, gI_sI, gI_sL, gI_sA, gI_sM, gL_sI, gL_sL, gL_sA, gL_sM, aI_sI, aI_sL, aI_sA, aI_sM, aL_sI, aL_sL, aL_sA, aL_sM]
          refine ⟨trivial, fun w5 τ5 hq5 => ?_⟩
          obtain ⟨rfl, rfl⟩ := hq5 trivial
          dsimp only [Option.toList, List.cons_append, List.nil_append, Nat.beq, gI_sI, gI_sL, gI_sA, gI_sM, gL_sI, gL_sL, gL_sA, gL_sM, aI_sI, aI_sL, aI_sA, aI_sM, aL_sI, aL_sL, aL_sA, aL_sM]
          unfold Qv_callA
          try dsimp only
          exact ⟨rfl, hz⟩
    intro n0
    exact (all n0).1 c t σ hP
  next => exact hP.elim
theorem w_callA : UMet 104 (fun _ _ => True) Qw_callA := fun A1 σ _ w τ h hP => v_callA A1 σ hP w τ h
def Pv_callB (C : CxT) (T : TbT) (t0 : TvT) (x : XrZ) : UP1 := fun A1 σ => match A1 with
  | [.int c, .int t] => gI σ 66 = 0 ∧ AsR σ (gI σ 69 - aI σ 20 c.toNatClampNeg) (aI σ 20 c.toNatClampNeg) (agT T x.2.2.2) ∧ (∀ q ∈ (agT T x.2.2.2), 0 ≤ q ∧ q ≤ 5) ∧ MsR σ t (C.1 x.1.2.2.1) C.2.2.2 ∧ NdT C.2.2.2 ∧ t0.2.1 = 0
  | _ => False
def Qv_callB (C : CxT) (T : TbT) (t0 : TvT) (x : XrZ) : UQ1 := fun A1 σ w τ => match A1 with
  | [.int c, .int t] => w = none ∧ JgR τ (xaT C T t0 x) (fun e τ => ∃ (l ty su : Int32) (v : Int64), l.toInt = e.2.2.2 ∧ ShT ty su v e ∧ τ = lieS (sA (sA (sA (sI σ 69 (gI σ 69 - aI σ 20 c.toNatClampNeg)) 83 (upd (aI σ 83) c.toNatClampNeg (-2))) 83 (upd (upd (aI σ 83) c.toNatClampNeg (-2)) c.toNatClampNeg l)) 80 (upd (aI σ 80) t.toNatClampNeg (100 + l))) c ty su v)
  | _ => False
def Qw_callB : UQ1 := fun A1 σ w τ => ∀ (C : CxT) (T : TbT) (t0 : TvT) (x : XrZ), Pv_callB C T t0 x A1 σ → Qv_callB C T t0 x A1 σ w τ
set_option maxRecDepth 100000 in
set_option maxHeartbeats 4000000 in
theorem v_callB (C : CxT) (T : TbT) (t0 : TvT) (x : XrZ) : UMet 104 (Pv_callB C T t0 x) (Qv_callB C T t0 x) := by
  refine UMet.by Bcall [(70, (fun _ _ => True), Qw_err), (102, (fun _ _ => True), Qw_isCloser), (103, (fun _ _ => True), Qw_isMethod), (86, (fun _ _ => True), Qw_isNamed), (77, (fun _ _ => True), Qw_lie), (78, (fun _ _ => True), Qw_none), (85, (fun _ _ => True), Qw_resultOf), (101, (fun _ _ => True), Qw_takes)] rfl (ucc w_err (ucc w_isCloser (ucc w_isMethod (ucc w_isNamed (ucc w_lie (ucc w_none (ucc w_resultOf (ucc w_takes uc0)))))))) ?_
  intro A1 σ hP K hB hW
  unfold Pv_callB at hP
  split at hP
  next c t =>
    obtain ⟨hE, hst, h05, hms, hnd, ht0⟩ := hP
    have bad : xaT C T t0 x = none → ∀ N : Nat, (∀ (x1 : Int32) (x2 : Int32) (Y : RS), ¬ gI Y 66 = 0 → K N 0 [(0, .ref 1000), (1, .int x1), (2, .int x2)] [] Y) ∧ (∀ (x1 : Int32) (x2 : Int32) (x3 : Int32) (x4 : Int32) (x5 : Int32) (x6 : Int32) (Y : RS), ¬ gI Y 66 = 0 → K N 29 [(0, .ref 1000), (1, .int x1), (2, .int x2), (3, .int x3), (4, .int x4), (5, .int x5), (6, .int x6)] [] Y) ∧ (∀ (x1 : Int32) (x2 : Int32) (x3 : Int32) (x4 : Int32) (x5 : Int32) (x6 : Int32) (Y : RS), ¬ gI Y 66 = 0 → K N 35 [(0, .ref 1000), (1, .int x1), (2, .int x2), (3, .int x3), (4, .int x4), (5, .int x5), (6, .int x6)] [] Y) ∧ (∀ (x1 : Int32) (x2 : Int32) (x3 : Int32) (x4 : Int32) (x5 : Int32) (x6 : Int32) (Y : RS), ¬ gI Y 66 = 0 → K N 49 [(0, .ref 1000), (1, .int x1), (2, .int x2), (3, .int x3), (4, .int x4), (5, .int x5), (6, .int x6)] [] Y) ∧ (∀ (x1 : Int32) (x2 : Int32) (x3 : Int32) (x4 : Int32) (x5 : Int32) (x6 : Int32) (Y : RS), ¬ gI Y 66 = 0 → K N 64 [(0, .ref 1000), (1, .int x1), (2, .int x2), (3, .int x3), (4, .int x4), (5, .int x5), (6, .int x6)] [] Y) ∧ (∀ (x1 : Int32) (x2 : Int32) (x3 : Int32) (x4 : Int32) (x5 : Int32) (x6 : Int32) (Y : RS), ¬ gI Y 66 = 0 → K N 69 [(0, .ref 1000), (1, .int x1), (2, .int x2), (3, .int x3), (4, .int x4), (5, .int x5), (6, .int x6)] [] Y) ∧ (∀ (x1 : Int32) (x2 : Int32) (x3 : Int32) (x4 : Int32) (x5 : Int32) (x6 : Int32) (Y : RS), ¬ gI Y 66 = 0 → K N 82 [(0, .ref 1000), (1, .int x1), (2, .int x2), (3, .int x3), (4, .int x4), (5, .int x5), (6, .int x6)] [] Y) ∧ (∀ (x1 : Int32) (x2 : Int32) (x3 : Int32) (x4 : Int32) (x5 : Int32) (x6 : Int32) (Y : RS), ¬ gI Y 66 = 0 → K N 96 [(0, .ref 1000), (1, .int x1), (2, .int x2), (3, .int x3), (4, .int x4), (5, .int x5), (6, .int x6)] [] Y) ∧ (∀ (x1 : Int32) (x2 : Int32) (x3 : Int32) (x4 : Int32) (x5 : Int32) (x6 : Int32) (Y : RS), ¬ gI Y 66 = 0 → K N 100 [(0, .ref 1000), (1, .int x1), (2, .int x2), (3, .int x3), (4, .int x4), (5, .int x5), (6, .int x6)] [] Y) ∧ (∀ (x1 : Int32) (x2 : Int32) (x3 : Int32) (x4 : Int32) (x5 : Int32) (x6 : Int32) (s0 : Int32) (Y : RS), ¬ gI Y 66 = 0 → K N 101 [(0, .ref 1000), (1, .int x1), (2, .int x2), (3, .int x3), (4, .int x4), (5, .int x5), (6, .int x6)] [.int s0] Y) ∧ (∀ (x1 : Int32) (x2 : Int32) (x3 : Int32) (x4 : Int32) (x5 : Int32) (x6 : Int32) (Y : RS), ¬ gI Y 66 = 0 → K N 109 [(0, .ref 1000), (1, .int x1), (2, .int x2), (3, .int x3), (4, .int x4), (5, .int x5), (6, .int x6)] [] Y) ∧ (∀ (x1 : Int32) (x2 : Int32) (x3 : Int32) (x4 : Int32) (x5 : Int32) (x6 : Int32) (Y : RS), ¬ gI Y 66 = 0 → K N 122 [(0, .ref 1000), (1, .int x1), (2, .int x2), (3, .int x3), (4, .int x4), (5, .int x5), (6, .int x6)] [] Y) ∧ (∀ (x1 : Int32) (x2 : Int32) (x3 : Int32) (x4 : Int32) (x5 : Int32) (x6 : Int32) (Y : RS), ¬ gI Y 66 = 0 → K N 128 [(0, .ref 1000), (1, .int x1), (2, .int x2), (3, .int x3), (4, .int x4), (5, .int x5), (6, .int x6)] [] Y) ∧ (∀ (x1 : Int32) (x2 : Int32) (x3 : Int32) (x4 : Int32) (x5 : Int32) (x6 : Int32) (x7 : Int32) (Y : RS), ¬ gI Y 66 = 0 → K N 135 [(0, .ref 1000), (1, .int x1), (2, .int x2), (3, .int x3), (4, .int x4), (5, .int x5), (6, .int x6), (7, .int x7)] [] Y) ∧ (∀ (x1 : Int32) (x2 : Int32) (x3 : Int32) (x4 : Int32) (x5 : Int32) (x6 : Int32) (x7 : Int32) (Y : RS), ¬ gI Y 66 = 0 → K N 142 [(0, .ref 1000), (1, .int x1), (2, .int x2), (3, .int x3), (4, .int x4), (5, .int x5), (6, .int x6), (7, .int x7)] [] Y) ∧ (∀ (x1 : Int32) (x2 : Int32) (x3 : Int32) (x4 : Int32) (x5 : Int32) (x6 : Int32) (x7 : Int32) (Y : RS), ¬ gI Y 66 = 0 → K N 151 [(0, .ref 1000), (1, .int x1), (2, .int x2), (3, .int x3), (4, .int x4), (5, .int x5), (6, .int x6), (7, .int x7)] [] Y) ∧ (∀ (x1 : Int32) (x2 : Int32) (x3 : Int32) (x4 : Int32) (x5 : Int32) (x6 : Int32) (x7 : Int32) (Y : RS), ¬ gI Y 66 = 0 → K N 161 [(0, .ref 1000), (1, .int x1), (2, .int x2), (3, .int x3), (4, .int x4), (5, .int x5), (6, .int x6), (7, .int x7)] [] Y) ∧ (∀ (x1 : Int32) (x2 : Int32) (x3 : Int32) (x4 : Int32) (x5 : Int32) (x6 : Int32) (x7 : Int32) (Y : RS), ¬ gI Y 66 = 0 → K N 173 [(0, .ref 1000), (1, .int x1), (2, .int x2), (3, .int x3), (4, .int x4), (5, .int x5), (6, .int x6), (7, .int x7)] [] Y) ∧ (∀ (x1 : Int32) (x2 : Int32) (x3 : Int32) (x4 : Int32) (x5 : Int32) (x6 : Int32) (x7 : Int32) (Y : RS), ¬ gI Y 66 = 0 → K N 176 [(0, .ref 1000), (1, .int x1), (2, .int x2), (3, .int x3), (4, .int x4), (5, .int x5), (6, .int x6), (7, .int x7)] [] Y) ∧ (∀ (x1 : Int32) (x2 : Int32) (x3 : Int32) (x4 : Int32) (x5 : Int32) (x6 : Int32) (x7 : Int32) (x8 : Int32) (x9 : Int32) (Y : RS), ¬ gI Y 66 = 0 → K N 182 [(0, .ref 1000), (1, .int x1), (2, .int x2), (3, .int x3), (4, .int x4), (5, .int x5), (6, .int x6), (7, .int x7), (8, .int x8), (9, .int x9)] [] Y) ∧ (∀ (x1 : Int32) (x2 : Int32) (x3 : Int32) (x4 : Int32) (x5 : Int32) (x6 : Int32) (x7 : Int32) (x8 : Int32) (x9 : Int32) (Y : RS), ¬ gI Y 66 = 0 → K N 189 [(0, .ref 1000), (1, .int x1), (2, .int x2), (3, .int x3), (4, .int x4), (5, .int x5), (6, .int x6), (7, .int x7), (8, .int x8), (9, .int x9)] [] Y) ∧ (∀ (x1 : Int32) (x2 : Int32) (x3 : Int32) (x4 : Int32) (x5 : Int32) (x6 : Int32) (x7 : Int32) (x8 : Int32) (x9 : Int32) (Y : RS), ¬ gI Y 66 = 0 → K N 196 [(0, .ref 1000), (1, .int x1), (2, .int x2), (3, .int x3), (4, .int x4), (5, .int x5), (6, .int x6), (7, .int x7), (8, .int x8), (9, .int x9)] [] Y) ∧ (∀ (x1 : Int32) (x2 : Int32) (x3 : Int32) (x4 : Int32) (x5 : Int32) (x6 : Int32) (x7 : Int32) (x8 : Int32) (x9 : Int32) (Y : RS), ¬ gI Y 66 = 0 → K N 205 [(0, .ref 1000), (1, .int x1), (2, .int x2), (3, .int x3), (4, .int x4), (5, .int x5), (6, .int x6), (7, .int x7), (8, .int x8), (9, .int x9)] [] Y) ∧ (∀ (x1 : Int32) (x2 : Int32) (x3 : Int32) (x4 : Int32) (x5 : Int32) (x6 : Int32) (x7 : Int32) (x8 : Int32) (x9 : Int32) (Y : RS), ¬ gI Y 66 = 0 → K N 215 [(0, .ref 1000), (1, .int x1), (2, .int x2), (3, .int x3), (4, .int x4), (5, .int x5), (6, .int x6), (7, .int x7), (8, .int x8), (9, .int x9)] [] Y) ∧ (∀ (x1 : Int32) (x2 : Int32) (x3 : Int32) (x4 : Int32) (x5 : Int32) (x6 : Int32) (x7 : Int32) (x8 : Int32) (x9 : Int32) (Y : RS), ¬ gI Y 66 = 0 → K N 227 [(0, .ref 1000), (1, .int x1), (2, .int x2), (3, .int x3), (4, .int x4), (5, .int x5), (6, .int x6), (7, .int x7), (8, .int x8), (9, .int x9)] [] Y) ∧ (∀ (x1 : Int32) (x2 : Int32) (x3 : Int32) (x4 : Int32) (x5 : Int32) (x6 : Int32) (x7 : Int32) (x8 : Int32) (x9 : Int32) (Y : RS), ¬ gI Y 66 = 0 → K N 232 [(0, .ref 1000), (1, .int x1), (2, .int x2), (3, .int x3), (4, .int x4), (5, .int x5), (6, .int x6), (7, .int x7), (8, .int x8), (9, .int x9)] [] Y) ∧ (∀ (x1 : Int32) (x2 : Int32) (x3 : Int32) (x4 : Int32) (x5 : Int32) (x6 : Int32) (x7 : Int32) (x8 : Int32) (x9 : Int32) (Y : RS), ¬ gI Y 66 = 0 → K N 243 [(0, .ref 1000), (1, .int x1), (2, .int x2), (3, .int x3), (4, .int x4), (5, .int x5), (6, .int x6), (7, .int x7), (8, .int x8), (9, .int x9)] [] Y) ∧ (∀ (x1 : Int32) (x2 : Int32) (x3 : Int32) (x4 : Int32) (x5 : Int32) (x6 : Int32) (x7 : Int32) (x8 : Int32) (x9 : Int32) (Y : RS), ¬ gI Y 66 = 0 → K N 247 [(0, .ref 1000), (1, .int x1), (2, .int x2), (3, .int x3), (4, .int x4), (5, .int x5), (6, .int x6), (7, .int x7), (8, .int x8), (9, .int x9)] [] Y) ∧ (∀ (x1 : Int32) (x2 : Int32) (x3 : Int32) (x4 : Int32) (x5 : Int32) (x6 : Int32) (x7 : Int32) (x8 : Int32) (x9 : Int32) (s0 : Int32) (Y : RS), ¬ gI Y 66 = 0 → K N 248 [(0, .ref 1000), (1, .int x1), (2, .int x2), (3, .int x3), (4, .int x4), (5, .int x5), (6, .int x6), (7, .int x7), (8, .int x8), (9, .int x9)] [.int s0] Y) ∧ (∀ (x1 : Int32) (x2 : Int32) (x3 : Int32) (x4 : Int32) (x5 : Int32) (x6 : Int32) (x7 : Int32) (x8 : Int32) (x9 : Int32) (Y : RS), ¬ gI Y 66 = 0 → K N 250 [(0, .ref 1000), (1, .int x1), (2, .int x2), (3, .int x3), (4, .int x4), (5, .int x5), (6, .int x6), (7, .int x7), (8, .int x8), (9, .int x9)] [] Y) ∧ (∀ (x1 : Int32) (x2 : Int32) (x3 : Int32) (x4 : Int32) (x5 : Int32) (x6 : Int32) (x7 : Int32) (x8 : Int32) (x9 : Int32) (Y : RS), ¬ gI Y 66 = 0 → K N 256 [(0, .ref 1000), (1, .int x1), (2, .int x2), (3, .int x3), (4, .int x4), (5, .int x5), (6, .int x6), (7, .int x7), (8, .int x8), (9, .int x9)] [] Y) ∧ (∀ (x1 : Int32) (x2 : Int32) (x3 : Int32) (x4 : Int32) (x5 : Int32) (x6 : Int32) (x7 : Int32) (x8 : Int32) (x9 : Int32) (Y : RS), ¬ gI Y 66 = 0 → K N 261 [(0, .ref 1000), (1, .int x1), (2, .int x2), (3, .int x3), (4, .int x4), (5, .int x5), (6, .int x6), (7, .int x7), (8, .int x8), (9, .int x9)] [] Y) ∧ (∀ (x1 : Int32) (x2 : Int32) (x3 : Int32) (x4 : Int32) (x5 : Int32) (x6 : Int32) (x7 : Int32) (Y : RS), ¬ gI Y 66 = 0 → K N 265 [(0, .ref 1000), (1, .int x1), (2, .int x2), (3, .int x3), (4, .int x4), (5, .int x5), (6, .int x6), (7, .int x7)] [] Y) ∧ (∀ (x1 : Int32) (x2 : Int32) (x3 : Int32) (x4 : Int32) (x5 : Int32) (x6 : Int32) (x7 : Int32) (Y : RS), ¬ gI Y 66 = 0 → K N 271 [(0, .ref 1000), (1, .int x1), (2, .int x2), (3, .int x3), (4, .int x4), (5, .int x5), (6, .int x6), (7, .int x7)] [] Y) ∧ (∀ (x1 : Int32) (x2 : Int32) (x3 : Int32) (x4 : Int32) (x5 : Int32) (x6 : Int32) (x7 : Int32) (Y : RS), ¬ gI Y 66 = 0 → K N 276 [(0, .ref 1000), (1, .int x1), (2, .int x2), (3, .int x3), (4, .int x4), (5, .int x5), (6, .int x6), (7, .int x7)] [] Y) ∧ (∀ (x1 : Int32) (x2 : Int32) (x3 : Int32) (x4 : Int32) (x5 : Int32) (x6 : Int32) (x7 : Int32) (Y : RS), ¬ gI Y 66 = 0 → K N 289 [(0, .ref 1000), (1, .int x1), (2, .int x2), (3, .int x3), (4, .int x4), (5, .int x5), (6, .int x6), (7, .int x7)] [] Y) := by
      intro hnn
      intro N
      induction N using Nat.strongRecOn with
      | ind N ih =>
        refine ⟨?_, ?_, ?_, ?_, ?_, ?_, ?_, ?_, ?_, ?_, ?_, ?_, ?_, ?_, ?_, ?_, ?_, ?_, ?_, ?_, ?_, ?_, ?_, ?_, ?_, ?_, ?_, ?_, ?_, ?_, ?_, ?_, ?_, ?_, ?_, ?_⟩
        · intro x1 x2 Y hz
          refine hB _ _ _ _ _ (fun m1 hm1 => ?_)
          dsimp only [ugo, uwp, ust, uct, rfd, Bcall, Bcall_0, Nat.beq, lv_args, rlk, rs1, rs2, rdl, rky, rcd, rno, rsw, Value.category, List.filter, List.take, List.drop, List.reverse, List.reverseAux, List.cons_append, List.nil_append, Option.toList, Int.toNat, Int.reduceToNat, if_pos, if_neg, reduceIte, ↓reduceIte, Nat.reduceAdd, Nat.reduceEqDiff, Nat.reduceBEq, beq_self_eq_true, Bool.not_true, Bool.not_false, Bool.and_true, Bool.and_false, Bool.true_and, Bool.false_and, gI_sI, gI_sL, gI_sA, gI_sM, gL_sI, gL_sL, gL_sA, gL_sM, aI_sI, aI_sL, aI_sA, aI_sM, aL_sI, aL_sL, aL_sA, aL_sM, oi_0, oi_1]; try dsimp only
          intro p2
          exact hW _ 29 [(0, .ref 1000), (1, .int x1), (2, .int x2), (3, .int ((aI Y 20) (x1).toNatClampNeg)), (4, .int ((gI Y 69) - ((aI Y 20) (x1).toNatClampNeg))), (5, .int 1), (6, .int 0)] _ _ _ (by simp [rdl, rky, Value.category]) ((ih m1 hm1).2.1 x1 x2 ((aI Y 20) (x1).toNatClampNeg) ((gI Y 69) - ((aI Y 20) (x1).toNatClampNeg)) 1 0 _ hz)
        · intro x1 x2 x3 x4 x5 x6 Y hz
          refine hB _ _ _ _ _ (fun m1 hm1 => ?_)
          dsimp only [ugo, uwp, ust, uct, rfd, Bcall, Bcall_29, Nat.beq, lv_args, rlk, rs1, rs2, rdl, rky, rcd, rno, rsw, Value.category, List.filter, List.take, List.drop, List.reverse, List.reverseAux, List.cons_append, List.nil_append, Option.toList, Int.toNat, Int.reduceToNat, if_pos, if_neg, reduceIte, ↓reduceIte, Nat.reduceAdd, Nat.reduceEqDiff, Nat.reduceBEq, beq_self_eq_true, Bool.not_true, Bool.not_false, Bool.and_true, Bool.and_false, Bool.true_and, Bool.false_and, gI_sI, gI_sL, gI_sA, gI_sM, gL_sI, gL_sL, gL_sA, gL_sM, aI_sI, aI_sL, aI_sA, aI_sM, aL_sI, aL_sL, aL_sA, aL_sM]; try dsimp only
          refine ⟨fun h2 => ?_, fun h2 => ?_⟩
          · exact hW _ 109 [(0, .ref 1000), (1, .int x1), (2, .int x2), (3, .int x3), (4, .int x4), (5, .int x5), (6, .int x6)] _ _ _ (by simp [rdl, rky, Value.category]) ((ih m1 hm1).2.2.2.2.2.2.2.2.2.2.1 x1 x2 x3 x4 x5 x6 _ hz)
          · exact hW _ 35 [(0, .ref 1000), (1, .int x1), (2, .int x2), (3, .int x3), (4, .int x4), (5, .int x5), (6, .int x6)] _ _ _ (by simp [rdl, rky, Value.category]) ((ih m1 hm1).2.2.1 x1 x2 x3 x4 x5 x6 _ hz)
        · intro x1 x2 x3 x4 x5 x6 Y hz
          refine hB _ _ _ _ _ (fun m1 hm1 => ?_)
          dsimp only [ugo, uwp, ust, uct, rfd, Bcall, Bcall_35, Nat.beq, lv_args, rlk, rs1, rs2, rdl, rky, rcd, rno, rsw, Value.category, List.filter, List.take, List.drop, List.reverse, List.reverseAux, List.cons_append, List.nil_append, Option.toList, Int.toNat, Int.reduceToNat, if_pos, if_neg, reduceIte, ↓reduceIte, Nat.reduceAdd, Nat.reduceEqDiff, Nat.reduceBEq, beq_self_eq_true, Bool.not_true, Bool.not_false, Bool.and_true, Bool.and_false, Bool.true_and, Bool.false_and, gI_sI, gI_sL, gI_sA, gI_sM, gL_sI, gL_sL, gL_sA, gL_sM, aI_sI, aI_sL, aI_sA, aI_sM, aL_sI, aL_sL, aL_sA, aL_sM, oi_5]; try dsimp only
          intro p2
          refine ⟨fun h3 => ?_, fun h3 => ?_⟩
          · exact hW _ 64 [(0, .ref 1000), (1, .int x1), (2, .int x2), (3, .int x3), (4, .int x4), (5, .int x5), (6, .int x6)] _ _ _ (by simp [rdl, rky, Value.category]) ((ih m1 hm1).2.2.2.2.1 x1 x2 x3 x4 x5 x6 _ hz)
          · exact hW _ 49 [(0, .ref 1000), (1, .int x1), (2, .int x2), (3, .int x3), (4, .int x4), (5, .int x5), (6, .int x6)] _ _ _ (by simp [rdl, rky, Value.category]) ((ih m1 hm1).2.2.2.1 x1 x2 x3 x4 x5 x6 _ hz)
        · intro x1 x2 x3 x4 x5 x6 Y hz
          refine hB _ _ _ _ _ (fun m1 hm1 => ?_)
          dsimp only [ugo, uwp, ust, uct, rfd, Bcall, Bcall_49, Nat.beq, lv_args, rlk, rs1, rs2, rdl, rky, rcd, rno, rsw, Value.category, List.filter, List.take, List.drop, List.reverse, List.reverseAux, List.cons_append, List.nil_append, Option.toList, Int.toNat, Int.reduceToNat, if_pos, if_neg, reduceIte, ↓reduceIte, Nat.reduceAdd, Nat.reduceEqDiff, Nat.reduceBEq, beq_self_eq_true, Bool.not_true, Bool.not_false, Bool.and_true, Bool.and_false, Bool.true_and, Bool.false_and, gI_sI, gI_sL, gI_sA, gI_sM, gL_sI, gL_sL, gL_sA, gL_sM, aI_sI, aI_sL, aI_sA, aI_sM, aL_sI, aL_sL, aL_sA, aL_sM, oi_5]; try dsimp only
          intro p2
          refine ⟨trivial, fun w3 τ3 hq3 => ?_⟩
          obtain ⟨rfl, hz3⟩ := hq3 (show ¬ (5 : Int32) = 0 by decide)
          dsimp only [Option.toList, List.cons_append, List.nil_append, Nat.beq, gI_sI, gI_sL, gI_sA, gI_sM, gL_sI, gL_sL, gL_sA, gL_sM, aI_sI, aI_sL, aI_sA, aI_sM, aL_sI, aL_sL, aL_sA, aL_sM]
          exact hW _ 64 [(0, .ref 1000), (1, .int x1), (2, .int x2), (3, .int x3), (4, .int x4), (5, .int x5), (6, .int x6)] _ _ _ (by simp [rdl, rky, Value.category]) ((ih m1 hm1).2.2.2.2.1 x1 x2 x3 x4 x5 x6 _ hz3)
        · intro x1 x2 x3 x4 x5 x6 Y hz
          refine hB _ _ _ _ _ (fun m1 hm1 => ?_)
          dsimp only [ugo, uwp, ust, uct, rfd, Bcall, Bcall_64, Nat.beq, lv_args, rlk, rs1, rs2, rdl, rky, rcd, rno, rsw, Value.category, List.filter, List.take, List.drop, List.reverse, List.reverseAux, List.cons_append, List.nil_append, Option.toList, Int.toNat, Int.reduceToNat, if_pos, if_neg, reduceIte, ↓reduceIte, Nat.reduceAdd, Nat.reduceEqDiff, Nat.reduceBEq, beq_self_eq_true, Bool.not_true, Bool.not_false, Bool.and_true, Bool.and_false, Bool.true_and, Bool.false_and, gI_sI, gI_sL, gI_sA, gI_sM, gL_sI, gL_sL, gL_sA, gL_sM, aI_sI, aI_sL, aI_sA, aI_sM, aL_sI, aL_sL, aL_sA, aL_sM]; try dsimp only
          refine ⟨fun h2 => ?_, fun h2 => ?_⟩
          · exact hW _ 100 [(0, .ref 1000), (1, .int x1), (2, .int x2), (3, .int x3), (4, .int x4), (5, .int x5), (6, .int x6)] _ _ _ (by simp [rdl, rky, Value.category]) ((ih m1 hm1).2.2.2.2.2.2.2.2.1 x1 x2 x3 x4 x5 x6 _ hz)
          · exact hW _ 69 [(0, .ref 1000), (1, .int x1), (2, .int x2), (3, .int x3), (4, .int x4), (5, .int x5), (6, .int x6)] _ _ _ (by simp [rdl, rky, Value.category]) ((ih m1 hm1).2.2.2.2.2.1 x1 x2 x3 x4 x5 x6 _ hz)
        · intro x1 x2 x3 x4 x5 x6 Y hz
          refine hB _ _ _ _ _ (fun m1 hm1 => ?_)
          dsimp only [ugo, uwp, ust, uct, rfd, Bcall, Bcall_69, Nat.beq, lv_args, rlk, rs1, rs2, rdl, rky, rcd, rno, rsw, Value.category, List.filter, List.take, List.drop, List.reverse, List.reverseAux, List.cons_append, List.nil_append, Option.toList, Int.toNat, Int.reduceToNat, if_pos, if_neg, reduceIte, ↓reduceIte, Nat.reduceAdd, Nat.reduceEqDiff, Nat.reduceBEq, beq_self_eq_true, Bool.not_true, Bool.not_false, Bool.and_true, Bool.and_false, Bool.true_and, Bool.false_and, gI_sI, gI_sL, gI_sA, gI_sM, gL_sI, gL_sL, gL_sA, gL_sM, aI_sI, aI_sL, aI_sA, aI_sM, aL_sI, aL_sL, aL_sA, aL_sM]; try dsimp only
          intro p2
          refine ⟨fun h3 => ?_, fun h3 => ?_⟩
          · exact hW _ 100 [(0, .ref 1000), (1, .int x1), (2, .int x2), (3, .int x3), (4, .int x4), (5, .int x5), (6, .int x6)] _ _ _ (by simp [rdl, rky, Value.category]) ((ih m1 hm1).2.2.2.2.2.2.2.2.1 x1 x2 x3 x4 x5 x6 _ hz)
          · exact hW _ 82 [(0, .ref 1000), (1, .int x1), (2, .int x2), (3, .int x3), (4, .int x4), (5, .int x5), (6, .int x6)] _ _ _ (by simp [rdl, rky, Value.category]) ((ih m1 hm1).2.2.2.2.2.2.1 x1 x2 x3 x4 x5 x6 _ hz)
        · intro x1 x2 x3 x4 x5 x6 Y hz
          refine hB _ _ _ _ _ (fun m1 hm1 => ?_)
          dsimp only [ugo, uwp, ust, uct, rfd, Bcall, Bcall_82, Nat.beq, lv_args, rlk, rs1, rs2, rdl, rky, rcd, rno, rsw, Value.category, List.filter, List.take, List.drop, List.reverse, List.reverseAux, List.cons_append, List.nil_append, Option.toList, Int.toNat, Int.reduceToNat, if_pos, if_neg, reduceIte, ↓reduceIte, Nat.reduceAdd, Nat.reduceEqDiff, Nat.reduceBEq, beq_self_eq_true, Bool.not_true, Bool.not_false, Bool.and_true, Bool.and_false, Bool.true_and, Bool.false_and, gI_sI, gI_sL, gI_sA, gI_sM, gL_sI, gL_sL, gL_sA, gL_sM, aI_sI, aI_sL, aI_sA, aI_sM, aL_sI, aL_sL, aL_sA, aL_sM, oi_5]; try dsimp only
          intro p2
          refine ⟨fun h3 => ?_, fun h3 => ?_⟩
          · exact hW _ 100 [(0, .ref 1000), (1, .int x1), (2, .int x2), (3, .int x3), (4, .int x4), (5, .int x5), (6, .int x6)] _ _ _ (by simp [rdl, rky, Value.category]) ((ih m1 hm1).2.2.2.2.2.2.2.2.1 x1 x2 x3 x4 x5 x6 _ hz)
          · exact hW _ 96 [(0, .ref 1000), (1, .int x1), (2, .int x2), (3, .int x3), (4, .int x4), (5, .int x5), (6, .int x6)] _ _ _ (by simp [rdl, rky, Value.category]) ((ih m1 hm1).2.2.2.2.2.2.2.1 x1 x2 x3 x4 x5 x6 _ hz)
        · intro x1 x2 x3 x4 x5 x6 Y hz
          refine hB _ _ _ _ _ (fun m1 hm1 => ?_)
          dsimp only [ugo, uwp, ust, uct, rfd, Bcall, Bcall_96, Nat.beq, lv_args, rlk, rs1, rs2, rdl, rky, rcd, rno, rsw, Value.category, List.filter, List.take, List.drop, List.reverse, List.reverseAux, List.cons_append, List.nil_append, Option.toList, Int.toNat, Int.reduceToNat, if_pos, if_neg, reduceIte, ↓reduceIte, Nat.reduceAdd, Nat.reduceEqDiff, Nat.reduceBEq, beq_self_eq_true, Bool.not_true, Bool.not_false, Bool.and_true, Bool.and_false, Bool.true_and, Bool.false_and, gI_sI, gI_sL, gI_sA, gI_sM, gL_sI, gL_sL, gL_sA, gL_sM, aI_sI, aI_sL, aI_sA, aI_sM, aL_sI, aL_sL, aL_sA, aL_sM, oi_1]; try dsimp only
          exact hW _ 101 [(0, .ref 1000), (1, .int x1), (2, .int x2), (3, .int x3), (4, .int x4), (5, .int x5), (6, .int x6)] _ _ _ (by simp [rdl, rky, Value.category]) ((ih m1 hm1).2.2.2.2.2.2.2.2.2.1 x1 x2 x3 x4 x5 x6 1 _ hz)
        · intro x1 x2 x3 x4 x5 x6 Y hz
          refine hB _ _ _ _ _ (fun m1 hm1 => ?_)
          dsimp only [ugo, uwp, ust, uct, rfd, Bcall, Bcall_100, Nat.beq, lv_args, rlk, rs1, rs2, rdl, rky, rcd, rno, rsw, Value.category, List.filter, List.take, List.drop, List.reverse, List.reverseAux, List.cons_append, List.nil_append, Option.toList, Int.toNat, Int.reduceToNat, if_pos, if_neg, reduceIte, ↓reduceIte, Nat.reduceAdd, Nat.reduceEqDiff, Nat.reduceBEq, beq_self_eq_true, Bool.not_true, Bool.not_false, Bool.and_true, Bool.and_false, Bool.true_and, Bool.false_and, gI_sI, gI_sL, gI_sA, gI_sM, gL_sI, gL_sL, gL_sA, gL_sM, aI_sI, aI_sL, aI_sA, aI_sM, aL_sI, aL_sL, aL_sA, aL_sM, oi_0]; try dsimp only
          exact hW _ 101 [(0, .ref 1000), (1, .int x1), (2, .int x2), (3, .int x3), (4, .int x4), (5, .int x5), (6, .int x6)] _ _ _ (by simp [rdl, rky, Value.category]) ((ih m1 hm1).2.2.2.2.2.2.2.2.2.1 x1 x2 x3 x4 x5 x6 0 _ hz)
        · intro x1 x2 x3 x4 x5 x6 s0 Y hz
          refine hB _ _ _ _ _ (fun m1 hm1 => ?_)
          dsimp only [ugo, uwp, ust, uct, rfd, Bcall, Bcall_101, Nat.beq, lv_args, rlk, rs1, rs2, rdl, rky, rcd, rno, rsw, Value.category, List.filter, List.take, List.drop, List.reverse, List.reverseAux, List.cons_append, List.nil_append, Option.toList, Int.toNat, Int.reduceToNat, if_pos, if_neg, reduceIte, ↓reduceIte, Nat.reduceAdd, Nat.reduceEqDiff, Nat.reduceBEq, beq_self_eq_true, Bool.not_true, Bool.not_false, Bool.and_true, Bool.and_false, Bool.true_and, Bool.false_and, gI_sI, gI_sL, gI_sA, gI_sM, gL_sI, gL_sL, gL_sA, gL_sM, aI_sI, aI_sL, aI_sA, aI_sM, aL_sI, aL_sL, aL_sA, aL_sM, oi_1]; try dsimp only
          exact hW _ 29 [(0, .ref 1000), (1, .int x1), (2, .int x2), (3, .int x3), (4, .int x4), (5, .int s0), (6, .int (x6 + 1))] _ _ _ (by simp [rdl, rky, Value.category]) ((ih m1 hm1).2.1 x1 x2 x3 x4 s0 (x6 + 1) _ hz)
        · intro x1 x2 x3 x4 x5 x6 Y hz
          refine hB _ _ _ _ _ (fun m1 hm1 => ?_)
          dsimp only [ugo, uwp, ust, uct, rfd, Bcall, Bcall_109, Nat.beq, lv_args, rlk, rs1, rs2, rdl, rky, rcd, rno, rsw, Value.category, List.filter, List.take, List.drop, List.reverse, List.reverseAux, List.cons_append, List.nil_append, Option.toList, Int.toNat, Int.reduceToNat, if_pos, if_neg, reduceIte, ↓reduceIte, Nat.reduceAdd, Nat.reduceEqDiff, Nat.reduceBEq, beq_self_eq_true, Bool.not_true, Bool.not_false, Bool.and_true, Bool.and_false, Bool.true_and, Bool.false_and, gI_sI, gI_sL, gI_sA, gI_sM, gL_sI, gL_sL, gL_sA, gL_sM, aI_sI, aI_sL, aI_sA, aI_sM, aL_sI, aL_sL, aL_sA, aL_sM, oi_m2]; try dsimp only
          intro p2
          refine ⟨fun h3 => ?_, fun h3 => ?_⟩
          · exact hW _ 128 [(0, .ref 1000), (1, .int x1), (2, .int x2), (3, .int x3), (4, .int x4), (5, .int x5), (6, .int x6)] _ _ _ (by simp [rdl, rky, Value.category]) ((ih m1 hm1).2.2.2.2.2.2.2.2.2.2.2.2.1 x1 x2 x3 x4 x5 x6 _ hz)
          · exact hW _ 122 [(0, .ref 1000), (1, .int x1), (2, .int x2), (3, .int x3), (4, .int x4), (5, .int x5), (6, .int x6)] _ _ _ (by simp [rdl, rky, Value.category]) ((ih m1 hm1).2.2.2.2.2.2.2.2.2.2.2.1 x1 x2 x3 x4 x5 x6 _ hz)
        · intro x1 x2 x3 x4 x5 x6 Y hz
          refine hB _ _ _ _ _ (fun m1 hm1 => ?_)
          dsimp only [ugo, uwp, ust, uct, rfd, Bcall, Bcall_122, Nat.beq, lv_args, rlk, rs1, rs2, rdl, rky, rcd, rno, rsw, Value.category, List.filter, List.take, List.drop, List.reverse, List.reverseAux, List.cons_append, List.nil_append, Option.toList, Int.toNat, Int.reduceToNat, if_pos, if_neg, reduceIte, ↓reduceIte, Nat.reduceAdd, Nat.reduceEqDiff, Nat.reduceBEq, beq_self_eq_true, Bool.not_true, Bool.not_false, Bool.and_true, Bool.and_false, Bool.true_and, Bool.false_and, gI_sI, gI_sL, gI_sA, gI_sM, gL_sI, gL_sL, gL_sA, gL_sM, aI_sI, aI_sL, aI_sA, aI_sM, aL_sI, aL_sL, aL_sA, aL_sM]; try dsimp only
          refine ⟨trivial, fun w2 τ2 hq2 => ?_⟩
          obtain ⟨rfl, rfl⟩ := hq2 trivial
          dsimp only [Option.toList, List.cons_append, List.nil_append, Nat.beq, gI_sI, gI_sL, gI_sA, gI_sM, gL_sI, gL_sL, gL_sA, gL_sM, aI_sI, aI_sL, aI_sA, aI_sM, aL_sI, aL_sL, aL_sA, aL_sM]
          unfold Qv_callB
          try dsimp only
          exact ⟨rfl, Or.inl ⟨hnn, hz⟩⟩
        · intro x1 x2 x3 x4 x5 x6 Y hz
          refine hB _ _ _ _ _ (fun m1 hm1 => ?_)
          dsimp only [ugo, uwp, ust, uct, rfd, Bcall, Bcall_128, Nat.beq, lv_args, rlk, rs1, rs2, rdl, rky, rcd, rno, rsw, Value.category, List.filter, List.take, List.drop, List.reverse, List.reverseAux, List.cons_append, List.nil_append, Option.toList, Int.toNat, Int.reduceToNat, if_pos, if_neg, reduceIte, ↓reduceIte, Nat.reduceAdd, Nat.reduceEqDiff, Nat.reduceBEq, beq_self_eq_true, Bool.not_true, Bool.not_false, Bool.and_true, Bool.and_false, Bool.true_and, Bool.false_and, gI_sI, gI_sL, gI_sA, gI_sM, gL_sI, gL_sL, gL_sA, gL_sM, aI_sI, aI_sL, aI_sA, aI_sM, aL_sI, aL_sL, aL_sA, aL_sM, oi_0, oi_m2]; try dsimp only
          exact hW _ 135 [(0, .ref 1000), (1, .int x1), (2, .int x2), (3, .int x3), (4, .int x4), (5, .int x5), (6, .int (-2)), (7, .int 0)] _ _ _ (by simp [rdl, rky, Value.category]) ((ih m1 hm1).2.2.2.2.2.2.2.2.2.2.2.2.2.1 x1 x2 x3 x4 x5 (-2) 0 _ hz)
        · intro x1 x2 x3 x4 x5 x6 x7 Y hz
          refine hB _ _ _ _ _ (fun m1 hm1 => ?_)
          dsimp only [ugo, uwp, ust, uct, rfd, Bcall, Bcall_135, Nat.beq, lv_args, rlk, rs1, rs2, rdl, rky, rcd, rno, rsw, Value.category, List.filter, List.take, List.drop, List.reverse, List.reverseAux, List.cons_append, List.nil_append, Option.toList, Int.toNat, Int.reduceToNat, if_pos, if_neg, reduceIte, ↓reduceIte, Nat.reduceAdd, Nat.reduceEqDiff, Nat.reduceBEq, beq_self_eq_true, Bool.not_true, Bool.not_false, Bool.and_true, Bool.and_false, Bool.true_and, Bool.false_and, gI_sI, gI_sL, gI_sA, gI_sM, gL_sI, gL_sL, gL_sA, gL_sM, aI_sI, aI_sL, aI_sA, aI_sM, aL_sI, aL_sL, aL_sA, aL_sM, oi_12]; try dsimp only
          refine ⟨fun h2 => ?_, fun h2 => ?_⟩
          · exact hW _ 271 [(0, .ref 1000), (1, .int x1), (2, .int x2), (3, .int x3), (4, .int x4), (5, .int x5), (6, .int x6), (7, .int x7)] _ _ _ (by simp [rdl, rky, Value.category]) ((ih m1 hm1).2.2.2.2.2.2.2.2.2.2.2.2.2.2.2.2.2.2.2.2.2.2.2.2.2.2.2.2.2.2.2.2.2.1 x1 x2 x3 x4 x5 x6 x7 _ hz)
          · exact hW _ 142 [(0, .ref 1000), (1, .int x1), (2, .int x2), (3, .int x3), (4, .int x4), (5, .int x5), (6, .int x6), (7, .int x7)] _ _ _ (by simp [rdl, rky, Value.category]) ((ih m1 hm1).2.2.2.2.2.2.2.2.2.2.2.2.2.2.1 x1 x2 x3 x4 x5 x6 x7 _ hz)
        · intro x1 x2 x3 x4 x5 x6 x7 Y hz
          refine hB _ _ _ _ _ (fun m1 hm1 => ?_)
          dsimp only [ugo, uwp, ust, uct, rfd, Bcall, Bcall_142, Nat.beq, lv_args, rlk, rs1, rs2, rdl, rky, rcd, rno, rsw, Value.category, List.filter, List.take, List.drop, List.reverse, List.reverseAux, List.cons_append, List.nil_append, Option.toList, Int.toNat, Int.reduceToNat, if_pos, if_neg, reduceIte, ↓reduceIte, Nat.reduceAdd, Nat.reduceEqDiff, Nat.reduceBEq, beq_self_eq_true, Bool.not_true, Bool.not_false, Bool.and_true, Bool.and_false, Bool.true_and, Bool.false_and, gI_sI, gI_sL, gI_sA, gI_sM, gL_sI, gL_sL, gL_sA, gL_sM, aI_sI, aI_sL, aI_sA, aI_sM, aL_sI, aL_sL, aL_sA, aL_sM]; try dsimp only
          refine ⟨trivial, fun w2 τ2 hq2 => ?_⟩
          obtain ⟨rfl, b2, rfl, hb2⟩ := hq2 trivial
          try rw [show (x7).toInt = (x7).toInt from (rfl : (x7).toInt = (x7).toInt)] at hb2
          dsimp only [Option.toList, List.cons_append, List.nil_append, Nat.beq, gI_sI, gI_sL, gI_sA, gI_sM, gL_sI, gL_sL, gL_sA, gL_sM, aI_sI, aI_sL, aI_sA, aI_sM, aL_sI, aL_sL, aL_sA, aL_sM]
          refine ⟨fun h3 => ?_, fun h3 => ?_⟩
          · exact hW _ 265 [(0, .ref 1000), (1, .int x1), (2, .int x2), (3, .int x3), (4, .int x4), (5, .int x5), (6, .int x6), (7, .int x7)] _ _ _ (by simp [rdl, rky, Value.category]) ((ih m1 hm1).2.2.2.2.2.2.2.2.2.2.2.2.2.2.2.2.2.2.2.2.2.2.2.2.2.2.2.2.2.2.2.2.1 x1 x2 x3 x4 x5 x6 x7 _ hz)
          · exact hW _ 151 [(0, .ref 1000), (1, .int x1), (2, .int x2), (3, .int x3), (4, .int x4), (5, .int x5), (6, .int x6), (7, .int x7)] _ _ _ (by simp [rdl, rky, Value.category]) ((ih m1 hm1).2.2.2.2.2.2.2.2.2.2.2.2.2.2.2.1 x1 x2 x3 x4 x5 x6 x7 _ hz)
        · intro x1 x2 x3 x4 x5 x6 x7 Y hz
          refine hB _ _ _ _ _ (fun m1 hm1 => ?_)
          dsimp only [ugo, uwp, ust, uct, rfd, Bcall, Bcall_151, Nat.beq, lv_args, rlk, rs1, rs2, rdl, rky, rcd, rno, rsw, Value.category, List.filter, List.take, List.drop, List.reverse, List.reverseAux, List.cons_append, List.nil_append, Option.toList, Int.toNat, Int.reduceToNat, if_pos, if_neg, reduceIte, ↓reduceIte, Nat.reduceAdd, Nat.reduceEqDiff, Nat.reduceBEq, beq_self_eq_true, Bool.not_true, Bool.not_false, Bool.and_true, Bool.and_false, Bool.true_and, Bool.false_and, gI_sI, gI_sL, gI_sA, gI_sM, gL_sI, gL_sL, gL_sA, gL_sM, aI_sI, aI_sL, aI_sA, aI_sM, aL_sI, aL_sL, aL_sA, aL_sM]; try dsimp only
          refine ⟨trivial, fun w2 τ2 hq2 => ?_⟩
          obtain ⟨rfl, b2, rfl, hb2⟩ := hq2 trivial
          dsimp only [Option.toList, List.cons_append, List.nil_append, Nat.beq, gI_sI, gI_sL, gI_sA, gI_sM, gL_sI, gL_sL, gL_sA, gL_sM, aI_sI, aI_sL, aI_sA, aI_sM, aL_sI, aL_sL, aL_sA, aL_sM]
          refine ⟨fun h3 => ?_, fun h3 => ?_⟩
          · exact hW _ 265 [(0, .ref 1000), (1, .int x1), (2, .int x2), (3, .int x3), (4, .int x4), (5, .int x5), (6, .int x6), (7, .int x7)] _ _ _ (by simp [rdl, rky, Value.category]) ((ih m1 hm1).2.2.2.2.2.2.2.2.2.2.2.2.2.2.2.2.2.2.2.2.2.2.2.2.2.2.2.2.2.2.2.2.1 x1 x2 x3 x4 x5 x6 x7 _ hz)
          · exact hW _ 161 [(0, .ref 1000), (1, .int x1), (2, .int x2), (3, .int x3), (4, .int x4), (5, .int x5), (6, .int x6), (7, .int x7)] _ _ _ (by simp [rdl, rky, Value.category]) ((ih m1 hm1).2.2.2.2.2.2.2.2.2.2.2.2.2.2.2.2.1 x1 x2 x3 x4 x5 x6 x7 _ hz)
        · intro x1 x2 x3 x4 x5 x6 x7 Y hz
          refine hB _ _ _ _ _ (fun m1 hm1 => ?_)
          dsimp only [ugo, uwp, ust, uct, rfd, Bcall, Bcall_161, Nat.beq, lv_args, rlk, rs1, rs2, rdl, rky, rcd, rno, rsw, Value.category, List.filter, List.take, List.drop, List.reverse, List.reverseAux, List.cons_append, List.nil_append, Option.toList, Int.toNat, Int.reduceToNat, if_pos, if_neg, reduceIte, ↓reduceIte, Nat.reduceAdd, Nat.reduceEqDiff, Nat.reduceBEq, beq_self_eq_true, Bool.not_true, Bool.not_false, Bool.and_true, Bool.and_false, Bool.true_and, Bool.false_and, gI_sI, gI_sL, gI_sA, gI_sM, gL_sI, gL_sL, gL_sA, gL_sM, aI_sI, aI_sL, aI_sA, aI_sM, aL_sI, aL_sL, aL_sA, aL_sM]; try dsimp only
          refine ⟨trivial, fun w2 τ2 hq2 => ?_⟩
          obtain ⟨rfl, b2, rfl, hb2⟩ := hq2 trivial
          dsimp only [Option.toList, List.cons_append, List.nil_append, Nat.beq, gI_sI, gI_sL, gI_sA, gI_sM, gL_sI, gL_sL, gL_sA, gL_sM, aI_sI, aI_sL, aI_sA, aI_sM, aL_sI, aL_sL, aL_sA, aL_sM]
          refine ⟨fun h3 => ?_, fun h3 => ?_⟩
          · exact hW _ 176 [(0, .ref 1000), (1, .int x1), (2, .int x2), (3, .int x3), (4, .int x4), (5, .int x5), (6, .int x6), (7, .int x7)] _ _ _ (by simp [rdl, rky, Value.category]) ((ih m1 hm1).2.2.2.2.2.2.2.2.2.2.2.2.2.2.2.2.2.2.1 x1 x2 x3 x4 x5 x6 x7 _ hz)
          · exact hW _ 173 [(0, .ref 1000), (1, .int x1), (2, .int x2), (3, .int x3), (4, .int x4), (5, .int x5), (6, .int x6), (7, .int x7)] _ _ _ (by simp [rdl, rky, Value.category]) ((ih m1 hm1).2.2.2.2.2.2.2.2.2.2.2.2.2.2.2.2.2.1 x1 x2 x3 x4 x5 x6 x7 _ hz)
        · intro x1 x2 x3 x4 x5 x6 x7 Y hz
          refine hB _ _ _ _ _ (fun m1 hm1 => ?_)
          dsimp only [ugo, uwp, ust, uct, rfd, Bcall, Bcall_173, Nat.beq, lv_args, rlk, rs1, rs2, rdl, rky, rcd, rno, rsw, Value.category, List.filter, List.take, List.drop, List.reverse, List.reverseAux, List.cons_append, List.nil_append, Option.toList, Int.toNat, Int.reduceToNat, if_pos, if_neg, reduceIte, ↓reduceIte, Nat.reduceAdd, Nat.reduceEqDiff, Nat.reduceBEq, beq_self_eq_true, Bool.not_true, Bool.not_false, Bool.and_true, Bool.and_false, Bool.true_and, Bool.false_and, gI_sI, gI_sL, gI_sA, gI_sM, gL_sI, gL_sL, gL_sA, gL_sM, aI_sI, aI_sL, aI_sA, aI_sM, aL_sI, aL_sL, aL_sA, aL_sM]; try dsimp only
          exact hW _ 265 [(0, .ref 1000), (1, .int x1), (2, .int x2), (3, .int x3), (4, .int x4), (5, .int x5), (6, .int x6), (7, .int x7)] _ _ _ (by simp [rdl, rky, Value.category]) ((ih m1 hm1).2.2.2.2.2.2.2.2.2.2.2.2.2.2.2.2.2.2.2.2.2.2.2.2.2.2.2.2.2.2.2.2.1 x1 x2 x3 x4 x5 x6 x7 _ hz)
        · intro x1 x2 x3 x4 x5 x6 x7 Y hz
          refine hB _ _ _ _ _ (fun m1 hm1 => ?_)
          dsimp only [ugo, uwp, ust, uct, rfd, Bcall, Bcall_176, Nat.beq, lv_args, rlk, rs1, rs2, rdl, rky, rcd, rno, rsw, Value.category, List.filter, List.take, List.drop, List.reverse, List.reverseAux, List.cons_append, List.nil_append, Option.toList, Int.toNat, Int.reduceToNat, if_pos, if_neg, reduceIte, ↓reduceIte, Nat.reduceAdd, Nat.reduceEqDiff, Nat.reduceBEq, beq_self_eq_true, Bool.not_true, Bool.not_false, Bool.and_true, Bool.and_false, Bool.true_and, Bool.false_and, gI_sI, gI_sL, gI_sA, gI_sM, gL_sI, gL_sL, gL_sA, gL_sM, aI_sI, aI_sL, aI_sA, aI_sM, aL_sI, aL_sL, aL_sA, aL_sM, oi_0, oi_1]; try dsimp only
          exact hW _ 182 [(0, .ref 1000), (1, .int x1), (2, .int x2), (3, .int x3), (4, .int x4), (5, .int x5), (6, .int x6), (7, .int x7), (8, .int 1), (9, .int 0)] _ _ _ (by simp [rdl, rky, Value.category]) ((ih m1 hm1).2.2.2.2.2.2.2.2.2.2.2.2.2.2.2.2.2.2.2.1 x1 x2 x3 x4 x5 x6 x7 1 0 _ hz)
        · intro x1 x2 x3 x4 x5 x6 x7 x8 x9 Y hz
          refine hB _ _ _ _ _ (fun m1 hm1 => ?_)
          dsimp only [ugo, uwp, ust, uct, rfd, Bcall, Bcall_182, Nat.beq, lv_args, rlk, rs1, rs2, rdl, rky, rcd, rno, rsw, Value.category, List.filter, List.take, List.drop, List.reverse, List.reverseAux, List.cons_append, List.nil_append, Option.toList, Int.toNat, Int.reduceToNat, if_pos, if_neg, reduceIte, ↓reduceIte, Nat.reduceAdd, Nat.reduceEqDiff, Nat.reduceBEq, beq_self_eq_true, Bool.not_true, Bool.not_false, Bool.and_true, Bool.and_false, Bool.true_and, Bool.false_and, gI_sI, gI_sL, gI_sA, gI_sM, gL_sI, gL_sL, gL_sA, gL_sM, aI_sI, aI_sL, aI_sA, aI_sM, aL_sI, aL_sL, aL_sA, aL_sM, oi_12]; try dsimp only
          refine ⟨fun h2 => ?_, fun h2 => ?_⟩
          · exact hW _ 256 [(0, .ref 1000), (1, .int x1), (2, .int x2), (3, .int x3), (4, .int x4), (5, .int x5), (6, .int x6), (7, .int x7), (8, .int x8), (9, .int x9)] _ _ _ (by simp [rdl, rky, Value.category]) ((ih m1 hm1).2.2.2.2.2.2.2.2.2.2.2.2.2.2.2.2.2.2.2.2.2.2.2.2.2.2.2.2.2.2.1 x1 x2 x3 x4 x5 x6 x7 x8 x9 _ hz)
          · exact hW _ 189 [(0, .ref 1000), (1, .int x1), (2, .int x2), (3, .int x3), (4, .int x4), (5, .int x5), (6, .int x6), (7, .int x7), (8, .int x8), (9, .int x9)] _ _ _ (by simp [rdl, rky, Value.category]) ((ih m1 hm1).2.2.2.2.2.2.2.2.2.2.2.2.2.2.2.2.2.2.2.2.1 x1 x2 x3 x4 x5 x6 x7 x8 x9 _ hz)
        · intro x1 x2 x3 x4 x5 x6 x7 x8 x9 Y hz
          refine hB _ _ _ _ _ (fun m1 hm1 => ?_)
          dsimp only [ugo, uwp, ust, uct, rfd, Bcall, Bcall_189, Nat.beq, lv_args, rlk, rs1, rs2, rdl, rky, rcd, rno, rsw, Value.category, List.filter, List.take, List.drop, List.reverse, List.reverseAux, List.cons_append, List.nil_append, Option.toList, Int.toNat, Int.reduceToNat, if_pos, if_neg, reduceIte, ↓reduceIte, Nat.reduceAdd, Nat.reduceEqDiff, Nat.reduceBEq, beq_self_eq_true, Bool.not_true, Bool.not_false, Bool.and_true, Bool.and_false, Bool.true_and, Bool.false_and, gI_sI, gI_sL, gI_sA, gI_sM, gL_sI, gL_sL, gL_sA, gL_sM, aI_sI, aI_sL, aI_sA, aI_sM, aL_sI, aL_sL, aL_sA, aL_sM]; try dsimp only
          refine ⟨fun h2 => ?_, fun h2 => ?_⟩
          · exact hW _ 250 [(0, .ref 1000), (1, .int x1), (2, .int x2), (3, .int x3), (4, .int x4), (5, .int x5), (6, .int x6), (7, .int x7), (8, .int x8), (9, .int x9)] _ _ _ (by simp [rdl, rky, Value.category]) ((ih m1 hm1).2.2.2.2.2.2.2.2.2.2.2.2.2.2.2.2.2.2.2.2.2.2.2.2.2.2.2.2.2.1 x1 x2 x3 x4 x5 x6 x7 x8 x9 _ hz)
          · exact hW _ 196 [(0, .ref 1000), (1, .int x1), (2, .int x2), (3, .int x3), (4, .int x4), (5, .int x5), (6, .int x6), (7, .int x7), (8, .int x8), (9, .int x9)] _ _ _ (by simp [rdl, rky, Value.category]) ((ih m1 hm1).2.2.2.2.2.2.2.2.2.2.2.2.2.2.2.2.2.2.2.2.2.1 x1 x2 x3 x4 x5 x6 x7 x8 x9 _ hz)
        · intro x1 x2 x3 x4 x5 x6 x7 x8 x9 Y hz
          refine hB _ _ _ _ _ (fun m1 hm1 => ?_)
          dsimp only [ugo, uwp, ust, uct, rfd, Bcall, Bcall_196, Nat.beq, lv_args, rlk, rs1, rs2, rdl, rky, rcd, rno, rsw, Value.category, List.filter, List.take, List.drop, List.reverse, List.reverseAux, List.cons_append, List.nil_append, Option.toList, Int.toNat, Int.reduceToNat, if_pos, if_neg, reduceIte, ↓reduceIte, Nat.reduceAdd, Nat.reduceEqDiff, Nat.reduceBEq, beq_self_eq_true, Bool.not_true, Bool.not_false, Bool.and_true, Bool.and_false, Bool.true_and, Bool.false_and, gI_sI, gI_sL, gI_sA, gI_sM, gL_sI, gL_sL, gL_sA, gL_sM, aI_sI, aI_sL, aI_sA, aI_sM, aL_sI, aL_sL, aL_sA, aL_sM]; try dsimp only
          refine ⟨trivial, fun w2 τ2 hq2 => ?_⟩
          obtain ⟨rfl, b2, rfl, hb2⟩ := hq2 trivial
          try rw [show (x9).toInt = (x9).toInt from (rfl : (x9).toInt = (x9).toInt)] at hb2
          dsimp only [Option.toList, List.cons_append, List.nil_append, Nat.beq, gI_sI, gI_sL, gI_sA, gI_sM, gL_sI, gL_sL, gL_sA, gL_sM, aI_sI, aI_sL, aI_sA, aI_sM, aL_sI, aL_sL, aL_sA, aL_sM]
          refine ⟨fun h3 => ?_, fun h3 => ?_⟩
          · exact hW _ 250 [(0, .ref 1000), (1, .int x1), (2, .int x2), (3, .int x3), (4, .int x4), (5, .int x5), (6, .int x6), (7, .int x7), (8, .int x8), (9, .int x9)] _ _ _ (by simp [rdl, rky, Value.category]) ((ih m1 hm1).2.2.2.2.2.2.2.2.2.2.2.2.2.2.2.2.2.2.2.2.2.2.2.2.2.2.2.2.2.1 x1 x2 x3 x4 x5 x6 x7 x8 x9 _ hz)
          · exact hW _ 205 [(0, .ref 1000), (1, .int x1), (2, .int x2), (3, .int x3), (4, .int x4), (5, .int x5), (6, .int x6), (7, .int x7), (8, .int x8), (9, .int x9)] _ _ _ (by simp [rdl, rky, Value.category]) ((ih m1 hm1).2.2.2.2.2.2.2.2.2.2.2.2.2.2.2.2.2.2.2.2.2.2.1 x1 x2 x3 x4 x5 x6 x7 x8 x9 _ hz)
        · intro x1 x2 x3 x4 x5 x6 x7 x8 x9 Y hz
          refine hB _ _ _ _ _ (fun m1 hm1 => ?_)
          dsimp only [ugo, uwp, ust, uct, rfd, Bcall, Bcall_205, Nat.beq, lv_args, rlk, rs1, rs2, rdl, rky, rcd, rno, rsw, Value.category, List.filter, List.take, List.drop, List.reverse, List.reverseAux, List.cons_append, List.nil_append, Option.toList, Int.toNat, Int.reduceToNat, if_pos, if_neg, reduceIte, ↓reduceIte, Nat.reduceAdd, Nat.reduceEqDiff, Nat.reduceBEq, beq_self_eq_true, Bool.not_true, Bool.not_false, Bool.and_true, Bool.and_false, Bool.true_and, Bool.false_and, gI_sI, gI_sL, gI_sA, gI_sM, gL_sI, gL_sL, gL_sA, gL_sM, aI_sI, aI_sL, aI_sA, aI_sM, aL_sI, aL_sL, aL_sA, aL_sM]; try dsimp only
          refine ⟨trivial, fun w2 τ2 hq2 => ?_⟩
          obtain ⟨rfl, b2, rfl, hb2⟩ := hq2 trivial
          dsimp only [Option.toList, List.cons_append, List.nil_append, Nat.beq, gI_sI, gI_sL, gI_sA, gI_sM, gL_sI, gL_sL, gL_sA, gL_sM, aI_sI, aI_sL, aI_sA, aI_sM, aL_sI, aL_sL, aL_sA, aL_sM]
          refine ⟨fun h3 => ?_, fun h3 => ?_⟩
          · exact hW _ 250 [(0, .ref 1000), (1, .int x1), (2, .int x2), (3, .int x3), (4, .int x4), (5, .int x5), (6, .int x6), (7, .int x7), (8, .int x8), (9, .int x9)] _ _ _ (by simp [rdl, rky, Value.category]) ((ih m1 hm1).2.2.2.2.2.2.2.2.2.2.2.2.2.2.2.2.2.2.2.2.2.2.2.2.2.2.2.2.2.1 x1 x2 x3 x4 x5 x6 x7 x8 x9 _ hz)
          · exact hW _ 215 [(0, .ref 1000), (1, .int x1), (2, .int x2), (3, .int x3), (4, .int x4), (5, .int x5), (6, .int x6), (7, .int x7), (8, .int x8), (9, .int x9)] _ _ _ (by simp [rdl, rky, Value.category]) ((ih m1 hm1).2.2.2.2.2.2.2.2.2.2.2.2.2.2.2.2.2.2.2.2.2.2.2.1 x1 x2 x3 x4 x5 x6 x7 x8 x9 _ hz)
        · intro x1 x2 x3 x4 x5 x6 x7 x8 x9 Y hz
          refine hB _ _ _ _ _ (fun m1 hm1 => ?_)
          dsimp only [ugo, uwp, ust, uct, rfd, Bcall, Bcall_215, Nat.beq, lv_args, rlk, rs1, rs2, rdl, rky, rcd, rno, rsw, Value.category, List.filter, List.take, List.drop, List.reverse, List.reverseAux, List.cons_append, List.nil_append, Option.toList, Int.toNat, Int.reduceToNat, if_pos, if_neg, reduceIte, ↓reduceIte, Nat.reduceAdd, Nat.reduceEqDiff, Nat.reduceBEq, beq_self_eq_true, Bool.not_true, Bool.not_false, Bool.and_true, Bool.and_false, Bool.true_and, Bool.false_and, gI_sI, gI_sL, gI_sA, gI_sM, gL_sI, gL_sL, gL_sA, gL_sM, aI_sI, aI_sL, aI_sA, aI_sM, aL_sI, aL_sL, aL_sA, aL_sM]; try dsimp only
          refine ⟨trivial, fun w2 τ2 hq2 => ?_⟩
          obtain ⟨rfl, b2, rfl, hb2⟩ := hq2 trivial
          dsimp only [Option.toList, List.cons_append, List.nil_append, Nat.beq, gI_sI, gI_sL, gI_sA, gI_sM, gL_sI, gL_sL, gL_sA, gL_sM, aI_sI, aI_sL, aI_sA, aI_sM, aL_sI, aL_sL, aL_sA, aL_sM]
          refine ⟨fun h3 => ?_, fun h3 => ?_⟩
          · exact hW _ 250 [(0, .ref 1000), (1, .int x1), (2, .int x2), (3, .int x3), (4, .int x4), (5, .int x5), (6, .int x6), (7, .int x7), (8, .int x8), (9, .int x9)] _ _ _ (by simp [rdl, rky, Value.category]) ((ih m1 hm1).2.2.2.2.2.2.2.2.2.2.2.2.2.2.2.2.2.2.2.2.2.2.2.2.2.2.2.2.2.1 x1 x2 x3 x4 x5 x6 x7 x8 x9 _ hz)
          · exact hW _ 227 [(0, .ref 1000), (1, .int x1), (2, .int x2), (3, .int x3), (4, .int x4), (5, .int x5), (6, .int x6), (7, .int x7), (8, .int x8), (9, .int x9)] _ _ _ (by simp [rdl, rky, Value.category]) ((ih m1 hm1).2.2.2.2.2.2.2.2.2.2.2.2.2.2.2.2.2.2.2.2.2.2.2.2.1 x1 x2 x3 x4 x5 x6 x7 x8 x9 _ hz)
        · intro x1 x2 x3 x4 x5 x6 x7 x8 x9 Y hz
          refine hB _ _ _ _ _ (fun m1 hm1 => ?_)
          dsimp only [ugo, uwp, ust, uct, rfd, Bcall, Bcall_227, Nat.beq, lv_args, rlk, rs1, rs2, rdl, rky, rcd, rno, rsw, Value.category, List.filter, List.take, List.drop, List.reverse, List.reverseAux, List.cons_append, List.nil_append, Option.toList, Int.toNat, Int.reduceToNat, if_pos, if_neg, reduceIte, ↓reduceIte, Nat.reduceAdd, Nat.reduceEqDiff, Nat.reduceBEq, beq_self_eq_true, Bool.not_true, Bool.not_false, Bool.and_true, Bool.and_false, Bool.true_and, Bool.false_and, gI_sI, gI_sL, gI_sA, gI_sM, gL_sI, gL_sL, gL_sA, gL_sM, aI_sI, aI_sL, aI_sA, aI_sM, aL_sI, aL_sL, aL_sA, aL_sM]; try dsimp only
          refine ⟨fun h2 => ?_, fun h2 => ?_⟩
          · exact hW _ 247 [(0, .ref 1000), (1, .int x1), (2, .int x2), (3, .int x3), (4, .int x4), (5, .int x5), (6, .int x6), (7, .int x7), (8, .int x8), (9, .int x9)] _ _ _ (by simp [rdl, rky, Value.category]) ((ih m1 hm1).2.2.2.2.2.2.2.2.2.2.2.2.2.2.2.2.2.2.2.2.2.2.2.2.2.2.2.1 x1 x2 x3 x4 x5 x6 x7 x8 x9 _ hz)
          · exact hW _ 232 [(0, .ref 1000), (1, .int x1), (2, .int x2), (3, .int x3), (4, .int x4), (5, .int x5), (6, .int x6), (7, .int x7), (8, .int x8), (9, .int x9)] _ _ _ (by simp [rdl, rky, Value.category]) ((ih m1 hm1).2.2.2.2.2.2.2.2.2.2.2.2.2.2.2.2.2.2.2.2.2.2.2.2.2.1 x1 x2 x3 x4 x5 x6 x7 x8 x9 _ hz)
        · intro x1 x2 x3 x4 x5 x6 x7 x8 x9 Y hz
          refine hB _ _ _ _ _ (fun m1 hm1 => ?_)
          dsimp only [ugo, uwp, ust, uct, rfd, Bcall, Bcall_232, Nat.beq, lv_args, rlk, rs1, rs2, rdl, rky, rcd, rno, rsw, Value.category, List.filter, List.take, List.drop, List.reverse, List.reverseAux, List.cons_append, List.nil_append, Option.toList, Int.toNat, Int.reduceToNat, if_pos, if_neg, reduceIte, ↓reduceIte, Nat.reduceAdd, Nat.reduceEqDiff, Nat.reduceBEq, beq_self_eq_true, Bool.not_true, Bool.not_false, Bool.and_true, Bool.and_false, Bool.true_and, Bool.false_and, gI_sI, gI_sL, gI_sA, gI_sM, gL_sI, gL_sL, gL_sA, gL_sM, aI_sI, aI_sL, aI_sA, aI_sM, aL_sI, aL_sL, aL_sA, aL_sM]; try dsimp only
          refine ⟨trivial, fun w2 τ2 hq2 => ?_⟩
          obtain ⟨rfl, b2, rfl, hb2⟩ := hq2 trivial
          dsimp only [Option.toList, List.cons_append, List.nil_append, Nat.beq, gI_sI, gI_sL, gI_sA, gI_sM, gL_sI, gL_sL, gL_sA, gL_sM, aI_sI, aI_sL, aI_sA, aI_sM, aL_sI, aL_sL, aL_sA, aL_sM]
          refine ⟨fun h3 => ?_, fun h3 => ?_⟩
          · exact hW _ 247 [(0, .ref 1000), (1, .int x1), (2, .int x2), (3, .int x3), (4, .int x4), (5, .int x5), (6, .int x6), (7, .int x7), (8, .int x8), (9, .int x9)] _ _ _ (by simp [rdl, rky, Value.category]) ((ih m1 hm1).2.2.2.2.2.2.2.2.2.2.2.2.2.2.2.2.2.2.2.2.2.2.2.2.2.2.2.1 x1 x2 x3 x4 x5 x6 x7 x8 x9 _ hz)
          · exact hW _ 243 [(0, .ref 1000), (1, .int x1), (2, .int x2), (3, .int x3), (4, .int x4), (5, .int x5), (6, .int x6), (7, .int x7), (8, .int x8), (9, .int x9)] _ _ _ (by simp [rdl, rky, Value.category]) ((ih m1 hm1).2.2.2.2.2.2.2.2.2.2.2.2.2.2.2.2.2.2.2.2.2.2.2.2.2.2.1 x1 x2 x3 x4 x5 x6 x7 x8 x9 _ hz)
        · intro x1 x2 x3 x4 x5 x6 x7 x8 x9 Y hz
          refine hB _ _ _ _ _ (fun m1 hm1 => ?_)
          dsimp only [ugo, uwp, ust, uct, rfd, Bcall, Bcall_243, Nat.beq, lv_args, rlk, rs1, rs2, rdl, rky, rcd, rno, rsw, Value.category, List.filter, List.take, List.drop, List.reverse, List.reverseAux, List.cons_append, List.nil_append, Option.toList, Int.toNat, Int.reduceToNat, if_pos, if_neg, reduceIte, ↓reduceIte, Nat.reduceAdd, Nat.reduceEqDiff, Nat.reduceBEq, beq_self_eq_true, Bool.not_true, Bool.not_false, Bool.and_true, Bool.and_false, Bool.true_and, Bool.false_and, gI_sI, gI_sL, gI_sA, gI_sM, gL_sI, gL_sL, gL_sA, gL_sM, aI_sI, aI_sL, aI_sA, aI_sM, aL_sI, aL_sL, aL_sA, aL_sM, oi_1]; try dsimp only
          exact hW _ 248 [(0, .ref 1000), (1, .int x1), (2, .int x2), (3, .int x3), (4, .int x4), (5, .int x5), (6, .int x6), (7, .int x7), (8, .int x8), (9, .int x9)] _ _ _ (by simp [rdl, rky, Value.category]) ((ih m1 hm1).2.2.2.2.2.2.2.2.2.2.2.2.2.2.2.2.2.2.2.2.2.2.2.2.2.2.2.2.1 x1 x2 x3 x4 x5 x6 x7 x8 x9 1 _ hz)
        · intro x1 x2 x3 x4 x5 x6 x7 x8 x9 Y hz
          refine hB _ _ _ _ _ (fun m1 hm1 => ?_)
          dsimp only [ugo, uwp, ust, uct, rfd, Bcall, Bcall_247, Nat.beq, lv_args, rlk, rs1, rs2, rdl, rky, rcd, rno, rsw, Value.category, List.filter, List.take, List.drop, List.reverse, List.reverseAux, List.cons_append, List.nil_append, Option.toList, Int.toNat, Int.reduceToNat, if_pos, if_neg, reduceIte, ↓reduceIte, Nat.reduceAdd, Nat.reduceEqDiff, Nat.reduceBEq, beq_self_eq_true, Bool.not_true, Bool.not_false, Bool.and_true, Bool.and_false, Bool.true_and, Bool.false_and, gI_sI, gI_sL, gI_sA, gI_sM, gL_sI, gL_sL, gL_sA, gL_sM, aI_sI, aI_sL, aI_sA, aI_sM, aL_sI, aL_sL, aL_sA, aL_sM, oi_0]; try dsimp only
          exact hW _ 248 [(0, .ref 1000), (1, .int x1), (2, .int x2), (3, .int x3), (4, .int x4), (5, .int x5), (6, .int x6), (7, .int x7), (8, .int x8), (9, .int x9)] _ _ _ (by simp [rdl, rky, Value.category]) ((ih m1 hm1).2.2.2.2.2.2.2.2.2.2.2.2.2.2.2.2.2.2.2.2.2.2.2.2.2.2.2.2.1 x1 x2 x3 x4 x5 x6 x7 x8 x9 0 _ hz)
        · intro x1 x2 x3 x4 x5 x6 x7 x8 x9 s0 Y hz
          refine hB _ _ _ _ _ (fun m1 hm1 => ?_)
          dsimp only [ugo, uwp, ust, uct, rfd, Bcall, Bcall_248, Nat.beq, lv_args, rlk, rs1, rs2, rdl, rky, rcd, rno, rsw, Value.category, List.filter, List.take, List.drop, List.reverse, List.reverseAux, List.cons_append, List.nil_append, Option.toList, Int.toNat, Int.reduceToNat, if_pos, if_neg, reduceIte, ↓reduceIte, Nat.reduceAdd, Nat.reduceEqDiff, Nat.reduceBEq, beq_self_eq_true, Bool.not_true, Bool.not_false, Bool.and_true, Bool.and_false, Bool.true_and, Bool.false_and, gI_sI, gI_sL, gI_sA, gI_sM, gL_sI, gL_sL, gL_sA, gL_sM, aI_sI, aI_sL, aI_sA, aI_sM, aL_sI, aL_sL, aL_sA, aL_sM]; try dsimp only
          exact hW _ 250 [(0, .ref 1000), (1, .int x1), (2, .int x2), (3, .int x3), (4, .int x4), (5, .int x5), (6, .int x6), (7, .int x7), (8, .int s0), (9, .int x9)] _ _ _ (by simp [rdl, rky, Value.category]) ((ih m1 hm1).2.2.2.2.2.2.2.2.2.2.2.2.2.2.2.2.2.2.2.2.2.2.2.2.2.2.2.2.2.1 x1 x2 x3 x4 x5 x6 x7 s0 x9 _ hz)
        · intro x1 x2 x3 x4 x5 x6 x7 x8 x9 Y hz
          refine hB _ _ _ _ _ (fun m1 hm1 => ?_)
          dsimp only [ugo, uwp, ust, uct, rfd, Bcall, Bcall_250, Nat.beq, lv_args, rlk, rs1, rs2, rdl, rky, rcd, rno, rsw, Value.category, List.filter, List.take, List.drop, List.reverse, List.reverseAux, List.cons_append, List.nil_append, Option.toList, Int.toNat, Int.reduceToNat, if_pos, if_neg, reduceIte, ↓reduceIte, Nat.reduceAdd, Nat.reduceEqDiff, Nat.reduceBEq, beq_self_eq_true, Bool.not_true, Bool.not_false, Bool.and_true, Bool.and_false, Bool.true_and, Bool.false_and, gI_sI, gI_sL, gI_sA, gI_sM, gL_sI, gL_sL, gL_sA, gL_sM, aI_sI, aI_sL, aI_sA, aI_sM, aL_sI, aL_sL, aL_sA, aL_sM, oi_1]; try dsimp only
          exact hW _ 182 [(0, .ref 1000), (1, .int x1), (2, .int x2), (3, .int x3), (4, .int x4), (5, .int x5), (6, .int x6), (7, .int x7), (8, .int x8), (9, .int (x9 + 1))] _ _ _ (by simp [rdl, rky, Value.category]) ((ih m1 hm1).2.2.2.2.2.2.2.2.2.2.2.2.2.2.2.2.2.2.2.1 x1 x2 x3 x4 x5 x6 x7 x8 (x9 + 1) _ hz)
        · intro x1 x2 x3 x4 x5 x6 x7 x8 x9 Y hz
          refine hB _ _ _ _ _ (fun m1 hm1 => ?_)
          dsimp only [ugo, uwp, ust, uct, rfd, Bcall, Bcall_256, Nat.beq, lv_args, rlk, rs1, rs2, rdl, rky, rcd, rno, rsw, Value.category, List.filter, List.take, List.drop, List.reverse, List.reverseAux, List.cons_append, List.nil_append, Option.toList, Int.toNat, Int.reduceToNat, if_pos, if_neg, reduceIte, ↓reduceIte, Nat.reduceAdd, Nat.reduceEqDiff, Nat.reduceBEq, beq_self_eq_true, Bool.not_true, Bool.not_false, Bool.and_true, Bool.and_false, Bool.true_and, Bool.false_and, gI_sI, gI_sL, gI_sA, gI_sM, gL_sI, gL_sL, gL_sA, gL_sM, aI_sI, aI_sL, aI_sA, aI_sM, aL_sI, aL_sL, aL_sA, aL_sM]; try dsimp only
          refine ⟨fun h2 => ?_, fun h2 => ?_⟩
          · exact hW _ 265 [(0, .ref 1000), (1, .int x1), (2, .int x2), (3, .int x3), (4, .int x4), (5, .int x5), (6, .int x6), (7, .int x7)] _ _ _ (by simp [rdl, rky, Value.category]) ((ih m1 hm1).2.2.2.2.2.2.2.2.2.2.2.2.2.2.2.2.2.2.2.2.2.2.2.2.2.2.2.2.2.2.2.2.1 x1 x2 x3 x4 x5 x6 x7 _ hz)
          · exact hW _ 261 [(0, .ref 1000), (1, .int x1), (2, .int x2), (3, .int x3), (4, .int x4), (5, .int x5), (6, .int x6), (7, .int x7), (8, .int x8), (9, .int x9)] _ _ _ (by simp [rdl, rky, Value.category]) ((ih m1 hm1).2.2.2.2.2.2.2.2.2.2.2.2.2.2.2.2.2.2.2.2.2.2.2.2.2.2.2.2.2.2.2.1 x1 x2 x3 x4 x5 x6 x7 x8 x9 _ hz)
        · intro x1 x2 x3 x4 x5 x6 x7 x8 x9 Y hz
          refine hB _ _ _ _ _ (fun m1 hm1 => ?_)
          dsimp only [ugo, uwp, ust, uct, rfd, Bcall, Bcall_261, Nat.beq, lv_args, rlk, rs1, rs2, rdl, rky, rcd, rno, rsw, Value.category, List.filter, List.take, List.drop, List.reverse, List.reverseAux, List.cons_append, List.nil_append, Option.toList, Int.toNat, Int.reduceToNat, if_pos, if_neg, reduceIte, ↓reduceIte, Nat.reduceAdd, Nat.reduceEqDiff, Nat.reduceBEq, beq_self_eq_true, Bool.not_true, Bool.not_false, Bool.and_true, Bool.and_false, Bool.true_and, Bool.false_and, gI_sI, gI_sL, gI_sA, gI_sM, gL_sI, gL_sL, gL_sA, gL_sM, aI_sI, aI_sL, aI_sA, aI_sM, aL_sI, aL_sL, aL_sA, aL_sM]; try dsimp only
          exact hW _ 265 [(0, .ref 1000), (1, .int x1), (2, .int x2), (3, .int x3), (4, .int x4), (5, .int x5), (6, .int x7), (7, .int x7)] _ _ _ (by simp [rdl, rky, Value.category]) ((ih m1 hm1).2.2.2.2.2.2.2.2.2.2.2.2.2.2.2.2.2.2.2.2.2.2.2.2.2.2.2.2.2.2.2.2.1 x1 x2 x3 x4 x5 x7 x7 _ hz)
        · intro x1 x2 x3 x4 x5 x6 x7 Y hz
          refine hB _ _ _ _ _ (fun m1 hm1 => ?_)
          dsimp only [ugo, uwp, ust, uct, rfd, Bcall, Bcall_265, Nat.beq, lv_args, rlk, rs1, rs2, rdl, rky, rcd, rno, rsw, Value.category, List.filter, List.take, List.drop, List.reverse, List.reverseAux, List.cons_append, List.nil_append, Option.toList, Int.toNat, Int.reduceToNat, if_pos, if_neg, reduceIte, ↓reduceIte, Nat.reduceAdd, Nat.reduceEqDiff, Nat.reduceBEq, beq_self_eq_true, Bool.not_true, Bool.not_false, Bool.and_true, Bool.and_false, Bool.true_and, Bool.false_and, gI_sI, gI_sL, gI_sA, gI_sM, gL_sI, gL_sL, gL_sA, gL_sM, aI_sI, aI_sL, aI_sA, aI_sM, aL_sI, aL_sL, aL_sA, aL_sM, oi_1]; try dsimp only
          exact hW _ 135 [(0, .ref 1000), (1, .int x1), (2, .int x2), (3, .int x3), (4, .int x4), (5, .int x5), (6, .int x6), (7, .int (x7 + 1))] _ _ _ (by simp [rdl, rky, Value.category]) ((ih m1 hm1).2.2.2.2.2.2.2.2.2.2.2.2.2.1 x1 x2 x3 x4 x5 x6 (x7 + 1) _ hz)
        · intro x1 x2 x3 x4 x5 x6 x7 Y hz
          refine hB _ _ _ _ _ (fun m1 hm1 => ?_)
          dsimp only [ugo, uwp, ust, uct, rfd, Bcall, Bcall_271, Nat.beq, lv_args, rlk, rs1, rs2, rdl, rky, rcd, rno, rsw, Value.category, List.filter, List.take, List.drop, List.reverse, List.reverseAux, List.cons_append, List.nil_append, Option.toList, Int.toNat, Int.reduceToNat, if_pos, if_neg, reduceIte, ↓reduceIte, Nat.reduceAdd, Nat.reduceEqDiff, Nat.reduceBEq, beq_self_eq_true, Bool.not_true, Bool.not_false, Bool.and_true, Bool.and_false, Bool.true_and, Bool.false_and, gI_sI, gI_sL, gI_sA, gI_sM, gL_sI, gL_sL, gL_sA, gL_sM, aI_sI, aI_sL, aI_sA, aI_sM, aL_sI, aL_sL, aL_sA, aL_sM]; try dsimp only
          refine ⟨fun h2 => ?_, fun h2 => ?_⟩
          · exact hW _ 289 [(0, .ref 1000), (1, .int x1), (2, .int x2), (3, .int x3), (4, .int x4), (5, .int x5), (6, .int x6), (7, .int x7)] _ _ _ (by simp [rdl, rky, Value.category]) ((ih m1 hm1).2.2.2.2.2.2.2.2.2.2.2.2.2.2.2.2.2.2.2.2.2.2.2.2.2.2.2.2.2.2.2.2.2.2.2 x1 x2 x3 x4 x5 x6 x7 _ hz)
          · exact hW _ 276 [(0, .ref 1000), (1, .int x1), (2, .int x2), (3, .int x3), (4, .int x4), (5, .int x5), (6, .int x6), (7, .int x7)] _ _ _ (by simp [rdl, rky, Value.category]) ((ih m1 hm1).2.2.2.2.2.2.2.2.2.2.2.2.2.2.2.2.2.2.2.2.2.2.2.2.2.2.2.2.2.2.2.2.2.2.1 x1 x2 x3 x4 x5 x6 x7 _ hz)
        · intro x1 x2 x3 x4 x5 x6 x7 Y hz
          refine hB _ _ _ _ _ (fun m1 hm1 => ?_)
          dsimp only [ugo, uwp, ust, uct, rfd, Bcall, Bcall_276, Nat.beq, lv_args, rlk, rs1, rs2, rdl, rky, rcd, rno, rsw, Value.category, List.filter, List.take, List.drop, List.reverse, List.reverseAux, List.cons_append, List.nil_append, Option.toList, Int.toNat, Int.reduceToNat, if_pos, if_neg, reduceIte, ↓reduceIte, Nat.reduceAdd, Nat.reduceEqDiff, Nat.reduceBEq, beq_self_eq_true, Bool.not_true, Bool.not_false, Bool.and_true, Bool.and_false, Bool.true_and, Bool.false_and, gI_sI, gI_sL, gI_sA, gI_sM, gL_sI, gL_sL, gL_sA, gL_sM, aI_sI, aI_sL, aI_sA, aI_sM, aL_sI, aL_sL, aL_sA, aL_sM, oi_6]; try dsimp only
          refine ⟨trivial, fun w2 τ2 hq2 => ?_⟩
          obtain ⟨rfl, hz2⟩ := hq2 (show ¬ (6 : Int32) = 0 by decide)
          dsimp only [Option.toList, List.cons_append, List.nil_append, Nat.beq, gI_sI, gI_sL, gI_sA, gI_sM, gL_sI, gL_sL, gL_sA, gL_sM, aI_sI, aI_sL, aI_sA, aI_sM, aL_sI, aL_sL, aL_sA, aL_sM]
          refine ⟨trivial, fun w3 τ3 hq3 => ?_⟩
          obtain ⟨rfl, rfl⟩ := hq3 trivial
          dsimp only [Option.toList, List.cons_append, List.nil_append, Nat.beq, gI_sI, gI_sL, gI_sA, gI_sM, gL_sI, gL_sL, gL_sA, gL_sM, aI_sI, aI_sL, aI_sA, aI_sM, aL_sI, aL_sL, aL_sA, aL_sM]
          unfold Qv_callB
          try dsimp only
          exact ⟨rfl, Or.inl ⟨hnn, hz2⟩⟩
        · intro x1 x2 x3 x4 x5 x6 x7 Y hz
          refine hB _ _ _ _ _ (fun m1 hm1 => ?_)
          dsimp only [ugo, uwp, ust, uct, rfd, Bcall, Bcall_289, Nat.beq, lv_args, rlk, rs1, rs2, rdl, rky, rcd, rno, rsw, Value.category, List.filter, List.take, List.drop, List.reverse, List.reverseAux, List.cons_append, List.nil_append, Option.toList, Int.toNat, Int.reduceToNat, if_pos, if_neg, reduceIte, ↓reduceIte, Nat.reduceAdd, Nat.reduceEqDiff, Nat.reduceBEq, beq_self_eq_true, Bool.not_true, Bool.not_false, Bool.and_true, Bool.and_false, Bool.true_and, Bool.false_and, gI_sI, gI_sL, gI_sA, gI_sM, gL_sI, gL_sL, gL_sA, gL_sM, aI_sI, aI_sL, aI_sA, aI_sM, aL_sI, aL_sL, aL_sA, aL_sM, oi_0, oi_100]; try dsimp only
          intro p2
          intro p3
          refine ⟨trivial, fun w4 τ4 hq4 => ?_⟩
          obtain ⟨rfl, r4, rfl, hr4⟩ := hq4 trivial
          dsimp only [Option.toList, List.cons_append, List.nil_append, Nat.beq, gI_sI, gI_sL, gI_sA, gI_sM, gL_sI, gL_sL, gL_sA, gL_sM, aI_sI, aI_sL, aI_sA, aI_sM, aL_sI, aL_sL, aL_sA, aL_sM]
          refine ⟨trivial, fun w5 τ5 hq5 => ?_⟩
          obtain ⟨rfl, rfl⟩ := hq5 trivial
          dsimp only [Option.toList, List.cons_append, List.nil_append, Nat.beq, gI_sI, gI_sL, gI_sA, gI_sM, gL_sI, gL_sL, gL_sA, gL_sM, aI_sI, aI_sL, aI_sA, aI_sM, aL_sI, aL_sL, aL_sA, aL_sM]
          unfold Qv_callB
          try dsimp only
          exact ⟨rfl, Or.inl ⟨hnn, hz⟩⟩
    have t135 : (∀ q ∈ (agT T x.2.2.2), ¬ q = 5) → ∀ (N : Nat) (best m : Int32) (k : Nat), best.toInt = blT C.2.2.2 (C.1 x.1.2.2.1) (agT T x.2.2.2) k → m.toInt = (k : Int) → k ≤ 12 → K N 135 [(0, .ref 1000), (1, .int c), (2, .int t), (3, .int ((aI σ 20) (c).toNatClampNeg)), (4, .int ((gI σ 69) - ((aI σ 20) (c).toNatClampNeg))), (5, .int 1), (6, .int best), (7, .int m)] [] (sA (sI σ 69 ((gI σ 69) - ((aI σ 20) (c).toNatClampNeg))) 83 (upd (aI σ 83) (c).toNatClampNeg (-2))) := by
      intro hall N
      induction N using Nat.strongRecOn with
      | ind N loop =>
        intro best m k hbest hm hkl
        have t182 : ∀ (M : Nat), M < N → ∀ (em : MtT), C.2.2.2 k = some em → em.1 = (C.1 x.1.2.2.1) → tkT (agT T x.2.2.2) em.2.2 = true → k < 12 → MpR σ m em.2.2 → (if m = 10 then (5 : Int32) else if m = 11 then 3 else aI σ 38 m.toNatClampNeg).toInt = em.2.1 → ∀ (al o : Int32) (j : Nat), (¬ al = 0 ↔ naT C.2.2.2 (C.1 x.1.2.2.1) (agT T x.2.2.2) em.2.2 j = true) → o.toInt = (j : Int) → j ≤ 12 → K M 182 [(0, .ref 1000), (1, .int c), (2, .int t), (3, .int ((aI σ 20) (c).toNatClampNeg)), (4, .int ((gI σ 69) - ((aI σ 20) (c).toNatClampNeg))), (5, .int 1), (6, .int best), (7, .int m), (8, .int al), (9, .int o)] [] (sA (sI σ 69 ((gI σ 69) - ((aI σ 20) (c).toNatClampNeg))) 83 (upd (aI σ 83) (c).toNatClampNeg (-2))) := by
          intro M
          induction M using Nat.strongRecOn with
          | ind M inner =>
            intro hMN em hem hkey htk hk12 qm qr al o j hal ho hjl
            refine hB _ _ _ _ _ (fun m1 hm1 => ?_)
            dsimp only [ugo, uwp, ust, uct, rfd, Bcall, Bcall_182, Nat.beq, lv_args, rlk, rs1, rs2, rdl, rky, rcd, rno, rsw, Value.category, List.filter, List.take, List.drop, List.reverse, List.reverseAux, List.cons_append, List.nil_append, Option.toList, Int.toNat, Int.reduceToNat, if_pos, if_neg, reduceIte, ↓reduceIte, Nat.reduceAdd, Nat.reduceEqDiff, Nat.reduceBEq, beq_self_eq_true, Bool.not_true, Bool.not_false, Bool.and_true, Bool.and_false, Bool.true_and, Bool.false_and, gI_sI, gI_sL, gI_sA, gI_sM, gL_sI, gL_sL, gL_sA, gL_sM, aI_sI, aI_sL, aI_sA, aI_sM, aL_sI, aL_sL, aL_sA, aL_sM, oi_12]; try dsimp only
            refine ⟨fun h2 => ?_, fun h2 => ?_⟩
            · have c2 : 12 ≤ (j : Int) := (cI ho (rfl : (12 : Int32).toInt = 12)).2.2.2.2.mp h2
              refine hB _ _ _ _ _ (fun m3 hm3 => ?_)
              dsimp only [ugo, uwp, ust, uct, rfd, Bcall, Bcall_256, Nat.beq, lv_args, rlk, rs1, rs2, rdl, rky, rcd, rno, rsw, Value.category, List.filter, List.take, List.drop, List.reverse, List.reverseAux, List.cons_append, List.nil_append, Option.toList, Int.toNat, Int.reduceToNat, if_pos, if_neg, reduceIte, ↓reduceIte, Nat.reduceAdd, Nat.reduceEqDiff, Nat.reduceBEq, beq_self_eq_true, Bool.not_true, Bool.not_false, Bool.and_true, Bool.and_false, Bool.true_and, Bool.false_and, gI_sI, gI_sL, gI_sA, gI_sM, gL_sI, gL_sL, gL_sA, gL_sM, aI_sI, aI_sL, aI_sA, aI_sM, aL_sI, aL_sL, aL_sA, aL_sM]; try dsimp only
              refine ⟨fun h4 => ?_, fun h4 => ?_⟩
              · have c4 : ¬ ((naT C.2.2.2 (C.1 x.1.2.2.1) (agT T x.2.2.2) em.2.2 j = true)) := fun q => (hal).mpr q h4
                refine hB _ _ _ _ _ (fun m5 hm5 => ?_)
                dsimp only [ugo, uwp, ust, uct, rfd, Bcall, Bcall_265, Nat.beq, lv_args, rlk, rs1, rs2, rdl, rky, rcd, rno, rsw, Value.category, List.filter, List.take, List.drop, List.reverse, List.reverseAux, List.cons_append, List.nil_append, Option.toList, Int.toNat, Int.reduceToNat, if_pos, if_neg, reduceIte, ↓reduceIte, Nat.reduceAdd, Nat.reduceEqDiff, Nat.reduceBEq, beq_self_eq_true, Bool.not_true, Bool.not_false, Bool.and_true, Bool.and_false, Bool.true_and, Bool.false_and, gI_sI, gI_sL, gI_sA, gI_sM, gL_sI, gL_sL, gL_sA, gL_sM, aI_sI, aI_sL, aI_sA, aI_sM, aL_sI, aL_sL, aL_sA, aL_sM, oi_1]; try dsimp only
                exact hW _ 135 [(0, .ref 1000), (1, .int c), (2, .int t), (3, .int ((aI σ 20) (c).toNatClampNeg)), (4, .int ((gI σ 69) - ((aI σ 20) (c).toNatClampNeg))), (5, .int 1), (6, .int best), (7, .int (m + 1))] _ _ _ (by simp [rdl, rky, Value.category]) (loop _ (by omega) best (m + 1) (k + 1) (by rw [hbest, blT, if_neg (fun q => by have z := q.2; rw [ps_e hem] at z; have := (hal.mpr (by rw [show j = 12 by omega]; exact z)); contradiction)]) (by rw [i32_1 hm (by omega) (by omega)]; omega) (by omega))
              · have c4 : (naT C.2.2.2 (C.1 x.1.2.2.1) (agT T x.2.2.2) em.2.2 j = true) := (hal).mp h4
                refine hB _ _ _ _ _ (fun m6 hm6 => ?_)
                dsimp only [ugo, uwp, ust, uct, rfd, Bcall, Bcall_261, Nat.beq, lv_args, rlk, rs1, rs2, rdl, rky, rcd, rno, rsw, Value.category, List.filter, List.take, List.drop, List.reverse, List.reverseAux, List.cons_append, List.nil_append, Option.toList, Int.toNat, Int.reduceToNat, if_pos, if_neg, reduceIte, ↓reduceIte, Nat.reduceAdd, Nat.reduceEqDiff, Nat.reduceBEq, beq_self_eq_true, Bool.not_true, Bool.not_false, Bool.and_true, Bool.and_false, Bool.true_and, Bool.false_and, gI_sI, gI_sL, gI_sA, gI_sM, gL_sI, gL_sL, gL_sA, gL_sM, aI_sI, aI_sL, aI_sA, aI_sM, aL_sI, aL_sL, aL_sA, aL_sM]; try dsimp only
                refine hB _ _ _ _ _ (fun m7 hm7 => ?_)
                dsimp only [ugo, uwp, ust, uct, rfd, Bcall, Bcall_265, Nat.beq, lv_args, rlk, rs1, rs2, rdl, rky, rcd, rno, rsw, Value.category, List.filter, List.take, List.drop, List.reverse, List.reverseAux, List.cons_append, List.nil_append, Option.toList, Int.toNat, Int.reduceToNat, if_pos, if_neg, reduceIte, ↓reduceIte, Nat.reduceAdd, Nat.reduceEqDiff, Nat.reduceBEq, beq_self_eq_true, Bool.not_true, Bool.not_false, Bool.and_true, Bool.and_false, Bool.true_and, Bool.false_and, gI_sI, gI_sL, gI_sA, gI_sM, gL_sI, gL_sL, gL_sA, gL_sM, aI_sI, aI_sL, aI_sA, aI_sM, aL_sI, aL_sL, aL_sA, aL_sM, oi_1]; try dsimp only
                exact hW _ 135 [(0, .ref 1000), (1, .int c), (2, .int t), (3, .int ((aI σ 20) (c).toNatClampNeg)), (4, .int ((gI σ 69) - ((aI σ 20) (c).toNatClampNeg))), (5, .int 1), (6, .int m), (7, .int (m + 1))] _ _ _ (by simp [rdl, rky, Value.category]) (loop _ (by omega) m (m + 1) (k + 1) (by rw [hm, blT, if_pos ⟨ta_iff.mpr ⟨em, hem, hkey, htk⟩, by rw [ps_e hem]; exact hal.mp (by assumption) |> fun z => by rw [show j = 12 by omega] at z; exact z⟩]) (by rw [i32_1 hm (by omega) (by omega)]; omega) (by omega))
            · have c2 : (j : Int) < 12 := (cI ho (rfl : (12 : Int32).toInt = 12)).2.1.mp (by first | exact h2 | exact Int32.not_lt.mp h2 | exact Int32.not_le.mp h2)
              refine hB _ _ _ _ _ (fun m8 hm8 => ?_)
              dsimp only [ugo, uwp, ust, uct, rfd, Bcall, Bcall_189, Nat.beq, lv_args, rlk, rs1, rs2, rdl, rky, rcd, rno, rsw, Value.category, List.filter, List.take, List.drop, List.reverse, List.reverseAux, List.cons_append, List.nil_append, Option.toList, Int.toNat, Int.reduceToNat, if_pos, if_neg, reduceIte, ↓reduceIte, Nat.reduceAdd, Nat.reduceEqDiff, Nat.reduceBEq, beq_self_eq_true, Bool.not_true, Bool.not_false, Bool.and_true, Bool.and_false, Bool.true_and, Bool.false_and, gI_sI, gI_sL, gI_sA, gI_sM, gL_sI, gL_sL, gL_sA, gL_sM, aI_sI, aI_sL, aI_sA, aI_sM, aL_sI, aL_sL, aL_sA, aL_sM]; try dsimp only
              refine ⟨fun h9 => ?_, fun h9 => ?_⟩
              · have c9 : (j : Int) = (k : Int) := (cI ho hm).1.mp h9
                refine hB _ _ _ _ _ (fun m10 hm10 => ?_)
                dsimp only [ugo, uwp, ust, uct, rfd, Bcall, Bcall_250, Nat.beq, lv_args, rlk, rs1, rs2, rdl, rky, rcd, rno, rsw, Value.category, List.filter, List.take, List.drop, List.reverse, List.reverseAux, List.cons_append, List.nil_append, Option.toList, Int.toNat, Int.reduceToNat, if_pos, if_neg, reduceIte, ↓reduceIte, Nat.reduceAdd, Nat.reduceEqDiff, Nat.reduceBEq, beq_self_eq_true, Bool.not_true, Bool.not_false, Bool.and_true, Bool.and_false, Bool.true_and, Bool.false_and, gI_sI, gI_sL, gI_sA, gI_sM, gL_sI, gL_sL, gL_sA, gL_sM, aI_sI, aI_sL, aI_sA, aI_sM, aL_sI, aL_sL, aL_sA, aL_sM, oi_1]; try dsimp only
                have ejk : j = k := by omega
                exact hW _ 182 [(0, .ref 1000), (1, .int c), (2, .int t), (3, .int ((aI σ 20) (c).toNatClampNeg)), (4, .int ((gI σ 69) - ((aI σ 20) (c).toNatClampNeg))), (5, .int 1), (6, .int best), (7, .int m), (8, .int al), (9, .int (o + 1))] _ _ _ (by simp [rdl, rky, Value.category]) (inner _ (by omega) (by omega) em hem hkey htk hk12 qm qr al (o + 1) (j + 1) (hal.trans ⟨fun q => na_sx.mpr ⟨q, fun _ => by rw [ejk, ps_e hem]; exact tk_rf _⟩, fun q => (na_sx.mp q).1⟩) (by rw [i32_1 ho (by omega) (by omega)]; omega) (by omega))
              · have c9 : ¬ (j : Int) = (k : Int) := fun q => h9 ((cI ho hm).1.mpr q)
                refine hB _ _ _ _ _ (fun m11 hm11 => ?_)
                dsimp only [ugo, uwp, ust, uct, rfd, Bcall, Bcall_196, Nat.beq, lv_args, rlk, rs1, rs2, rdl, rky, rcd, rno, rsw, Value.category, List.filter, List.take, List.drop, List.reverse, List.reverseAux, List.cons_append, List.nil_append, Option.toList, Int.toNat, Int.reduceToNat, if_pos, if_neg, reduceIte, ↓reduceIte, Nat.reduceAdd, Nat.reduceEqDiff, Nat.reduceBEq, beq_self_eq_true, Bool.not_true, Bool.not_false, Bool.and_true, Bool.and_false, Bool.true_and, Bool.false_and, gI_sI, gI_sL, gI_sA, gI_sM, gL_sI, gL_sL, gL_sA, gL_sM, aI_sI, aI_sL, aI_sA, aI_sM, aL_sI, aL_sL, aL_sA, aL_sM]; try dsimp only
                refine ⟨trivial, fun w12 τ12 hq12 => ?_⟩
                obtain ⟨rfl, b12, rfl, hb12⟩ := hq12 trivial
                try rw [show (o).toInt = (j : Int) from ho] at hb12
                dsimp only [Option.toList, List.cons_append, List.nil_append, Nat.beq, gI_sI, gI_sL, gI_sA, gI_sM, gL_sI, gL_sL, gL_sA, gL_sM, aI_sI, aI_sL, aI_sA, aI_sM, aL_sI, aL_sL, aL_sA, aL_sM]
                refine ⟨fun h13 => ?_, fun h13 => ?_⟩
                · have c13 : ¬ ((((j : Int)) < (gI σ 36).toInt ∨ 10 ≤ ((j : Int)))) := fun q => (hb12).mpr q h13
                  refine hB _ _ _ _ _ (fun m14 hm14 => ?_)
                  dsimp only [ugo, uwp, ust, uct, rfd, Bcall, Bcall_250, Nat.beq, lv_args, rlk, rs1, rs2, rdl, rky, rcd, rno, rsw, Value.category, List.filter, List.take, List.drop, List.reverse, List.reverseAux, List.cons_append, List.nil_append, Option.toList, Int.toNat, Int.reduceToNat, if_pos, if_neg, reduceIte, ↓reduceIte, Nat.reduceAdd, Nat.reduceEqDiff, Nat.reduceBEq, beq_self_eq_true, Bool.not_true, Bool.not_false, Bool.and_true, Bool.and_false, Bool.true_and, Bool.false_and, gI_sI, gI_sL, gI_sA, gI_sM, gL_sI, gL_sL, gL_sA, gL_sM, aI_sI, aI_sL, aI_sA, aI_sM, aL_sI, aL_sL, aL_sA, aL_sM, oi_1]; try dsimp only
                  have hnt : ¬ taT C.2.2.2 (C.1 x.1.2.2.1) (agT T x.2.2.2) j = true := fun q => by
                    obtain ⟨f, f1, f2, f3⟩ := ta_iff.mp q
                    have z := (hms o (by omega) (by omega)).1.mpr ⟨f, by rw [show o.toInt.toNat = j by omega]; exact f1⟩
                    rw [ho] at z
                    contradiction
                  exact hW _ 182 [(0, .ref 1000), (1, .int c), (2, .int t), (3, .int ((aI σ 20) (c).toNatClampNeg)), (4, .int ((gI σ 69) - ((aI σ 20) (c).toNatClampNeg))), (5, .int 1), (6, .int best), (7, .int m), (8, .int al), (9, .int (o + 1))] _ _ _ (by simp [rdl, rky, Value.category]) (inner _ (by omega) (by omega) em hem hkey htk hk12 qm qr al (o + 1) (j + 1) (hal.trans ⟨fun q => na_sx.mpr ⟨q, fun q => absurd q hnt⟩, fun q => (na_sx.mp q).1⟩) (by rw [i32_1 ho (by omega) (by omega)]; omega) (by omega))
                · have c13 : (((j : Int)) < (gI σ 36).toInt ∨ 10 ≤ ((j : Int))) := (hb12).mp h13
                  refine hB _ _ _ _ _ (fun m15 hm15 => ?_)
                  dsimp only [ugo, uwp, ust, uct, rfd, Bcall, Bcall_205, Nat.beq, lv_args, rlk, rs1, rs2, rdl, rky, rcd, rno, rsw, Value.category, List.filter, List.take, List.drop, List.reverse, List.reverseAux, List.cons_append, List.nil_append, Option.toList, Int.toNat, Int.reduceToNat, if_pos, if_neg, reduceIte, ↓reduceIte, Nat.reduceAdd, Nat.reduceEqDiff, Nat.reduceBEq, beq_self_eq_true, Bool.not_true, Bool.not_false, Bool.and_true, Bool.and_false, Bool.true_and, Bool.false_and, gI_sI, gI_sL, gI_sA, gI_sM, gL_sI, gL_sL, gL_sA, gL_sM, aI_sI, aI_sL, aI_sA, aI_sM, aL_sI, aL_sL, aL_sA, aL_sM]; try dsimp only
                  obtain ⟨eo, heo⟩ := (hms o (by omega) (by omega)).1.mp (by rw [ho]; assumption)
                  have qeo := (hms o (by omega) (by omega)).2 eo heo
                  rw [show o.toInt.toNat = j by omega] at heo
                  refine ⟨trivial, fun w16 τ16 hq16 => ?_⟩
                  obtain ⟨rfl, b16, rfl, hb16⟩ := hq16 trivial
                  have hb16 : ¬ b16 = 0 ↔ nmR σ o (t).toNatClampNeg := hb16
                  dsimp only [Option.toList, List.cons_append, List.nil_append, Nat.beq, gI_sI, gI_sL, gI_sA, gI_sM, gL_sI, gL_sL, gL_sA, gL_sM, aI_sI, aI_sL, aI_sA, aI_sM, aL_sI, aL_sL, aL_sA, aL_sM]
                  refine ⟨fun h17 => ?_, fun h17 => ?_⟩
                  · have c17 : ¬ (nmR σ o (t).toNatClampNeg) := fun q => (hb16).mpr q h17
                    refine hB _ _ _ _ _ (fun m18 hm18 => ?_)
                    dsimp only [ugo, uwp, ust, uct, rfd, Bcall, Bcall_250, Nat.beq, lv_args, rlk, rs1, rs2, rdl, rky, rcd, rno, rsw, Value.category, List.filter, List.take, List.drop, List.reverse, List.reverseAux, List.cons_append, List.nil_append, Option.toList, Int.toNat, Int.reduceToNat, if_pos, if_neg, reduceIte, ↓reduceIte, Nat.reduceAdd, Nat.reduceEqDiff, Nat.reduceBEq, beq_self_eq_true, Bool.not_true, Bool.not_false, Bool.and_true, Bool.and_false, Bool.true_and, Bool.false_and, gI_sI, gI_sL, gI_sA, gI_sM, gL_sI, gL_sL, gL_sA, gL_sM, aI_sI, aI_sL, aI_sA, aI_sM, aL_sI, aL_sL, aL_sA, aL_sM, oi_1]; try dsimp only
                    have hnt : ¬ taT C.2.2.2 (C.1 x.1.2.2.1) (agT T x.2.2.2) j = true := fun q => by
                      obtain ⟨f, f1, f2, f3⟩ := ta_iff.mp q
                      obtain rfl : f = eo := Option.some.inj (f1.symm.trans heo)
                      exact absurd (qeo.1.mpr f2) (by assumption)
                    exact hW _ 182 [(0, .ref 1000), (1, .int c), (2, .int t), (3, .int ((aI σ 20) (c).toNatClampNeg)), (4, .int ((gI σ 69) - ((aI σ 20) (c).toNatClampNeg))), (5, .int 1), (6, .int best), (7, .int m), (8, .int al), (9, .int (o + 1))] _ _ _ (by simp [rdl, rky, Value.category]) (inner _ (by omega) (by omega) em hem hkey htk hk12 qm qr al (o + 1) (j + 1) (hal.trans ⟨fun q => na_sx.mpr ⟨q, fun q => absurd q hnt⟩, fun q => (na_sx.mp q).1⟩) (by rw [i32_1 ho (by omega) (by omega)]; omega) (by omega))
                  · have c17 : nmR σ o (t).toNatClampNeg := (hb16).mp h17
                    refine hB _ _ _ _ _ (fun m19 hm19 => ?_)
                    dsimp only [ugo, uwp, ust, uct, rfd, Bcall, Bcall_215, Nat.beq, lv_args, rlk, rs1, rs2, rdl, rky, rcd, rno, rsw, Value.category, List.filter, List.take, List.drop, List.reverse, List.reverseAux, List.cons_append, List.nil_append, Option.toList, Int.toNat, Int.reduceToNat, if_pos, if_neg, reduceIte, ↓reduceIte, Nat.reduceAdd, Nat.reduceEqDiff, Nat.reduceBEq, beq_self_eq_true, Bool.not_true, Bool.not_false, Bool.and_true, Bool.and_false, Bool.true_and, Bool.false_and, gI_sI, gI_sL, gI_sA, gI_sM, gL_sI, gL_sL, gL_sA, gL_sM, aI_sI, aI_sL, aI_sA, aI_sM, aL_sI, aL_sL, aL_sA, aL_sM]; try dsimp only
                    refine ⟨trivial, fun w20 τ20 hq20 => ?_⟩
                    obtain ⟨rfl, b20, rfl, hb20⟩ := hq20 trivial
                    have hb20 : ¬ b20 = 0 ↔ (tkT (agT T x.2.2.2) eo.2.2 = true) := hb20 _ _ hst qeo.2.1
                    dsimp only [Option.toList, List.cons_append, List.nil_append, Nat.beq, gI_sI, gI_sL, gI_sA, gI_sM, gL_sI, gL_sL, gL_sA, gL_sM, aI_sI, aI_sL, aI_sA, aI_sM, aL_sI, aL_sL, aL_sA, aL_sM]
                    refine ⟨fun h21 => ?_, fun h21 => ?_⟩
                    · have c21 : ¬ ((tkT (agT T x.2.2.2) eo.2.2 = true)) := fun q => (hb20).mpr q h21
                      refine hB _ _ _ _ _ (fun m22 hm22 => ?_)
                      dsimp only [ugo, uwp, ust, uct, rfd, Bcall, Bcall_250, Nat.beq, lv_args, rlk, rs1, rs2, rdl, rky, rcd, rno, rsw, Value.category, List.filter, List.take, List.drop, List.reverse, List.reverseAux, List.cons_append, List.nil_append, Option.toList, Int.toNat, Int.reduceToNat, if_pos, if_neg, reduceIte, ↓reduceIte, Nat.reduceAdd, Nat.reduceEqDiff, Nat.reduceBEq, beq_self_eq_true, Bool.not_true, Bool.not_false, Bool.and_true, Bool.and_false, Bool.true_and, Bool.false_and, gI_sI, gI_sL, gI_sA, gI_sM, gL_sI, gL_sL, gL_sA, gL_sM, aI_sI, aI_sL, aI_sA, aI_sM, aL_sI, aL_sL, aL_sA, aL_sM, oi_1]; try dsimp only
                      have hnt : ¬ taT C.2.2.2 (C.1 x.1.2.2.1) (agT T x.2.2.2) j = true := fun q => by
                        obtain ⟨f, f1, f2, f3⟩ := ta_iff.mp q
                        obtain rfl : f = eo := Option.some.inj (f1.symm.trans heo)
                        contradiction
                      exact hW _ 182 [(0, .ref 1000), (1, .int c), (2, .int t), (3, .int ((aI σ 20) (c).toNatClampNeg)), (4, .int ((gI σ 69) - ((aI σ 20) (c).toNatClampNeg))), (5, .int 1), (6, .int best), (7, .int m), (8, .int al), (9, .int (o + 1))] _ _ _ (by simp [rdl, rky, Value.category]) (inner _ (by omega) (by omega) em hem hkey htk hk12 qm qr al (o + 1) (j + 1) (hal.trans ⟨fun q => na_sx.mpr ⟨q, fun q => absurd q hnt⟩, fun q => (na_sx.mp q).1⟩) (by rw [i32_1 ho (by omega) (by omega)]; omega) (by omega))
                    · have c21 : (tkT (agT T x.2.2.2) eo.2.2 = true) := (hb20).mp h21
                      refine hB _ _ _ _ _ (fun m23 hm23 => ?_)
                      dsimp only [ugo, uwp, ust, uct, rfd, Bcall, Bcall_227, Nat.beq, lv_args, rlk, rs1, rs2, rdl, rky, rcd, rno, rsw, Value.category, List.filter, List.take, List.drop, List.reverse, List.reverseAux, List.cons_append, List.nil_append, Option.toList, Int.toNat, Int.reduceToNat, if_pos, if_neg, reduceIte, ↓reduceIte, Nat.reduceAdd, Nat.reduceEqDiff, Nat.reduceBEq, beq_self_eq_true, Bool.not_true, Bool.not_false, Bool.and_true, Bool.and_false, Bool.true_and, Bool.false_and, gI_sI, gI_sL, gI_sA, gI_sM, gL_sI, gL_sL, gL_sA, gL_sM, aI_sI, aI_sL, aI_sA, aI_sM, aL_sI, aL_sL, aL_sA, aL_sM]; try dsimp only
                      refine ⟨fun h24 => ?_, fun h24 => ?_⟩
                      · have c24 : ¬ ((naT C.2.2.2 (C.1 x.1.2.2.1) (agT T x.2.2.2) em.2.2 j = true)) := fun q => (hal).mpr q h24
                        refine hB _ _ _ _ _ (fun m25 hm25 => ?_)
                        dsimp only [ugo, uwp, ust, uct, rfd, Bcall, Bcall_247, Nat.beq, lv_args, rlk, rs1, rs2, rdl, rky, rcd, rno, rsw, Value.category, List.filter, List.take, List.drop, List.reverse, List.reverseAux, List.cons_append, List.nil_append, Option.toList, Int.toNat, Int.reduceToNat, if_pos, if_neg, reduceIte, ↓reduceIte, Nat.reduceAdd, Nat.reduceEqDiff, Nat.reduceBEq, beq_self_eq_true, Bool.not_true, Bool.not_false, Bool.and_true, Bool.and_false, Bool.true_and, Bool.false_and, gI_sI, gI_sL, gI_sA, gI_sM, gL_sI, gL_sL, gL_sA, gL_sM, aI_sI, aI_sL, aI_sA, aI_sM, aL_sI, aL_sL, aL_sA, aL_sM, oi_0]; try dsimp only
                        refine hB _ _ _ _ _ (fun m26 hm26 => ?_)
                        dsimp only [ugo, uwp, ust, uct, rfd, Bcall, Bcall_248, Nat.beq, lv_args, rlk, rs1, rs2, rdl, rky, rcd, rno, rsw, Value.category, List.filter, List.take, List.drop, List.reverse, List.reverseAux, List.cons_append, List.nil_append, Option.toList, Int.toNat, Int.reduceToNat, if_pos, if_neg, reduceIte, ↓reduceIte, Nat.reduceAdd, Nat.reduceEqDiff, Nat.reduceBEq, beq_self_eq_true, Bool.not_true, Bool.not_false, Bool.and_true, Bool.and_false, Bool.true_and, Bool.false_and, gI_sI, gI_sL, gI_sA, gI_sM, gL_sI, gL_sL, gL_sA, gL_sM, aI_sI, aI_sL, aI_sA, aI_sM, aL_sI, aL_sL, aL_sA, aL_sM]; try dsimp only
                        refine hB _ _ _ _ _ (fun m27 hm27 => ?_)
                        dsimp only [ugo, uwp, ust, uct, rfd, Bcall, Bcall_250, Nat.beq, lv_args, rlk, rs1, rs2, rdl, rky, rcd, rno, rsw, Value.category, List.filter, List.take, List.drop, List.reverse, List.reverseAux, List.cons_append, List.nil_append, Option.toList, Int.toNat, Int.reduceToNat, if_pos, if_neg, reduceIte, ↓reduceIte, Nat.reduceAdd, Nat.reduceEqDiff, Nat.reduceBEq, beq_self_eq_true, Bool.not_true, Bool.not_false, Bool.and_true, Bool.and_false, Bool.true_and, Bool.false_and, gI_sI, gI_sL, gI_sA, gI_sM, gL_sI, gL_sL, gL_sA, gL_sM, aI_sI, aI_sL, aI_sA, aI_sM, aL_sI, aL_sL, aL_sA, aL_sM, oi_1]; try dsimp only
                        exact hW _ 182 [(0, .ref 1000), (1, .int c), (2, .int t), (3, .int ((aI σ 20) (c).toNatClampNeg)), (4, .int ((gI σ 69) - ((aI σ 20) (c).toNatClampNeg))), (5, .int 1), (6, .int best), (7, .int m), (8, .int 0), (9, .int (o + 1))] _ _ _ (by simp [rdl, rky, Value.category]) (inner _ (by omega) (by omega) em hem hkey htk hk12 qm qr 0 (o + 1) (j + 1) (b00 (fun q => by have z := hal.mpr (na_sx.mp q).1; contradiction)) (by rw [i32_1 ho (by omega) (by omega)]; omega) (by omega))
                      · have c24 : (naT C.2.2.2 (C.1 x.1.2.2.1) (agT T x.2.2.2) em.2.2 j = true) := (hal).mp h24
                        refine hB _ _ _ _ _ (fun m28 hm28 => ?_)
                        dsimp only [ugo, uwp, ust, uct, rfd, Bcall, Bcall_232, Nat.beq, lv_args, rlk, rs1, rs2, rdl, rky, rcd, rno, rsw, Value.category, List.filter, List.take, List.drop, List.reverse, List.reverseAux, List.cons_append, List.nil_append, Option.toList, Int.toNat, Int.reduceToNat, if_pos, if_neg, reduceIte, ↓reduceIte, Nat.reduceAdd, Nat.reduceEqDiff, Nat.reduceBEq, beq_self_eq_true, Bool.not_true, Bool.not_false, Bool.and_true, Bool.and_false, Bool.true_and, Bool.false_and, gI_sI, gI_sL, gI_sA, gI_sM, gL_sI, gL_sL, gL_sA, gL_sM, aI_sI, aI_sL, aI_sA, aI_sM, aL_sI, aL_sL, aL_sA, aL_sM]; try dsimp only
                        refine ⟨trivial, fun w29 τ29 hq29 => ?_⟩
                        obtain ⟨rfl, b29, rfl, hb29⟩ := hq29 trivial
                        have hb29 : ¬ b29 = 0 ↔ (tkT em.2.2 eo.2.2 = true) := hb29 _ _ qm qeo.2.1 (by rw [← (tk_iff.mp htk).1, ← (tk_iff.mp (by assumption : tkT (agT T x.2.2.2) eo.2.2 = true)).1])
                        dsimp only [Option.toList, List.cons_append, List.nil_append, Nat.beq, gI_sI, gI_sL, gI_sA, gI_sM, gL_sI, gL_sL, gL_sA, gL_sM, aI_sI, aI_sL, aI_sA, aI_sM, aL_sI, aL_sL, aL_sA, aL_sM]
                        refine ⟨fun h30 => ?_, fun h30 => ?_⟩
                        · have c30 : ¬ ((tkT em.2.2 eo.2.2 = true)) := fun q => (hb29).mpr q h30
                          refine hB _ _ _ _ _ (fun m31 hm31 => ?_)
                          dsimp only [ugo, uwp, ust, uct, rfd, Bcall, Bcall_247, Nat.beq, lv_args, rlk, rs1, rs2, rdl, rky, rcd, rno, rsw, Value.category, List.filter, List.take, List.drop, List.reverse, List.reverseAux, List.cons_append, List.nil_append, Option.toList, Int.toNat, Int.reduceToNat, if_pos, if_neg, reduceIte, ↓reduceIte, Nat.reduceAdd, Nat.reduceEqDiff, Nat.reduceBEq, beq_self_eq_true, Bool.not_true, Bool.not_false, Bool.and_true, Bool.and_false, Bool.true_and, Bool.false_and, gI_sI, gI_sL, gI_sA, gI_sM, gL_sI, gL_sL, gL_sA, gL_sM, aI_sI, aI_sL, aI_sA, aI_sM, aL_sI, aL_sL, aL_sA, aL_sM, oi_0]; try dsimp only
                          refine hB _ _ _ _ _ (fun m32 hm32 => ?_)
                          dsimp only [ugo, uwp, ust, uct, rfd, Bcall, Bcall_248, Nat.beq, lv_args, rlk, rs1, rs2, rdl, rky, rcd, rno, rsw, Value.category, List.filter, List.take, List.drop, List.reverse, List.reverseAux, List.cons_append, List.nil_append, Option.toList, Int.toNat, Int.reduceToNat, if_pos, if_neg, reduceIte, ↓reduceIte, Nat.reduceAdd, Nat.reduceEqDiff, Nat.reduceBEq, beq_self_eq_true, Bool.not_true, Bool.not_false, Bool.and_true, Bool.and_false, Bool.true_and, Bool.false_and, gI_sI, gI_sL, gI_sA, gI_sM, gL_sI, gL_sL, gL_sA, gL_sM, aI_sI, aI_sL, aI_sA, aI_sM, aL_sI, aL_sL, aL_sA, aL_sM]; try dsimp only
                          refine hB _ _ _ _ _ (fun m33 hm33 => ?_)
                          dsimp only [ugo, uwp, ust, uct, rfd, Bcall, Bcall_250, Nat.beq, lv_args, rlk, rs1, rs2, rdl, rky, rcd, rno, rsw, Value.category, List.filter, List.take, List.drop, List.reverse, List.reverseAux, List.cons_append, List.nil_append, Option.toList, Int.toNat, Int.reduceToNat, if_pos, if_neg, reduceIte, ↓reduceIte, Nat.reduceAdd, Nat.reduceEqDiff, Nat.reduceBEq, beq_self_eq_true, Bool.not_true, Bool.not_false, Bool.and_true, Bool.and_false, Bool.true_and, Bool.false_and, gI_sI, gI_sL, gI_sA, gI_sM, gL_sI, gL_sL, gL_sA, gL_sM, aI_sI, aI_sL, aI_sA, aI_sM, aL_sI, aL_sL, aL_sA, aL_sM, oi_1]; try dsimp only
                          exact hW _ 182 [(0, .ref 1000), (1, .int c), (2, .int t), (3, .int ((aI σ 20) (c).toNatClampNeg)), (4, .int ((gI σ 69) - ((aI σ 20) (c).toNatClampNeg))), (5, .int 1), (6, .int best), (7, .int m), (8, .int 0), (9, .int (o + 1))] _ _ _ (by simp [rdl, rky, Value.category]) (inner _ (by omega) (by omega) em hem hkey htk hk12 qm qr 0 (o + 1) (j + 1) (b00 (fun q => by have z := (na_sx.mp q).2 (ta_iff.mpr ⟨eo, heo, qeo.1.mp (by assumption), by assumption⟩); rw [ps_e heo] at z; contradiction)) (by rw [i32_1 ho (by omega) (by omega)]; omega) (by omega))
                        · have c30 : (tkT em.2.2 eo.2.2 = true) := (hb29).mp h30
                          refine hB _ _ _ _ _ (fun m34 hm34 => ?_)
                          dsimp only [ugo, uwp, ust, uct, rfd, Bcall, Bcall_243, Nat.beq, lv_args, rlk, rs1, rs2, rdl, rky, rcd, rno, rsw, Value.category, List.filter, List.take, List.drop, List.reverse, List.reverseAux, List.cons_append, List.nil_append, Option.toList, Int.toNat, Int.reduceToNat, if_pos, if_neg, reduceIte, ↓reduceIte, Nat.reduceAdd, Nat.reduceEqDiff, Nat.reduceBEq, beq_self_eq_true, Bool.not_true, Bool.not_false, Bool.and_true, Bool.and_false, Bool.true_and, Bool.false_and, gI_sI, gI_sL, gI_sA, gI_sM, gL_sI, gL_sL, gL_sA, gL_sM, aI_sI, aI_sL, aI_sA, aI_sM, aL_sI, aL_sL, aL_sA, aL_sM, oi_1]; try dsimp only
                          refine hB _ _ _ _ _ (fun m35 hm35 => ?_)
                          dsimp only [ugo, uwp, ust, uct, rfd, Bcall, Bcall_248, Nat.beq, lv_args, rlk, rs1, rs2, rdl, rky, rcd, rno, rsw, Value.category, List.filter, List.take, List.drop, List.reverse, List.reverseAux, List.cons_append, List.nil_append, Option.toList, Int.toNat, Int.reduceToNat, if_pos, if_neg, reduceIte, ↓reduceIte, Nat.reduceAdd, Nat.reduceEqDiff, Nat.reduceBEq, beq_self_eq_true, Bool.not_true, Bool.not_false, Bool.and_true, Bool.and_false, Bool.true_and, Bool.false_and, gI_sI, gI_sL, gI_sA, gI_sM, gL_sI, gL_sL, gL_sA, gL_sM, aI_sI, aI_sL, aI_sA, aI_sM, aL_sI, aL_sL, aL_sA, aL_sM]; try dsimp only
                          refine hB _ _ _ _ _ (fun m36 hm36 => ?_)
                          dsimp only [ugo, uwp, ust, uct, rfd, Bcall, Bcall_250, Nat.beq, lv_args, rlk, rs1, rs2, rdl, rky, rcd, rno, rsw, Value.category, List.filter, List.take, List.drop, List.reverse, List.reverseAux, List.cons_append, List.nil_append, Option.toList, Int.toNat, Int.reduceToNat, if_pos, if_neg, reduceIte, ↓reduceIte, Nat.reduceAdd, Nat.reduceEqDiff, Nat.reduceBEq, beq_self_eq_true, Bool.not_true, Bool.not_false, Bool.and_true, Bool.and_false, Bool.true_and, Bool.false_and, gI_sI, gI_sL, gI_sA, gI_sM, gL_sI, gL_sL, gL_sA, gL_sM, aI_sI, aI_sL, aI_sA, aI_sM, aL_sI, aL_sL, aL_sA, aL_sM, oi_1]; try dsimp only
                          exact hW _ 182 [(0, .ref 1000), (1, .int c), (2, .int t), (3, .int ((aI σ 20) (c).toNatClampNeg)), (4, .int ((gI σ 69) - ((aI σ 20) (c).toNatClampNeg))), (5, .int 1), (6, .int best), (7, .int m), (8, .int 1), (9, .int (o + 1))] _ _ _ (by simp [rdl, rky, Value.category]) (inner _ (by omega) (by omega) em hem hkey htk hk12 qm qr 1 (o + 1) (j + 1) (b01 (na_sx.mpr ⟨hal.mp (by assumption), fun _ => by rw [ps_e heo]; assumption⟩)) (by rw [i32_1 ho (by omega) (by omega)]; omega) (by omega))
        refine hB _ _ _ _ _ (fun m1 hm1 => ?_)
        dsimp only [ugo, uwp, ust, uct, rfd, Bcall, Bcall_135, Nat.beq, lv_args, rlk, rs1, rs2, rdl, rky, rcd, rno, rsw, Value.category, List.filter, List.take, List.drop, List.reverse, List.reverseAux, List.cons_append, List.nil_append, Option.toList, Int.toNat, Int.reduceToNat, if_pos, if_neg, reduceIte, ↓reduceIte, Nat.reduceAdd, Nat.reduceEqDiff, Nat.reduceBEq, beq_self_eq_true, Bool.not_true, Bool.not_false, Bool.and_true, Bool.and_false, Bool.true_and, Bool.false_and, gI_sI, gI_sL, gI_sA, gI_sM, gL_sI, gL_sL, gL_sA, gL_sM, aI_sI, aI_sL, aI_sA, aI_sM, aL_sI, aL_sL, aL_sA, aL_sM, oi_12]; try dsimp only
        refine ⟨fun h2 => ?_, fun h2 => ?_⟩
        · have c2 : 12 ≤ (k : Int) := (cI hm (rfl : (12 : Int32).toInt = 12)).2.2.2.2.mp h2
          refine hB _ _ _ _ _ (fun m3 hm3 => ?_)
          dsimp only [ugo, uwp, ust, uct, rfd, Bcall, Bcall_271, Nat.beq, lv_args, rlk, rs1, rs2, rdl, rky, rcd, rno, rsw, Value.category, List.filter, List.take, List.drop, List.reverse, List.reverseAux, List.cons_append, List.nil_append, Option.toList, Int.toNat, Int.reduceToNat, if_pos, if_neg, reduceIte, ↓reduceIte, Nat.reduceAdd, Nat.reduceEqDiff, Nat.reduceBEq, beq_self_eq_true, Bool.not_true, Bool.not_false, Bool.and_true, Bool.and_false, Bool.true_and, Bool.false_and, gI_sI, gI_sL, gI_sA, gI_sM, gL_sI, gL_sL, gL_sA, gL_sM, aI_sI, aI_sL, aI_sA, aI_sM, aL_sI, aL_sL, aL_sA, aL_sM]; try dsimp only
          have hke : k = 12 := by omega
          have hbk : blT C.2.2.2 (C.1 x.1.2.2.1) (agT T x.2.2.2) k = blT C.2.2.2 (C.1 x.1.2.2.1) (agT T x.2.2.2) 12 := by rw [hke]
          have hbest' : best.toInt = blT C.2.2.2 (C.1 x.1.2.2.1) (agT T x.2.2.2) 12 := by rw [hbest, hke]
          have hbb := bl_bs (ms := C.2.2.2) (key := (C.1 x.1.2.2.1)) (as := (agT T x.2.2.2)) hnd
          have hcm : cmaT C T x = bsT C.2.2.2 (C.1 x.1.2.2.1) (agT T x.2.2.2) 12 := rfl
          refine ⟨fun h4 => ?_, fun h4 => ?_⟩
          · have c4 : 0 ≤ (blT C.2.2.2 (C.1 x.1.2.2.1) (agT T x.2.2.2) k) := (cI hbest (rfl : (0 : Int32).toInt = 0)).2.2.2.2.mp h4
            refine hB _ _ _ _ _ (fun m5 hm5 => ?_)
            dsimp only [ugo, uwp, ust, uct, rfd, Bcall, Bcall_289, Nat.beq, lv_args, rlk, rs1, rs2, rdl, rky, rcd, rno, rsw, Value.category, List.filter, List.take, List.drop, List.reverse, List.reverseAux, List.cons_append, List.nil_append, Option.toList, Int.toNat, Int.reduceToNat, if_pos, if_neg, reduceIte, ↓reduceIte, Nat.reduceAdd, Nat.reduceEqDiff, Nat.reduceBEq, beq_self_eq_true, Bool.not_true, Bool.not_false, Bool.and_true, Bool.and_false, Bool.true_and, Bool.false_and, gI_sI, gI_sL, gI_sA, gI_sM, gL_sI, gL_sL, gL_sA, gL_sM, aI_sI, aI_sL, aI_sA, aI_sM, aL_sI, aL_sL, aL_sA, aL_sM, oi_0, oi_100]; try dsimp only
            intro p6
            intro p7
            refine ⟨trivial, fun w8 τ8 hq8 => ?_⟩
            obtain ⟨rfl, r8, rfl, hr8⟩ := hq8 trivial
            dsimp only [Option.toList, List.cons_append, List.nil_append, Nat.beq, gI_sI, gI_sL, gI_sA, gI_sM, gL_sI, gL_sL, gL_sA, gL_sM, aI_sI, aI_sL, aI_sA, aI_sM, aL_sI, aL_sL, aL_sA, aL_sM]
            refine ⟨trivial, fun w9 τ9 hq9 => ?_⟩
            obtain ⟨rfl, rfl⟩ := hq9 trivial
            dsimp only [Option.toList, List.cons_append, List.nil_append, Nat.beq, gI_sI, gI_sL, gI_sA, gI_sM, gL_sI, gL_sL, gL_sA, gL_sM, aI_sI, aI_sL, aI_sA, aI_sM, aL_sI, aL_sL, aL_sA, aL_sM]
            unfold Qv_callB
            try dsimp only
            refine ⟨rfl, Or.inr ?_⟩
            refine ⟨_, if_pos ⟨hall, by show 0 ≤ bsT _ _ _ 12; omega⟩, best, r8, 0, 0, ?_, ⟨?_, ⟨fun q => absurd rfl q, fun q => absurd ht0 q⟩, fun q => absurd ht0 q⟩, rfl⟩
            · show best.toInt = bsT _ _ _ 12
              omega
            · show r8.toInt = mtyT C (bsT _ _ _ 12)
              have hb12 : bsT C.2.2.2 (C.1 x.1.2.2.1) (agT T x.2.2.2) 12 = best.toInt := by omega
              rw [hb12]
              obtain ⟨f, f1, f2, f3⟩ := ta_iff.mp ((bl_ok (ms := C.2.2.2) (key := (C.1 x.1.2.2.1)) (as := (agT T x.2.2.2)) 12).elim (fun q => q.2.2.1) (fun q => by omega))
              rw [← hbest'] at f1
              have z := (hms best (by omega) (by have := (bl_ok (ms := C.2.2.2) (key := (C.1 x.1.2.2.1)) (as := (agT T x.2.2.2)) 12); omega)).2 f f1
              rw [hr8]
              refine Eq.trans z.2.2 ?_
              unfold mtyT
              rw [f1]
          · have c4 : (blT C.2.2.2 (C.1 x.1.2.2.1) (agT T x.2.2.2) k) < 0 := (cI hbest (rfl : (0 : Int32).toInt = 0)).2.1.mp (by first | exact h4 | exact Int32.not_lt.mp h4 | exact Int32.not_le.mp h4)
            refine hB _ _ _ _ _ (fun m10 hm10 => ?_)
            dsimp only [ugo, uwp, ust, uct, rfd, Bcall, Bcall_276, Nat.beq, lv_args, rlk, rs1, rs2, rdl, rky, rcd, rno, rsw, Value.category, List.filter, List.take, List.drop, List.reverse, List.reverseAux, List.cons_append, List.nil_append, Option.toList, Int.toNat, Int.reduceToNat, if_pos, if_neg, reduceIte, ↓reduceIte, Nat.reduceAdd, Nat.reduceEqDiff, Nat.reduceBEq, beq_self_eq_true, Bool.not_true, Bool.not_false, Bool.and_true, Bool.and_false, Bool.true_and, Bool.false_and, gI_sI, gI_sL, gI_sA, gI_sM, gL_sI, gL_sL, gL_sA, gL_sM, aI_sI, aI_sL, aI_sA, aI_sM, aL_sI, aL_sL, aL_sA, aL_sM, oi_6]; try dsimp only
            refine ⟨trivial, fun w11 τ11 hq11 => ?_⟩
            obtain ⟨rfl, hz11⟩ := hq11 (show ¬ (6 : Int32) = 0 by decide)
            dsimp only [Option.toList, List.cons_append, List.nil_append, Nat.beq, gI_sI, gI_sL, gI_sA, gI_sM, gL_sI, gL_sL, gL_sA, gL_sM, aI_sI, aI_sL, aI_sA, aI_sM, aL_sI, aL_sL, aL_sA, aL_sM]
            refine ⟨trivial, fun w12 τ12 hq12 => ?_⟩
            obtain ⟨rfl, rfl⟩ := hq12 trivial
            dsimp only [Option.toList, List.cons_append, List.nil_append, Nat.beq, gI_sI, gI_sL, gI_sA, gI_sM, gL_sI, gL_sL, gL_sA, gL_sM, aI_sI, aI_sL, aI_sA, aI_sM, aL_sI, aL_sL, aL_sA, aL_sM]
            unfold Qv_callB
            try dsimp only
            exact ⟨rfl, Or.inl ⟨(by unfold xaT; refine if_neg (fun q => ?_); first | exact q.1 _ (gd_mem hlt) (by assumption) | (have q2 := q.2; omega)), hz11⟩⟩
        · have c2 : (k : Int) < 12 := (cI hm (rfl : (12 : Int32).toInt = 12)).2.1.mp (by first | exact h2 | exact Int32.not_lt.mp h2 | exact Int32.not_le.mp h2)
          refine hB _ _ _ _ _ (fun m13 hm13 => ?_)
          dsimp only [ugo, uwp, ust, uct, rfd, Bcall, Bcall_142, Nat.beq, lv_args, rlk, rs1, rs2, rdl, rky, rcd, rno, rsw, Value.category, List.filter, List.take, List.drop, List.reverse, List.reverseAux, List.cons_append, List.nil_append, Option.toList, Int.toNat, Int.reduceToNat, if_pos, if_neg, reduceIte, ↓reduceIte, Nat.reduceAdd, Nat.reduceEqDiff, Nat.reduceBEq, beq_self_eq_true, Bool.not_true, Bool.not_false, Bool.and_true, Bool.and_false, Bool.true_and, Bool.false_and, gI_sI, gI_sL, gI_sA, gI_sM, gL_sI, gL_sL, gL_sA, gL_sM, aI_sI, aI_sL, aI_sA, aI_sM, aL_sI, aL_sL, aL_sA, aL_sM]; try dsimp only
          refine ⟨trivial, fun w14 τ14 hq14 => ?_⟩
          obtain ⟨rfl, b14, rfl, hb14⟩ := hq14 trivial
          try rw [show (m).toInt = (k : Int) from hm] at hb14
          dsimp only [Option.toList, List.cons_append, List.nil_append, Nat.beq, gI_sI, gI_sL, gI_sA, gI_sM, gL_sI, gL_sL, gL_sA, gL_sM, aI_sI, aI_sL, aI_sA, aI_sM, aL_sI, aL_sL, aL_sA, aL_sM]
          refine ⟨fun h15 => ?_, fun h15 => ?_⟩
          · have c15 : ¬ ((((k : Int)) < (gI σ 36).toInt ∨ 10 ≤ ((k : Int)))) := fun q => (hb14).mpr q h15
            refine hB _ _ _ _ _ (fun m16 hm16 => ?_)
            dsimp only [ugo, uwp, ust, uct, rfd, Bcall, Bcall_265, Nat.beq, lv_args, rlk, rs1, rs2, rdl, rky, rcd, rno, rsw, Value.category, List.filter, List.take, List.drop, List.reverse, List.reverseAux, List.cons_append, List.nil_append, Option.toList, Int.toNat, Int.reduceToNat, if_pos, if_neg, reduceIte, ↓reduceIte, Nat.reduceAdd, Nat.reduceEqDiff, Nat.reduceBEq, beq_self_eq_true, Bool.not_true, Bool.not_false, Bool.and_true, Bool.and_false, Bool.true_and, Bool.false_and, gI_sI, gI_sL, gI_sA, gI_sM, gL_sI, gL_sL, gL_sA, gL_sM, aI_sI, aI_sL, aI_sA, aI_sM, aL_sI, aL_sL, aL_sA, aL_sM, oi_1]; try dsimp only
            have hnt : ¬ taT C.2.2.2 (C.1 x.1.2.2.1) (agT T x.2.2.2) k = true := fun q => by
              obtain ⟨f, f1, f2, f3⟩ := ta_iff.mp q
              have z := (hms m (by omega) (by omega)).1.mpr ⟨f, by rw [show m.toInt.toNat = k by omega]; exact f1⟩
              rw [hm] at z
              contradiction
            exact hW _ 135 [(0, .ref 1000), (1, .int c), (2, .int t), (3, .int ((aI σ 20) (c).toNatClampNeg)), (4, .int ((gI σ 69) - ((aI σ 20) (c).toNatClampNeg))), (5, .int 1), (6, .int best), (7, .int (m + 1))] _ _ _ (by simp [rdl, rky, Value.category]) (loop _ (by omega) best (m + 1) (k + 1) (by rw [hbest, blT, if_neg (fun q => hnt q.1)]) (by rw [i32_1 hm (by omega) (by omega)]; omega) (by omega))
          · have c15 : (((k : Int)) < (gI σ 36).toInt ∨ 10 ≤ ((k : Int))) := (hb14).mp h15
            refine hB _ _ _ _ _ (fun m17 hm17 => ?_)
            dsimp only [ugo, uwp, ust, uct, rfd, Bcall, Bcall_151, Nat.beq, lv_args, rlk, rs1, rs2, rdl, rky, rcd, rno, rsw, Value.category, List.filter, List.take, List.drop, List.reverse, List.reverseAux, List.cons_append, List.nil_append, Option.toList, Int.toNat, Int.reduceToNat, if_pos, if_neg, reduceIte, ↓reduceIte, Nat.reduceAdd, Nat.reduceEqDiff, Nat.reduceBEq, beq_self_eq_true, Bool.not_true, Bool.not_false, Bool.and_true, Bool.and_false, Bool.true_and, Bool.false_and, gI_sI, gI_sL, gI_sA, gI_sM, gL_sI, gL_sL, gL_sA, gL_sM, aI_sI, aI_sL, aI_sA, aI_sM, aL_sI, aL_sL, aL_sA, aL_sM]; try dsimp only
            obtain ⟨em, hem⟩ := (hms m (by omega) (by omega)).1.mp (by rw [hm]; assumption)
            have qem := (hms m (by omega) (by omega)).2 em hem
            rw [show m.toInt.toNat = k by omega] at hem
            refine ⟨trivial, fun w18 τ18 hq18 => ?_⟩
            obtain ⟨rfl, b18, rfl, hb18⟩ := hq18 trivial
            have hb18 : ¬ b18 = 0 ↔ nmR σ m (t).toNatClampNeg := hb18
            dsimp only [Option.toList, List.cons_append, List.nil_append, Nat.beq, gI_sI, gI_sL, gI_sA, gI_sM, gL_sI, gL_sL, gL_sA, gL_sM, aI_sI, aI_sL, aI_sA, aI_sM, aL_sI, aL_sL, aL_sA, aL_sM]
            refine ⟨fun h19 => ?_, fun h19 => ?_⟩
            · have c19 : ¬ (nmR σ m (t).toNatClampNeg) := fun q => (hb18).mpr q h19
              refine hB _ _ _ _ _ (fun m20 hm20 => ?_)
              dsimp only [ugo, uwp, ust, uct, rfd, Bcall, Bcall_265, Nat.beq, lv_args, rlk, rs1, rs2, rdl, rky, rcd, rno, rsw, Value.category, List.filter, List.take, List.drop, List.reverse, List.reverseAux, List.cons_append, List.nil_append, Option.toList, Int.toNat, Int.reduceToNat, if_pos, if_neg, reduceIte, ↓reduceIte, Nat.reduceAdd, Nat.reduceEqDiff, Nat.reduceBEq, beq_self_eq_true, Bool.not_true, Bool.not_false, Bool.and_true, Bool.and_false, Bool.true_and, Bool.false_and, gI_sI, gI_sL, gI_sA, gI_sM, gL_sI, gL_sL, gL_sA, gL_sM, aI_sI, aI_sL, aI_sA, aI_sM, aL_sI, aL_sL, aL_sA, aL_sM, oi_1]; try dsimp only
              have hnt : ¬ taT C.2.2.2 (C.1 x.1.2.2.1) (agT T x.2.2.2) k = true := fun q => by
                obtain ⟨f, f1, f2, f3⟩ := ta_iff.mp q
                obtain rfl : f = em := Option.some.inj (f1.symm.trans hem)
                exact absurd (qem.1.mpr f2) (by assumption)
              exact hW _ 135 [(0, .ref 1000), (1, .int c), (2, .int t), (3, .int ((aI σ 20) (c).toNatClampNeg)), (4, .int ((gI σ 69) - ((aI σ 20) (c).toNatClampNeg))), (5, .int 1), (6, .int best), (7, .int (m + 1))] _ _ _ (by simp [rdl, rky, Value.category]) (loop _ (by omega) best (m + 1) (k + 1) (by rw [hbest, blT, if_neg (fun q => hnt q.1)]) (by rw [i32_1 hm (by omega) (by omega)]; omega) (by omega))
            · have c19 : nmR σ m (t).toNatClampNeg := (hb18).mp h19
              refine hB _ _ _ _ _ (fun m21 hm21 => ?_)
              dsimp only [ugo, uwp, ust, uct, rfd, Bcall, Bcall_161, Nat.beq, lv_args, rlk, rs1, rs2, rdl, rky, rcd, rno, rsw, Value.category, List.filter, List.take, List.drop, List.reverse, List.reverseAux, List.cons_append, List.nil_append, Option.toList, Int.toNat, Int.reduceToNat, if_pos, if_neg, reduceIte, ↓reduceIte, Nat.reduceAdd, Nat.reduceEqDiff, Nat.reduceBEq, beq_self_eq_true, Bool.not_true, Bool.not_false, Bool.and_true, Bool.and_false, Bool.true_and, Bool.false_and, gI_sI, gI_sL, gI_sA, gI_sM, gL_sI, gL_sL, gL_sA, gL_sM, aI_sI, aI_sL, aI_sA, aI_sM, aL_sI, aL_sL, aL_sA, aL_sM]; try dsimp only
              refine ⟨trivial, fun w22 τ22 hq22 => ?_⟩
              obtain ⟨rfl, b22, rfl, hb22⟩ := hq22 trivial
              have hb22 : ¬ b22 = 0 ↔ (tkT (agT T x.2.2.2) em.2.2 = true) := hb22 _ _ hst qem.2.1
              dsimp only [Option.toList, List.cons_append, List.nil_append, Nat.beq, gI_sI, gI_sL, gI_sA, gI_sM, gL_sI, gL_sL, gL_sA, gL_sM, aI_sI, aI_sL, aI_sA, aI_sM, aL_sI, aL_sL, aL_sA, aL_sM]
              refine ⟨fun h23 => ?_, fun h23 => ?_⟩
              · have c23 : (tkT (agT T x.2.2.2) em.2.2 = true) := (hb22).mp h23
                refine hB _ _ _ _ _ (fun m24 hm24 => ?_)
                dsimp only [ugo, uwp, ust, uct, rfd, Bcall, Bcall_176, Nat.beq, lv_args, rlk, rs1, rs2, rdl, rky, rcd, rno, rsw, Value.category, List.filter, List.take, List.drop, List.reverse, List.reverseAux, List.cons_append, List.nil_append, Option.toList, Int.toNat, Int.reduceToNat, if_pos, if_neg, reduceIte, ↓reduceIte, Nat.reduceAdd, Nat.reduceEqDiff, Nat.reduceBEq, beq_self_eq_true, Bool.not_true, Bool.not_false, Bool.and_true, Bool.and_false, Bool.true_and, Bool.false_and, gI_sI, gI_sL, gI_sA, gI_sM, gL_sI, gL_sL, gL_sA, gL_sM, aI_sI, aI_sL, aI_sA, aI_sM, aL_sI, aL_sL, aL_sA, aL_sM, oi_0, oi_1]; try dsimp only
                exact hW _ 182 [(0, .ref 1000), (1, .int c), (2, .int t), (3, .int ((aI σ 20) (c).toNatClampNeg)), (4, .int ((gI σ 69) - ((aI σ 20) (c).toNatClampNeg))), (5, .int 1), (6, .int best), (7, .int m), (8, .int 1), (9, .int 0)] _ _ _ (by simp [rdl, rky, Value.category]) (t182 _ (by omega) em hem (qem.1.mp (by assumption)) (by assumption) (by omega) qem.2.1 qem.2.2 1 0 0 (b01 rfl) rfl (by decide))
              · have c23 : ¬ ((tkT (agT T x.2.2.2) em.2.2 = true)) := fun q => (hb22).mpr q h23
                refine hB _ _ _ _ _ (fun m25 hm25 => ?_)
                dsimp only [ugo, uwp, ust, uct, rfd, Bcall, Bcall_173, Nat.beq, lv_args, rlk, rs1, rs2, rdl, rky, rcd, rno, rsw, Value.category, List.filter, List.take, List.drop, List.reverse, List.reverseAux, List.cons_append, List.nil_append, Option.toList, Int.toNat, Int.reduceToNat, if_pos, if_neg, reduceIte, ↓reduceIte, Nat.reduceAdd, Nat.reduceEqDiff, Nat.reduceBEq, beq_self_eq_true, Bool.not_true, Bool.not_false, Bool.and_true, Bool.and_false, Bool.true_and, Bool.false_and, gI_sI, gI_sL, gI_sA, gI_sM, gL_sI, gL_sL, gL_sA, gL_sM, aI_sI, aI_sL, aI_sA, aI_sM, aL_sI, aL_sL, aL_sA, aL_sM]; try dsimp only
                refine hB _ _ _ _ _ (fun m26 hm26 => ?_)
                dsimp only [ugo, uwp, ust, uct, rfd, Bcall, Bcall_265, Nat.beq, lv_args, rlk, rs1, rs2, rdl, rky, rcd, rno, rsw, Value.category, List.filter, List.take, List.drop, List.reverse, List.reverseAux, List.cons_append, List.nil_append, Option.toList, Int.toNat, Int.reduceToNat, if_pos, if_neg, reduceIte, ↓reduceIte, Nat.reduceAdd, Nat.reduceEqDiff, Nat.reduceBEq, beq_self_eq_true, Bool.not_true, Bool.not_false, Bool.and_true, Bool.and_false, Bool.true_and, Bool.false_and, gI_sI, gI_sL, gI_sA, gI_sM, gL_sI, gL_sL, gL_sA, gL_sM, aI_sI, aI_sL, aI_sA, aI_sM, aL_sI, aL_sL, aL_sA, aL_sM, oi_1]; try dsimp only
                have hnt : ¬ taT C.2.2.2 (C.1 x.1.2.2.1) (agT T x.2.2.2) k = true := fun q => by
                  obtain ⟨f, f1, f2, f3⟩ := ta_iff.mp q
                  obtain rfl : f = em := Option.some.inj (f1.symm.trans hem)
                  contradiction
                exact hW _ 135 [(0, .ref 1000), (1, .int c), (2, .int t), (3, .int ((aI σ 20) (c).toNatClampNeg)), (4, .int ((gI σ 69) - ((aI σ 20) (c).toNatClampNeg))), (5, .int 1), (6, .int best), (7, .int (m + 1))] _ _ _ (by simp [rdl, rky, Value.category]) (loop _ (by omega) best (m + 1) (k + 1) (by rw [hbest, blT, if_neg (fun q => hnt q.1)]) (by rw [i32_1 hm (by omega) (by omega)]; omega) (by omega))
    have l29 : ∀ (N : Nat) (i : Int32) (k : Nat), i.toInt = (k : Int) → k ≤ (agT T x.2.2.2).length → (∀ j, j < k → ¬ (agT T x.2.2.2).getD j 0 = 5) → K N 29 [(0, .ref 1000), (1, .int c), (2, .int t), (3, .int ((aI σ 20) (c).toNatClampNeg)), (4, .int ((gI σ 69) - ((aI σ 20) (c).toNatClampNeg))), (5, .int 1), (6, .int i)] [] (sI σ 69 ((gI σ 69) - ((aI σ 20) (c).toNatClampNeg))) := by
      intro N
      induction N using Nat.strongRecOn with
      | ind N l29 =>
        intro i k hi hk ha
        refine hB _ _ _ _ _ (fun m1 hm1 => ?_)
        dsimp only [ugo, uwp, ust, uct, rfd, Bcall, Bcall_29, Nat.beq, lv_args, rlk, rs1, rs2, rdl, rky, rcd, rno, rsw, Value.category, List.filter, List.take, List.drop, List.reverse, List.reverseAux, List.cons_append, List.nil_append, Option.toList, Int.toNat, Int.reduceToNat, if_pos, if_neg, reduceIte, ↓reduceIte, Nat.reduceAdd, Nat.reduceEqDiff, Nat.reduceBEq, beq_self_eq_true, Bool.not_true, Bool.not_false, Bool.and_true, Bool.and_false, Bool.true_and, Bool.false_and, gI_sI, gI_sL, gI_sA, gI_sM, gL_sI, gL_sL, gL_sA, gL_sM, aI_sI, aI_sL, aI_sA, aI_sM, aL_sI, aL_sL, aL_sA, aL_sM]; try dsimp only
        refine ⟨fun h2 => ?_, fun h2 => ?_⟩
        · have c2 : ((agT T x.2.2.2).length : Int) ≤ (k : Int) := (cI hi hst.1).2.2.2.2.mp h2
          refine hB _ _ _ _ _ (fun m3 hm3 => ?_)
          dsimp only [ugo, uwp, ust, uct, rfd, Bcall, Bcall_109, Nat.beq, lv_args, rlk, rs1, rs2, rdl, rky, rcd, rno, rsw, Value.category, List.filter, List.take, List.drop, List.reverse, List.reverseAux, List.cons_append, List.nil_append, Option.toList, Int.toNat, Int.reduceToNat, if_pos, if_neg, reduceIte, ↓reduceIte, Nat.reduceAdd, Nat.reduceEqDiff, Nat.reduceBEq, beq_self_eq_true, Bool.not_true, Bool.not_false, Bool.and_true, Bool.and_false, Bool.true_and, Bool.false_and, gI_sI, gI_sL, gI_sA, gI_sM, gL_sI, gL_sL, gL_sA, gL_sM, aI_sI, aI_sL, aI_sA, aI_sM, aL_sI, aL_sL, aL_sA, aL_sM, oi_m2]; try dsimp only
          intro p4
          refine ⟨fun h5 => ?_, fun h5 => absurd h5 (by decide)⟩
          clear h5
          refine hB _ _ _ _ _ (fun m6 hm6 => ?_)
          dsimp only [ugo, uwp, ust, uct, rfd, Bcall, Bcall_128, Nat.beq, lv_args, rlk, rs1, rs2, rdl, rky, rcd, rno, rsw, Value.category, List.filter, List.take, List.drop, List.reverse, List.reverseAux, List.cons_append, List.nil_append, Option.toList, Int.toNat, Int.reduceToNat, if_pos, if_neg, reduceIte, ↓reduceIte, Nat.reduceAdd, Nat.reduceEqDiff, Nat.reduceBEq, beq_self_eq_true, Bool.not_true, Bool.not_false, Bool.and_true, Bool.and_false, Bool.true_and, Bool.false_and, gI_sI, gI_sL, gI_sA, gI_sM, gL_sI, gL_sL, gL_sA, gL_sM, aI_sI, aI_sL, aI_sA, aI_sM, aL_sI, aL_sL, aL_sA, aL_sM, oi_0, oi_m2]; try dsimp only
          exact hW _ 135 [(0, .ref 1000), (1, .int c), (2, .int t), (3, .int ((aI σ 20) (c).toNatClampNeg)), (4, .int ((gI σ 69) - ((aI σ 20) (c).toNatClampNeg))), (5, .int 1), (6, .int (-2)), (7, .int 0)] _ _ _ (by simp [rdl, rky, Value.category]) (t135 (fun q hq => by obtain ⟨j, hj, rfl⟩ := List.mem_iff_getElem.mp hq; have z := ha j (by omega); rw [List.getD_eq_getElem?_getD, List.getElem?_eq_getElem hj] at z; exact z) _ (-2) 0 0 rfl rfl (by decide))
        · have c2 : (k : Int) < ((agT T x.2.2.2).length : Int) := (cI hi hst.1).2.1.mp (by first | exact h2 | exact Int32.not_lt.mp h2 | exact Int32.not_le.mp h2)
          refine hB _ _ _ _ _ (fun m7 hm7 => ?_)
          dsimp only [ugo, uwp, ust, uct, rfd, Bcall, Bcall_35, Nat.beq, lv_args, rlk, rs1, rs2, rdl, rky, rcd, rno, rsw, Value.category, List.filter, List.take, List.drop, List.reverse, List.reverseAux, List.cons_append, List.nil_append, Option.toList, Int.toNat, Int.reduceToNat, if_pos, if_neg, reduceIte, ↓reduceIte, Nat.reduceAdd, Nat.reduceEqDiff, Nat.reduceBEq, beq_self_eq_true, Bool.not_true, Bool.not_false, Bool.and_true, Bool.and_false, Bool.true_and, Bool.false_and, gI_sI, gI_sL, gI_sA, gI_sM, gL_sI, gL_sL, gL_sA, gL_sM, aI_sI, aI_sL, aI_sA, aI_sM, aL_sI, aL_sL, aL_sA, aL_sM, oi_5]; try dsimp only
          have hlt : k < (agT T x.2.2.2).length := by omega
          have e70 : (aI σ 70 (((gI σ 69) - ((aI σ 20) (c).toNatClampNeg)) + i).toNatClampNeg).toInt = (agT T x.2.2.2).getD k 0 := by have q := hst.2 i (by omega) (by omega); rw [show i.toInt.toNat = k by omega] at q; exact q
          have e05 := h05 _ (gd_mem hlt)
          intro p8
          refine ⟨fun h9 => ?_, fun h9 => ?_⟩
          · have c9 : ¬ ((agT T x.2.2.2).getD k 0) = 5 := fun q => h9 ((cI e70 (rfl : (5 : Int32).toInt = 5)).1.mpr q)
            refine hB _ _ _ _ _ (fun m10 hm10 => ?_)
            dsimp only [ugo, uwp, ust, uct, rfd, Bcall, Bcall_64, Nat.beq, lv_args, rlk, rs1, rs2, rdl, rky, rcd, rno, rsw, Value.category, List.filter, List.take, List.drop, List.reverse, List.reverseAux, List.cons_append, List.nil_append, Option.toList, Int.toNat, Int.reduceToNat, if_pos, if_neg, reduceIte, ↓reduceIte, Nat.reduceAdd, Nat.reduceEqDiff, Nat.reduceBEq, beq_self_eq_true, Bool.not_true, Bool.not_false, Bool.and_true, Bool.and_false, Bool.true_and, Bool.false_and, gI_sI, gI_sL, gI_sA, gI_sM, gL_sI, gL_sL, gL_sA, gL_sM, aI_sI, aI_sL, aI_sA, aI_sM, aL_sI, aL_sL, aL_sA, aL_sM]; try dsimp only
            refine ⟨fun h11 => absurd h11 (by decide), fun h11 => ?_⟩
            clear h11
            refine hB _ _ _ _ _ (fun m12 hm12 => ?_)
            dsimp only [ugo, uwp, ust, uct, rfd, Bcall, Bcall_69, Nat.beq, lv_args, rlk, rs1, rs2, rdl, rky, rcd, rno, rsw, Value.category, List.filter, List.take, List.drop, List.reverse, List.reverseAux, List.cons_append, List.nil_append, Option.toList, Int.toNat, Int.reduceToNat, if_pos, if_neg, reduceIte, ↓reduceIte, Nat.reduceAdd, Nat.reduceEqDiff, Nat.reduceBEq, beq_self_eq_true, Bool.not_true, Bool.not_false, Bool.and_true, Bool.and_false, Bool.true_and, Bool.false_and, gI_sI, gI_sL, gI_sA, gI_sM, gL_sI, gL_sL, gL_sA, gL_sM, aI_sI, aI_sL, aI_sA, aI_sM, aL_sI, aL_sL, aL_sA, aL_sM]; try dsimp only
            intro p13
            refine ⟨fun h14 => (by exfalso; have c14 : ((agT T x.2.2.2).getD k 0) < 0 := (cI e70 (rfl : (0 : Int32).toInt = 0)).2.1.mp h14; omega), fun h14 => ?_⟩
            have c14 : 0 ≤ ((agT T x.2.2.2).getD k 0) := (cI e70 (rfl : (0 : Int32).toInt = 0)).2.2.2.2.mp (by first | exact h14 | exact Int32.not_lt.mp h14 | exact Int32.not_le.mp h14)
            refine hB _ _ _ _ _ (fun m15 hm15 => ?_)
            dsimp only [ugo, uwp, ust, uct, rfd, Bcall, Bcall_82, Nat.beq, lv_args, rlk, rs1, rs2, rdl, rky, rcd, rno, rsw, Value.category, List.filter, List.take, List.drop, List.reverse, List.reverseAux, List.cons_append, List.nil_append, Option.toList, Int.toNat, Int.reduceToNat, if_pos, if_neg, reduceIte, ↓reduceIte, Nat.reduceAdd, Nat.reduceEqDiff, Nat.reduceBEq, beq_self_eq_true, Bool.not_true, Bool.not_false, Bool.and_true, Bool.and_false, Bool.true_and, Bool.false_and, gI_sI, gI_sL, gI_sA, gI_sM, gL_sI, gL_sL, gL_sA, gL_sM, aI_sI, aI_sL, aI_sA, aI_sM, aL_sI, aL_sL, aL_sA, aL_sM, oi_5]; try dsimp only
            intro p16
            refine ⟨fun h17 => (by exfalso; have c17 : ((agT T x.2.2.2).getD k 0) = 5 := (cI e70 (rfl : (5 : Int32).toInt = 5)).1.mp h17; omega), fun h17 => ?_⟩
            have c17 : ¬ ((agT T x.2.2.2).getD k 0) = 5 := fun q => h17 ((cI e70 (rfl : (5 : Int32).toInt = 5)).1.mpr q)
            refine hB _ _ _ _ _ (fun m18 hm18 => ?_)
            dsimp only [ugo, uwp, ust, uct, rfd, Bcall, Bcall_96, Nat.beq, lv_args, rlk, rs1, rs2, rdl, rky, rcd, rno, rsw, Value.category, List.filter, List.take, List.drop, List.reverse, List.reverseAux, List.cons_append, List.nil_append, Option.toList, Int.toNat, Int.reduceToNat, if_pos, if_neg, reduceIte, ↓reduceIte, Nat.reduceAdd, Nat.reduceEqDiff, Nat.reduceBEq, beq_self_eq_true, Bool.not_true, Bool.not_false, Bool.and_true, Bool.and_false, Bool.true_and, Bool.false_and, gI_sI, gI_sL, gI_sA, gI_sM, gL_sI, gL_sL, gL_sA, gL_sM, aI_sI, aI_sL, aI_sA, aI_sM, aL_sI, aL_sL, aL_sA, aL_sM, oi_1]; try dsimp only
            refine hB _ _ _ _ _ (fun m19 hm19 => ?_)
            dsimp only [ugo, uwp, ust, uct, rfd, Bcall, Bcall_101, Nat.beq, lv_args, rlk, rs1, rs2, rdl, rky, rcd, rno, rsw, Value.category, List.filter, List.take, List.drop, List.reverse, List.reverseAux, List.cons_append, List.nil_append, Option.toList, Int.toNat, Int.reduceToNat, if_pos, if_neg, reduceIte, ↓reduceIte, Nat.reduceAdd, Nat.reduceEqDiff, Nat.reduceBEq, beq_self_eq_true, Bool.not_true, Bool.not_false, Bool.and_true, Bool.and_false, Bool.true_and, Bool.false_and, gI_sI, gI_sL, gI_sA, gI_sM, gL_sI, gL_sL, gL_sA, gL_sM, aI_sI, aI_sL, aI_sA, aI_sM, aL_sI, aL_sL, aL_sA, aL_sM, oi_1]; try dsimp only
            exact hW _ 29 [(0, .ref 1000), (1, .int c), (2, .int t), (3, .int ((aI σ 20) (c).toNatClampNeg)), (4, .int ((gI σ 69) - ((aI σ 20) (c).toNatClampNeg))), (5, .int 1), (6, .int (i + 1))] _ _ _ (by simp [rdl, rky, Value.category]) (l29 _ (by omega) (i + 1) (k + 1) (by rw [i32_1 hi (by have := (aI σ 20 c.toNatClampNeg).toInt_lt; have := hst.1; omega) (by omega)]; omega) (by omega) (fun j hj => by by_cases e : j = k; (rw [e]; assumption); exact ha j (by omega)))
          · have c9 : ((agT T x.2.2.2).getD k 0) = 5 := (cI e70 (rfl : (5 : Int32).toInt = 5)).1.mp h9
            refine hB _ _ _ _ _ (fun m20 hm20 => ?_)
            dsimp only [ugo, uwp, ust, uct, rfd, Bcall, Bcall_49, Nat.beq, lv_args, rlk, rs1, rs2, rdl, rky, rcd, rno, rsw, Value.category, List.filter, List.take, List.drop, List.reverse, List.reverseAux, List.cons_append, List.nil_append, Option.toList, Int.toNat, Int.reduceToNat, if_pos, if_neg, reduceIte, ↓reduceIte, Nat.reduceAdd, Nat.reduceEqDiff, Nat.reduceBEq, beq_self_eq_true, Bool.not_true, Bool.not_false, Bool.and_true, Bool.and_false, Bool.true_and, Bool.false_and, gI_sI, gI_sL, gI_sA, gI_sM, gL_sI, gL_sL, gL_sA, gL_sM, aI_sI, aI_sL, aI_sA, aI_sM, aL_sI, aL_sL, aL_sA, aL_sM, oi_5]; try dsimp only
            intro p21
            refine ⟨trivial, fun w22 τ22 hq22 => ?_⟩
            obtain ⟨rfl, hz22⟩ := hq22 (show ¬ (5 : Int32) = 0 by decide)
            dsimp only [Option.toList, List.cons_append, List.nil_append, Nat.beq, gI_sI, gI_sL, gI_sA, gI_sM, gL_sI, gL_sL, gL_sA, gL_sM, aI_sI, aI_sL, aI_sA, aI_sM, aL_sI, aL_sL, aL_sA, aL_sM]
            exact hW _ 64 [(0, .ref 1000), (1, .int c), (2, .int t), (3, .int ((aI σ 20) (c).toNatClampNeg)), (4, .int ((gI σ 69) - ((aI σ 20) (c).toNatClampNeg))), (5, .int 1), (6, .int i)] _ _ _ (by simp [rdl, rky, Value.category]) ((bad (by unfold xaT; refine if_neg (fun q => ?_); first | exact q.1 _ (gd_mem hlt) (by assumption) | (have q2 := q.2; omega)) _).2.2.2.2.1 c t ((aI σ 20) (c).toNatClampNeg) ((gI σ 69) - ((aI σ 20) (c).toNatClampNeg)) 1 i _ hz22)
    intro n0
    refine hB _ _ _ _ _ (fun m1 hm1 => ?_)
    dsimp only [ugo, uwp, ust, uct, rfd, Bcall, Bcall_0, Nat.beq, lv_args, rlk, rs1, rs2, rdl, rky, rcd, rno, rsw, Value.category, List.filter, List.take, List.drop, List.reverse, List.reverseAux, List.cons_append, List.nil_append, Option.toList, Int.toNat, Int.reduceToNat, if_pos, if_neg, reduceIte, ↓reduceIte, Nat.reduceAdd, Nat.reduceEqDiff, Nat.reduceBEq, beq_self_eq_true, Bool.not_true, Bool.not_false, Bool.and_true, Bool.and_false, Bool.true_and, Bool.false_and, gI_sI, gI_sL, gI_sA, gI_sM, gL_sI, gL_sL, gL_sA, gL_sM, aI_sI, aI_sL, aI_sA, aI_sM, aL_sI, aL_sL, aL_sA, aL_sM, oi_0, oi_1]; try dsimp only
    intro p2
    exact hW _ 29 [(0, .ref 1000), (1, .int c), (2, .int t), (3, .int ((aI σ 20) (c).toNatClampNeg)), (4, .int ((gI σ 69) - ((aI σ 20) (c).toNatClampNeg))), (5, .int 1), (6, .int 0)] _ _ _ (by simp [rdl, rky, Value.category]) (l29 _ 0 0 rfl (by omega) (fun j hj => by omega))
  next => exact hP.elim
theorem w_callB : UMet 104 (fun _ _ => True) Qw_callB := fun A1 σ _ w τ h C T t0 x hP => v_callB C T t0 x A1 σ hP w τ h

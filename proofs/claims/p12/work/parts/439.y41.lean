/-! the reference's jumps as a list -/
/-- thing, by continue, from which code, whether alive, bits -/
abbrev JfZ : Type := Int32 × Int32 × Int32 × Int32 × Int64
def jmE (σ : RS) (i : Nat) : JfZ := (aI σ 104 i, aI σ 105 i, aI σ 106 i, aI σ 107 i, aL σ 108 i)
def jmL (σ : RS) : Nat → List JfZ
  | 0 => []
  | n + 1 => jmL σ n ++ (if 0 ≤ aI σ 104 n then [jmE σ n] else [])
theorem jm_cg {σ τ : RS} : ∀ (n : Nat), (∀ i, i < n → jmE τ i = jmE σ i) → jmL τ n = jmL σ n := by
  intro n
  induction n with
  | zero => exact fun _ => rfl
  | succ n ih =>
    intro h
    have e := h n (Nat.lt_succ_self _)
    have e0 : aI τ 104 n = aI σ 104 n := congrArg (fun x : JfZ => x.1) e
    rw [jmL, jmL, ih (fun i hi => h i (by omega)), e0, e]
def cjB (k on : Int32) : List JfZ → Int64
  | [] => Int64.ofInt (-1)
  | x :: J => if x.1 = k ∧ x.2.1 = on then x.2.2.2.2 &&& cjB k on J else cjB k on J
def cjA (k on : Int32) (J : List JfZ) : Prop := ∃ x ∈ J, (x.1 = k ∧ x.2.1 = on) ∧ ¬ x.2.2.2.1 = 0
theorem cjB_ap {k on : Int32} : ∀ {J K : List JfZ}, cjB k on (J ++ K) = cjB k on J &&& cjB k on K := by
  intro J K
  induction J with
  | nil => exact al_an.symm
  | cons x J ih =>
    show (if x.1 = k ∧ x.2.1 = on then x.2.2.2.2 &&& cjB k on (J ++ K) else cjB k on (J ++ K)) = (if x.1 = k ∧ x.2.1 = on then x.2.2.2.2 &&& cjB k on J else cjB k on J) &&& cjB k on K
    rw [ih]
    split
    · rw [an_as]
    · rfl
section
variable {σ : RS} {k on : Int32}
/-- where the jumps lead behind what comes to k -/
theorem co_row (hk : 0 ≤ k) : ∀ (n i : Nat), (coF σ k on n).2.2 i = if i < n ∧ aI σ 104 i = k ∧ aI σ 105 i = on then -5 else aI σ 104 i := by
  intro n
  induction n with
  | zero => exact fun i => (if_neg (fun h => absurd h.1 (Nat.not_lt_zero _))).symm
  | succ n ih =>
    intro i
    have en : (coF σ k on n).2.2 n = aI σ 104 n := by
      rw [ih n, if_neg (fun h => absurd h.1 (Nat.lt_irrefl _))]
    rw [coF, en]
    by_cases c : aI σ 104 n = k ∧ aI σ 105 n = on
    · rw [if_pos c]
      show upd (coF σ k on n).2.2 n (-5) i = _
      by_cases e : i = n
      · rw [e, upd_eq, if_pos ⟨Nat.lt_succ_self _, c⟩]
      · rw [upd_ne e, ih i]
        by_cases d : i < n ∧ aI σ 104 i = k ∧ aI σ 105 i = on
        · rw [if_pos d, if_pos ⟨by omega, d.2⟩]
        · rw [if_neg d, if_neg (fun q => d ⟨by omega, q.2⟩)]
    · rw [if_neg c, ih i]
      by_cases d : i < n ∧ aI σ 104 i = k ∧ aI σ 105 i = on
      · rw [if_pos d, if_pos ⟨by omega, d.2⟩]
      · rw [if_neg d, if_neg (fun q => d ⟨by
          have := q.1
          by_cases e : i = n
          · rw [e] at q; exact absurd q.2 c
          · omega, q.2⟩)]
/-- what comes: bits, whether one is alive -/
theorem co_bits (hk : 0 ≤ k) : ∀ (n : Nat), (coF σ k on n).1 = cjB k on (jmL σ n) ∧ (¬ (coF σ k on n).2.1 = 0 ↔ cjA k on (jmL σ n)) := by
  intro n
  induction n with
  | zero => exact ⟨rfl, ⟨fun h => absurd rfl h, fun ⟨x, h, _⟩ => absurd h List.not_mem_nil⟩⟩
  | succ n ih =>
    have en : (coF σ k on n).2.2 n = aI σ 104 n := by
      rw [co_row hk n n, if_neg (fun h => absurd h.1 (Nat.lt_irrefl _))]
    rw [coF, en, jmL]
    by_cases c : aI σ 104 n = k ∧ aI σ 105 n = on
    · have c0 : 0 ≤ aI σ 104 n := by rw [c.1]; exact hk
      rw [if_pos c, if_pos c0]
      refine ⟨?_, ?_⟩
      · show (coF σ k on n).1 &&& aL σ 108 n = _
        rw [cjB_ap, ih.1]
        show _ = cjB k on (jmL σ n) &&& (if aI σ 104 n = k ∧ aI σ 105 n = on then aL σ 108 n &&& cjB k on [] else cjB k on [])
        rw [if_pos c, show cjB k on [] = allB from rfl, an_al]
      · show (¬ (if ¬ (coF σ k on n).2.1 = 0 ∨ ¬ aI σ 107 n = 0 then (1 : Int32) else 0) = 0) ↔ _
        by_cases d : ¬ (coF σ k on n).2.1 = 0 ∨ ¬ aI σ 107 n = 0
        · rw [if_pos d]
          refine ⟨fun _ => ?_, fun _ => by decide⟩
          rcases d with d | d
          · obtain ⟨x, x1, x2⟩ := ih.2.mp d
            exact ⟨x, List.mem_append_left _ x1, x2⟩
          · exact ⟨jmE σ n, List.mem_append_right _ List.mem_cons_self, c, d⟩
        · rw [if_neg d]
          refine ⟨fun h => absurd rfl h, fun ⟨x, x1, x2⟩ => ?_⟩
          rcases List.mem_append.mp x1 with x1 | x1
          · exact absurd (Or.inl (ih.2.mpr ⟨x, x1, x2⟩)) d
          · rcases List.mem_cons.mp x1 with rfl | x1
            · exact absurd (Or.inr x2.2) d
            · exact absurd x1 List.not_mem_nil
    · rw [if_neg c]
      by_cases c0 : 0 ≤ aI σ 104 n
      · rw [if_pos c0]
        refine ⟨?_, ih.2.trans ⟨fun ⟨x, x1, x2⟩ => ⟨x, List.mem_append_left _ x1, x2⟩, fun ⟨x, x1, x2⟩ => ?_⟩⟩
        · rw [cjB_ap, ih.1]
          show _ = cjB k on (jmL σ n) &&& (if aI σ 104 n = k ∧ aI σ 105 n = on then aL σ 108 n &&& cjB k on [] else cjB k on [])
          rw [if_neg c, show cjB k on [] = allB from rfl, an_al]
        · rcases List.mem_append.mp x1 with x1 | x1
          · exact ⟨x, x1, x2⟩
          · rcases List.mem_cons.mp x1 with rfl | x1
            · exact absurd x2.1 c
            · exact absurd x1 List.not_mem_nil
      · rw [if_neg c0, List.append_nil]
        exact ih
/-- what is left of the jumps -/
theorem co_left (hk : 0 ≤ k) {N : Nat} : ∀ (n : Nat), n ≤ N → jmL (coS σ k on N) n = (jmL σ n).filter (fun x => !decide (x.1 = k ∧ x.2.1 = on)) := by
  intro n
  induction n with
  | zero => exact fun _ => rfl
  | succ n ih =>
    intro hn
    have e1 : aI (coS σ k on N) 104 n = if n < N ∧ aI σ 104 n = k ∧ aI σ 105 n = on then -5 else aI σ 104 n := co_row hk N n
    rw [jmL, jmL, List.filter_append, ih (by omega)]
    congr 1
    by_cases c : aI σ 104 n = k ∧ aI σ 105 n = on
    · have c0 : 0 ≤ aI σ 104 n := by rw [c.1]; exact hk
      rw [if_pos ⟨by omega, c⟩] at e1
      rw [e1, if_neg (by decide), if_pos c0]
      show [] = List.filter _ [jmE σ n]
      rw [List.filter_cons_of_neg (by show ¬ (!decide (aI σ 104 n = k ∧ aI σ 105 n = on)) = true; rw [decide_eq_true c]; decide)]
      rfl
    · rw [if_neg (fun q => c q.2)] at e1
      have e2 : jmE (coS σ k on N) n = jmE σ n := by
        show (aI (coS σ k on N) 104 n, aI σ 105 n, aI σ 106 n, aI σ 107 n, aL σ 108 n) = _
        rw [e1]
        rfl
      rw [e1, e2]
      by_cases c0 : 0 ≤ aI σ 104 n
      · rw [if_pos c0, List.filter_cons_of_pos (by show (!decide (aI σ 104 n = k ∧ aI σ 105 n = on)) = true; rw [decide_eq_false c]; rfl)]
        rfl
      · rw [if_neg c0]
        rfl
theorem ifc {α : Type} {p q : Prop} [Decidable p] [Decidable q] {a b : α} (h : p ↔ q) : (if p then a else b) = (if q then a else b) := by
  by_cases c : p
  · rw [if_pos c, if_pos (h.mp c)]
  · rw [if_neg c, if_neg (fun d => c (h.mpr d))]
/-- through a finally -/
def thrJ (σ : RS) (k : Int32) (x : JfZ) : JfZ := if aI σ 51 k.toNatClampNeg ≤ x.2.2.1 ∧ x.2.2.1 ≤ aI σ 58 k.toNatClampNeg then (x.1, x.2.1, x.2.2.1, if ¬ x.2.2.2.1 = 0 ∧ ¬ gI σ 92 = 0 then 1 else 0, if gI σ 92 = 0 then Int64.ofInt (-1) else x.2.2.2.2 ||| nowR σ) else x
theorem en_row : ∀ (n i : Nat), (enF σ k n).1 i = (if i < n ∧ 0 ≤ aI σ 104 i then (thrJ σ k (jmE σ i)).2.2.2.1 else aI σ 107 i) ∧ (enF σ k n).2 i = (if i < n ∧ 0 ≤ aI σ 104 i then (thrJ σ k (jmE σ i)).2.2.2.2 else aL σ 108 i) := by
  intro n
  induction n with
  | zero => exact fun i => ⟨(if_neg (fun h => absurd h.1 (Nat.not_lt_zero _))).symm, (if_neg (fun h => absurd h.1 (Nat.not_lt_zero _))).symm⟩
  | succ n ih =>
    intro i
    have en : (enF σ k n).1 n = aI σ 107 n ∧ (enF σ k n).2 n = aL σ 108 n := by
      rw [(ih n).1, (ih n).2, if_neg (fun h => absurd h.1 (Nat.lt_irrefl _)), if_neg (fun h => absurd h.1 (Nat.lt_irrefl _))]
      exact ⟨rfl, rfl⟩
    have out : ¬ i = n → ((i < n ∧ 0 ≤ aI σ 104 i) ↔ (i < n + 1 ∧ 0 ≤ aI σ 104 i)) := fun e => ⟨fun q => ⟨by omega, q.2⟩, fun q => ⟨by omega, q.2⟩⟩
    rw [enF, en.1, en.2]
    by_cases c : 0 ≤ aI σ 104 n ∧ aI σ 51 k.toNatClampNeg ≤ aI σ 106 n ∧ aI σ 106 n ≤ aI σ 58 k.toNatClampNeg
    · rw [if_pos c]
      have th : thrJ σ k (jmE σ n) = (aI σ 104 n, aI σ 105 n, aI σ 106 n, if ¬ aI σ 107 n = 0 ∧ ¬ gI σ 92 = 0 then 1 else 0, if gI σ 92 = 0 then Int64.ofInt (-1) else aL σ 108 n ||| nowR σ) := if_pos c.2
      by_cases e : i = n
      · rw [e, if_pos (show n < n + 1 ∧ 0 ≤ aI σ 104 n from ⟨Nat.lt_succ_self _, c.1⟩), if_pos (show n < n + 1 ∧ 0 ≤ aI σ 104 n from ⟨Nat.lt_succ_self _, c.1⟩), th]
        exact ⟨upd_eq, if_pos rfl⟩
      · refine ⟨(upd_ne e).trans ?_, (if_neg e).trans ?_⟩
        · rw [(ih i).1]
          exact ifc (out e)
        · rw [(ih i).2]
          exact ifc (out e)
    · rw [if_neg c]
      by_cases e : i = n
      · rw [e, en.1, en.2]
        by_cases c0 : 0 ≤ aI σ 104 n
        · have th : thrJ σ k (jmE σ n) = jmE σ n := if_neg (fun q => c ⟨c0, q⟩)
          rw [if_pos ⟨Nat.lt_succ_self _, c0⟩, if_pos ⟨Nat.lt_succ_self _, c0⟩, th]
          exact ⟨rfl, rfl⟩
        · rw [if_neg (fun q => c0 q.2), if_neg (fun q => c0 q.2)]
          exact ⟨rfl, rfl⟩
      · rw [(ih i).1, (ih i).2]
        exact ⟨ifc (out e), ifc (out e)⟩
theorem en_left {N : Nat} : ∀ (n : Nat), n ≤ N → jmL (enS σ k N) n = (jmL σ n).map (thrJ σ k) := by
  intro n
  induction n with
  | zero => exact fun _ => rfl
  | succ n ih =>
    intro hn
    rw [jmL, jmL, List.map_append, ih (by omega)]
    congr 1
    show (if 0 ≤ aI σ 104 n then [jmE (enS σ k N) n] else []) = _
    by_cases c0 : 0 ≤ aI σ 104 n
    · rw [if_pos c0, if_pos c0]
      show [(aI σ 104 n, aI σ 105 n, aI σ 106 n, (enF σ k N).1 n, (enF σ k N).2 n)] = [thrJ σ k (jmE σ n)]
      rw [(en_row N n).1, (en_row N n).2, if_pos ⟨by omega, c0⟩, if_pos ⟨by omega, c0⟩]
      unfold thrJ
      by_cases d : aI σ 51 k.toNatClampNeg ≤ (jmE σ n).2.2.1 ∧ (jmE σ n).2.2.1 ≤ aI σ 58 k.toNatClampNeg
      · rw [if_pos d]
        rfl
      · rw [if_neg d]
        rfl
    · rw [if_neg c0, if_neg c0]
      rfl
end

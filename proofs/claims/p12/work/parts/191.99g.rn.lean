/-! the run: the pile of values ahead of each code of a judged program -/
/-- void values stand on top alone -/
def gd : List Nat → Prop
  | [] => True
  | x :: r => (10 ≤ x → x % 10 = 0) ∧ ∀ k ∈ r, k < 10
theorem gd_tail {x : Nat} {r : List Nat} (h : ∀ k ∈ r, k < 10) : gd r := by
  cases r with
  | nil => trivial
  | cons y r =>
    refine ⟨fun q => ?_, fun k hk => h k (List.mem_cons_of_mem _ hk)⟩
    have := h y List.mem_cons_self
    omega
theorem er_id {r : List Nat} (h : ∀ k ∈ r, k < 10) : er r = r := by
  induction r with
  | nil => rfl
  | cons x r ih =>
    have h1 := h x List.mem_cons_self
    show x % 10 :: er r = _
    rw [ih (fun k hk => h k (List.mem_cons_of_mem _ hk)), Nat.mod_eq_of_lt h1]
theorem eT_er {o : Nat} {a b t : Int32} {z z' : List Nat} (h : eT o a b t z = some z') : eSt o a b (er z) = some (er z') := by
  by_cases h18 : (1 ≤ o ∧ o ≤ 18) ∨ o = 21
  · have hh : o = 1 ∨ o = 2 ∨ o = 3 ∨ o = 4 ∨ o = 5 ∨ o = 6 ∨ o = 7 ∨ o = 8 ∨ o = 9 ∨ o = 10 ∨ o = 11 ∨ o = 12 ∨ o = 13 ∨ o = 14 ∨ o = 15 ∨ o = 16 ∨ o = 17 ∨ o = 18 ∨ o = 21 := by omega
    rcases hh with rfl | rfl | rfl | rfl | rfl | rfl | rfl | rfl | rfl | rfl | rfl | rfl | rfl | rfl | rfl | rfl | rfl | rfl | rfl <;> simp only [eT] at h
    · obtain rfl := Option.some.inj h; rfl
    · obtain rfl := Option.some.inj h; rfl
    · obtain rfl := Option.some.inj h; rfl
    · obtain rfl := Option.some.inj h; rfl
    · split at h
      · obtain rfl := Option.some.inj h; rfl
      · cases h
    · split at h
      · obtain rfl := Option.some.inj h; rfl
      · cases h
    · split at h
      · obtain rfl := Option.some.inj h; rfl
      · cases h
    · split at h
      · split at h
        · rename_i x r hx
          obtain rfl := Option.some.inj h
          show eSt 8 a b (x % 10 :: er r) = some ((x + 1) % 10 :: er r)
          rw [hx, show (x + 1) % 10 = 1 by omega]
          rfl
        · cases h
      · cases h
    · split at h
      · obtain rfl := Option.some.inj h; rfl
      · cases h
    · split at h
      · split at h
        · rename_i x r hx
          obtain rfl := Option.some.inj h
          show eSt 10 a b (x % 10 :: er r) = some ((x + 1) % 10 :: er r)
          rw [hx, show (x + 1) % 10 = 1 by omega]
          rfl
        · cases h
      · cases h
    · split at h
      · obtain rfl := Option.some.inj h; rfl
      · cases h
    · split at h
      · split at h
        · rename_i x r hx
          obtain rfl := Option.some.inj h
          show eSt 12 a b (x % 10 :: er r) = some ((x + 2) % 10 :: er r)
          rw [hx, show (x + 2) % 10 = 2 by omega]
          rfl
        · cases h
      · cases h
    · split at h
      · split at h
        · rename_i x y r hx
          obtain rfl := Option.some.inj h
          show eSt 13 a b (x % 10 :: y % 10 :: er r) = some ((if x < 10 ∧ y < 10 then 3 else 13) % 10 :: er r)
          rw [hx.1, hx.2, show (if x < 10 ∧ y < 10 then 3 else 13) % 10 = 3 by split <;> rfl]
          rfl
        · cases h
      · cases h
    · split at h
      · obtain rfl := Option.some.inj h; rfl
      · cases h
    · split at h
      · split at h
        · rename_i x r hx
          obtain rfl := Option.some.inj h
          show eSt 15 a b (x % 10 :: er r) = some (x % 10 :: er r)
          rw [hx]
          rfl
        · cases h
      · cases h
    · obtain rfl := Option.some.inj h; rfl
    · split at h
      · rename_i ha
        split at h
        · obtain rfl := Option.some.inj h
          show (if a = 61 then _ else _) = _
          rw [if_pos ha]
          rfl
        · cases h
      · rename_i ha
        split at h
        · obtain rfl := Option.some.inj h
          show (if a = 61 then _ else _) = _
          rw [if_neg ha]
          rfl
        · cases h
    · split at h
      · rename_i ht
        obtain rfl := Option.some.inj h
        show (if (er z).take (nT a) = List.replicate (nT a) 0 then some (0 :: (er z).drop (nT a)) else none) = some (_ :: er (z.drop (nT a)))
        have e : (er z).take (nT a) = List.replicate (nT a) 0 := by
          unfold er
          rw [← List.map_take, ht, List.map_replicate]
        rw [if_pos e, er_drop]
        have e2 : (if t = 5 then 10 else 0) % 10 = 0 := by split <;> rfl
        show _ = some ((if t = 5 then 10 else 0) % 10 :: _)
        rw [e2]
      · cases h
    · split at h
      · split at h
        · rename_i x hx
          obtain rfl := Option.some.inj h
          show (if [x % 10] = [0] then some [] else none) = some []
          rw [hx, if_pos rfl]
        · cases h
      · cases h
  · have e : eT o a b t z = eSt o a b z := by
      unfold eT
      split <;> first | omega | rfl
    rw [e] at h
    have hz : z = [] ∨ z = [0] := by
      unfold eSt at h
      split at h <;> first | omega | ((try split at h) <;> (try split at h) <;> (try split at h) <;> first | (cases h; done) | (left; assumption) | (right; assumption))
    have hz' : z' = [] := by
      unfold eSt at h
      split at h <;> first | omega | ((try split at h) <;> (try split at h) <;> (try split at h) <;> first | (cases h; done) | exact (Option.some.inj h).symm)
    rw [hz']
    rw [hz'] at h
    rcases hz with rfl | rfl
    · exact h
    · exact h
theorem eT_gd {o : Nat} {a b t : Int32} {z z' : List Nat} (h : eT o a b t z = some z') (hg : gd z') : gd z := by
  by_cases h18 : (1 ≤ o ∧ o ≤ 18) ∨ o = 21
  · have hh : o = 1 ∨ o = 2 ∨ o = 3 ∨ o = 4 ∨ o = 5 ∨ o = 6 ∨ o = 7 ∨ o = 8 ∨ o = 9 ∨ o = 10 ∨ o = 11 ∨ o = 12 ∨ o = 13 ∨ o = 14 ∨ o = 15 ∨ o = 16 ∨ o = 17 ∨ o = 18 ∨ o = 21 := by omega
    have c0 : ∀ x r, (∀ k ∈ r, k < 10) → x < 10 → gd (x :: r) := fun x r h1 h2 => ⟨fun q => by omega, h1⟩
    have c2 : ∀ x y r, (∀ k ∈ r, k < 10) → x < 10 → y < 10 → gd (x :: y :: r) := fun x y r h1 h2 h3 => ⟨fun q => by omega, fun k hk => by
      rcases List.mem_cons.mp hk with rfl | hk
      · exact h3
      · exact h1 k hk⟩
    rcases hh with rfl | rfl | rfl | rfl | rfl | rfl | rfl | rfl | rfl | rfl | rfl | rfl | rfl | rfl | rfl | rfl | rfl | rfl | rfl <;> simp only [eT] at h
    · obtain rfl := Option.some.inj h; exact gd_tail (x := 0) hg.2
    · obtain rfl := Option.some.inj h; exact gd_tail (x := 0) hg.2
    · obtain rfl := Option.some.inj h; exact gd_tail (x := 0) hg.2
    · obtain rfl := Option.some.inj h; exact gd_tail (x := 0) hg.2
    · split at h
      · obtain rfl := Option.some.inj h; exact hg
      · cases h
    · split at h
      · obtain rfl := Option.some.inj h; exact hg
      · cases h
    · split at h
      · obtain rfl := Option.some.inj h; exact c2 0 0 _ hg.2 (by decide) (by decide)
      · cases h
    · split at h
      · split at h
        · rename_i x r hx
          obtain rfl := Option.some.inj h
          have := hg.1
          exact c0 x r hg.2 (by omega)
        · cases h
      · cases h
    · split at h
      · obtain rfl := Option.some.inj h; exact c2 0 1 _ hg.2 (by decide) (by decide)
      · cases h
    · split at h
      · split at h
        · rename_i x r hx
          obtain rfl := Option.some.inj h
          have := hg.1
          exact c0 x r hg.2 (by omega)
        · cases h
      · cases h
    · split at h
      · obtain rfl := Option.some.inj h; exact c2 0 1 _ hg.2 (by decide) (by decide)
      · cases h
    · split at h
      · split at h
        · rename_i x r hx
          obtain rfl := Option.some.inj h
          have := hg.1
          exact c0 x r hg.2 (by omega)
        · cases h
      · cases h
    · split at h
      · split at h
        · rename_i x y r hx
          obtain rfl := Option.some.inj h
          have h1 := hg.1
          by_cases w : x < 10 ∧ y < 10
          · exact c2 x y r hg.2 w.1 w.2
          · rw [if_neg w] at h1
            exact absurd (h1 (by decide)) (by decide)
        · cases h
      · cases h
    · split at h
      · obtain rfl := Option.some.inj h; exact c2 0 3 _ hg.2 (by decide) (by decide)
      · cases h
    · split at h
      · split at h
        · obtain rfl := Option.some.inj h; exact hg
        · cases h
      · cases h
    · obtain rfl := Option.some.inj h; exact gd_tail (x := 0) hg.2
    · split at h
      · split at h
        · obtain rfl := Option.some.inj h; exact hg
        · cases h
      · split at h
        · obtain rfl := Option.some.inj h; exact c2 0 4 _ hg.2 (by decide) (by decide)
        · cases h
    · split at h
      · rename_i ht
        obtain rfl := Option.some.inj h
        refine gd_tail (x := 0) (fun k hk => ?_)
        have e : z = z.take (nT a) ++ z.drop (nT a) := (List.take_append_drop _ _).symm
        rw [e, ht] at hk
        rcases List.mem_append.mp hk with q | q
        · have := List.eq_of_mem_replicate q; omega
        · exact hg.2 k q
      · cases h
    · split at h
      · split at h
        · rename_i x hx
          exact ⟨fun _ => hx, fun k hk => by cases hk⟩
        · cases h
      · cases h
  · have e : eT o a b t z = eSt o a b z := by
      unfold eT
      split <;> first | omega | rfl
    rw [e] at h
    have hz : z = [] ∨ z = [0] := by
      unfold eSt at h
      split at h <;> first | omega | ((try split at h) <;> (try split at h) <;> (try split at h) <;> first | (cases h; done) | (left; assumption) | (right; assumption))
    rcases hz with rfl | rfl
    · trivial
    · exact ⟨fun q => by omega, fun k hk => by cases hk⟩
theorem Et_step {o a b t : Nat → Int32} {i : Nat} {z' : List Nat} (h : Et o a b t (i + 1) = some z') : ∃ z, Et o a b t i = some z ∧ eT (nT (o i)) (a i) (b i) (t i) z = some z' := by
  unfold Et at h
  cases hs : Et o a b t i with
  | none => rw [hs] at h; cases h
  | some z => rw [hs] at h; exact ⟨z, rfl, h⟩
/-- ahead of each code -/
theorem Et_all {o a b t : Nat → Int32} {n : Nat} (h : Et o a b t n = some []) : ∀ d c, c + d = n → ∃ z, Et o a b t c = some z ∧ gd z := by
  intro d
  induction d with
  | zero =>
    intro c hc
    have : c = n := by omega
    subst this
    exact ⟨[], h, trivial⟩
  | succ d ih =>
    intro c hc
    obtain ⟨z', h1, h2⟩ := ih (c + 1) (by omega)
    obtain ⟨z, h3, h4⟩ := Et_step h1
    exact ⟨z, h3, eT_gd h4 h2⟩
theorem Et_Es {o a b t : Nat → Int32} : ∀ (c : Nat) (z : List Nat), Et o a b t c = some z → Es o a b c = some (er z) := by
  intro c
  induction c with
  | zero =>
    intro z h
    obtain rfl := Option.some.inj h
    rfl
  | succ c ih =>
    intro z h
    obtain ⟨z0, h1, h2⟩ := Et_step h
    unfold Es
    rw [ih z0 h1]
    exact eT_er h2
/-- how many values the run has of such a pile -/
def wz : List Nat → Nat
  | [] => 0
  | k :: r => (if k = 0 ∨ k = 4 then 1 else 0) + wz r
theorem wz_le : ∀ l : List Nat, wz l ≤ l.length := by
  intro l
  induction l with
  | nil => exact Nat.le_refl _
  | cons k r ih =>
    show (if _ then 1 else 0) + wz r ≤ r.length + 1
    split <;> omega
theorem wz_app (x y : List Nat) : wz (x ++ y) = wz x + wz y := by
  induction x with
  | nil => simp [wz]
  | cons k r ih =>
    show _ + wz (r ++ y) = _ + wz r + wz y
    rw [ih, Nat.add_assoc]
theorem wz_rep (n : Nat) : wz (List.replicate n 0) = n := by
  induction n with
  | zero => rfl
  | succ n ih => rw [List.replicate_succ]; show 1 + wz _ = _; rw [ih]; omega

/-! how things nest: what a code of a statement does to what stands open -/
/-- codes that put their sort on a thing that stands on top, or take it away: from which sort -/
def tfr (n x : Nat) : Bool := (n == 24 && x == 23) || (n == 27 && x == 26) || (n == 30 && x == 29) || (n == 33 && x == 32) || (n == 34 && x == 33) || (n == 35 && x == 34) || (n == 51 && x == 50) || (n == 52 && (x == 50 || x == 51))
def tcl (n x : Nat) : Bool := (n == 25 && (x == 23 || x == 24)) || (n == 28 && x == 27) || (n == 31 && x == 30) || (n == 36 && x == 35) || (n == 40 && x == 37) || (n == 42 && x == 41) || (n == 53 && (x == 51 || x == 52))
/-- what a code does to what stands open -/
theorem sSt_cls {n : Nat} {a : Int32} {c : Nat} {s s' : SS} (h : sSt n a c s = some s') : (s'.1 = s.1 ∧ kpu n = false ∧ tfr n 0 = false) ∨ (n = 20 ∧ s'.1 = (20, c) :: s.1) ∨ (kpu n = true ∧ s'.1 = (n, nT a) :: s.1) ∨ (n = 45 ∧ ∃ r, s.1 = (20, nT a) :: r ∧ s'.1 = r) ∨ (∃ x r, tfr n x = true ∧ s.1 = (x, nT a) :: r ∧ s'.1 = (n, nT a) :: r) ∨ (∃ x r, tcl n x = true ∧ s.1 = (x, nT a) :: r ∧ s'.1 = r) := by
  obtain ⟨l, m⟩ := s
  unfold sSt at h
  split at h
  case h_1 => obtain rfl := Option.some.inj h; exact Or.inr (Or.inl ⟨rfl, rfl⟩)
  all_goals first
    | (obtain rfl := Option.some.inj h; exact Or.inr (Or.inr (Or.inl ⟨rfl, rfl⟩)))
    | (obtain rfl := Option.some.inj h; refine Or.inl ⟨rfl, ?_, ?_⟩ <;> simp_all [kpu, tfr])
    | (split at h
       · rename_i q r hq
         split at h
         · rename_i hz
           obtain rfl := Option.some.inj h
           first
             | (have e : l = q :: r := hq; subst e; subst hz; first | exact Or.inr (Or.inr (Or.inr (Or.inl ⟨rfl, r, rfl, rfl⟩))) | exact Or.inr (Or.inr (Or.inr (Or.inr (Or.inl ⟨_, r, by decide, rfl, rfl⟩)))) | exact Or.inr (Or.inr (Or.inr (Or.inr (Or.inr ⟨_, r, by decide, rfl, rfl⟩)))) | exact Or.inl ⟨rfl, rfl, rfl⟩)
             | (have e : l = q :: r := hq; subst e; rcases hz with hz | hz <;> subst hz <;> first | exact Or.inr (Or.inr (Or.inr (Or.inr (Or.inl ⟨_, r, by decide, rfl, rfl⟩)))) | exact Or.inr (Or.inr (Or.inr (Or.inr (Or.inr ⟨_, r, by decide, rfl, rfl⟩)))))
         · cases h
       · cases h)
    | (split at h
       · rename_i hz
         obtain rfl := Option.some.inj h
         have hz : l = [] := hz
         subst hz
         exact Or.inl ⟨rfl, rfl, rfl⟩
       · cases h)
theorem tfr_lt {n x : Nat} (h : tfr n x = true) : x < n ∧ x ≠ 20 ∧ n ≠ 20 ∧ kop n = true ∧ kpu n = false := by
  unfold tfr at h
  simp only [Bool.or_eq_true, Bool.and_eq_true, beq_iff_eq] at h
  have hn : n = 24 ∨ n = 27 ∨ n = 30 ∨ n = 33 ∨ n = 34 ∨ n = 35 ∨ n = 51 ∨ n = 52 := by omega
  refine ⟨by omega, by omega, by omega, ?_, ?_⟩
  · rcases hn with rfl | rfl | rfl | rfl | rfl | rfl | rfl | rfl <;> rfl
  · rcases hn with rfl | rfl | rfl | rfl | rfl | rfl | rfl | rfl <;> rfl
theorem tcl_x {n x : Nat} (h : tcl n x = true) : x < n ∧ x ≠ 20 ∧ kop n = true ∧ kpu n = false := by
  unfold tcl at h
  simp only [Bool.or_eq_true, Bool.and_eq_true, beq_iff_eq] at h
  have hn : n = 25 ∨ n = 28 ∨ n = 31 ∨ n = 36 ∨ n = 40 ∨ n = 42 ∨ n = 53 := by omega
  refine ⟨by omega, by omega, ?_, ?_⟩
  · rcases hn with rfl | rfl | rfl | rfl | rfl | rfl | rfl <;> rfl
  · rcases hn with rfl | rfl | rfl | rfl | rfl | rfl | rfl <;> rfl
theorem kpu_ne {n : Nat} (h : kpu n = true) : n ≠ 20 ∧ n ≠ 45 := by
  unfold kpu at h
  simp only [Bool.or_eq_true, beq_iff_eq] at h
  omega
/-- what stands open behind a code stood open, or the code put it there -/
theorem sSt_mem {n : Nat} {a : Int32} {c : Nat} {s s' : SS} (h : sSt n a c s = some s') : ∀ q ∈ s'.1, q.1 ≠ 20 → q ∈ s.1 ∨ (kpu n = true ∧ q = (n, nT a)) ∨ (∃ x, tfr n x = true ∧ (x, nT a) ∈ s.1 ∧ q = (n, nT a)) := by
  intro q hq h20
  rcases sSt_cls h with ⟨e, -⟩ | ⟨-, e⟩ | ⟨hk, e⟩ | ⟨-, r, e1, e2⟩ | ⟨x, r, ht, e1, e2⟩ | ⟨x, r, ht, e1, e2⟩
  · rw [e] at hq; exact Or.inl hq
  · rw [e] at hq
    rcases List.mem_cons.mp hq with rfl | hq
    · exact absurd rfl h20
    · exact Or.inl hq
  · rw [e] at hq
    rcases List.mem_cons.mp hq with rfl | hq
    · exact Or.inr (Or.inl ⟨hk, rfl⟩)
    · exact Or.inl hq
  · rw [e2] at hq; rw [e1]; exact Or.inl (List.mem_cons_of_mem _ hq)
  · rw [e2] at hq
    rcases List.mem_cons.mp hq with rfl | hq
    · exact Or.inr (Or.inr ⟨x, ht, by rw [e1]; exact List.mem_cons_self, rfl⟩)
    · rw [e1]; exact Or.inl (List.mem_cons_of_mem _ hq)
  · rw [e2] at hq; rw [e1]; exact Or.inl (List.mem_cons_of_mem _ hq)
/-- each thing is begun once -/
def Up (o a : Nat → Int32) (n : Nat) : Prop := ∀ c d, c < d → d < n → kpu (nT (o c)) = true → kpu (nT (o d)) = true → nT (a c) ≠ nT (a d)
theorem Ss_step {o a : Nat → Int32} {i : Nat} {s' : SS} (h : Ss o a (i + 1) = some s') : ∃ s, Ss o a i = some s ∧ sSt (nT (o i)) (a i) i s = some s' := by
  unfold Ss at h
  cases hs : Ss o a i with
  | none => rw [hs] at h; cases h
  | some s => rw [hs] at h; exact ⟨s, rfl, h⟩
/-- where it was begun -/
theorem Ss_org {o a : Nat → Int32} : ∀ (i : Nat) (s : SS), Ss o a i = some s → ∀ q ∈ s.1, q.1 ≠ 20 → ∃ p, p < i ∧ kpu (nT (o p)) = true ∧ nT (a p) = q.2 := by
  intro i
  induction i with
  | zero =>
    intro s h q hq
    obtain rfl := Option.some.inj h
    cases hq
  | succ i ih =>
    intro s h q hq h20
    obtain ⟨s0, h0, h1⟩ := Ss_step h
    rcases sSt_mem h1 q hq h20 with z | ⟨z1, z2⟩ | ⟨x, z1, z2, z3⟩
    · obtain ⟨p, p1, p2⟩ := ih s0 h0 q z h20
      exact ⟨p, by omega, p2⟩
    · exact ⟨i, by omega, z1, by rw [z2]⟩
    · obtain ⟨p, p1, p2, p3⟩ := ih s0 h0 _ z2 (tfr_lt z1).2.1
      exact ⟨p, by omega, p2, by rw [z3]; exact p3⟩
/-- a thing stands open once -/
def Nd (l : List (Nat × Nat)) : Prop := l.Pairwise (fun q q' => q.1 ≠ 20 → q'.1 ≠ 20 → q.2 ≠ q'.2)
theorem Ss_nd {o a : Nat → Int32} {n : Nat} (hu : Up o a n) : ∀ (i : Nat), i ≤ n → ∀ s : SS, Ss o a i = some s → Nd s.1 := by
  intro i
  induction i with
  | zero =>
    intro _ s h
    obtain rfl := Option.some.inj h
    exact List.Pairwise.nil
  | succ i ih =>
    intro hi s h
    obtain ⟨s0, h0, h1⟩ := Ss_step h
    have h9 := ih (by omega) s0 h0
    rcases sSt_cls h1 with ⟨e, -⟩ | ⟨-, e⟩ | ⟨hk, e⟩ | ⟨-, r, e1, e2⟩ | ⟨x, r, ht, e1, e2⟩ | ⟨x, r, ht, e1, e2⟩
    · rw [e]; exact h9
    · rw [e]
      exact List.Pairwise.cons (fun q _ h20 => absurd rfl h20) h9
    · rw [e]
      refine List.Pairwise.cons (fun q hq _ h20 => ?_) h9
      obtain ⟨p, p1, p2, p3⟩ := Ss_org i s0 h0 q hq h20
      have := hu p i p1 hi p2 hk
      rw [p3] at this
      exact fun z => this z.symm
    · rw [e2]; rw [e1] at h9; exact (List.pairwise_cons.mp h9).2
    · rw [e2]
      rw [e1] at h9
      obtain ⟨g1, g2⟩ := List.pairwise_cons.mp h9
      exact List.Pairwise.cons (fun q hq _ h20 => g1 q hq (tfr_lt ht).2.1 h20) g2
    · rw [e2]; rw [e1] at h9; exact (List.pairwise_cons.mp h9).2
/-- sorts grow: behind a place where each k has at least the sort y, and k has begun -/
theorem Ss_mono {o a : Nat → Int32} {n k y p i : Nat} (hu : Up o a n) (hp : p < i) (hk : kpu (nT (o p)) = true) (hpa : nT (a p) = k) (si : SS) (hi : Ss o a i = some si) (hy : ∀ q ∈ si.1, q.1 ≠ 20 → q.2 = k → y ≤ q.1) : ∀ j, i ≤ j → j ≤ n → ∀ s, Ss o a j = some s → ∀ q ∈ s.1, q.1 ≠ 20 → q.2 = k → y ≤ q.1 := by
  intro j hj
  induction j with
  | zero =>
    intro _ s hs q hq
    have : i = 0 := by omega
    subst this
    rw [hi] at hs
    obtain rfl := Option.some.inj hs
    exact hy q hq
  | succ j ih =>
    intro hjn s hs q hq h20 hqk
    by_cases e : i = j + 1
    · subst e
      rw [hi] at hs
      obtain rfl := Option.some.inj hs
      exact hy q hq h20 hqk
    · obtain ⟨s0, h0, h1⟩ := Ss_step hs
      have ih := ih (by omega) (by omega) s0 h0
      rcases sSt_mem h1 q hq h20 with z | ⟨z1, z2⟩ | ⟨x, z1, z2, z3⟩
      · exact ih q z h20 hqk
      · exfalso
        have := hu p j (by omega) (by omega) hk z1
        rw [z2] at hqk
        exact this (hpa.trans hqk.symm)
      · have hx := tfr_lt z1
        have hk2 : nT (a j) = k := by rw [z3] at hqk; exact hqk
        have := ih (x, nT (a j)) z2 hx.2.1 hk2
        rw [z3]
        show y ≤ nT (o j)
        omega
/-- behind the end of a thing it stands open no more -/
theorem Ss_gone {o a : Nat → Int32} {n k p i : Nat} (hu : Up o a n) (hp : p < i) (hk : kpu (nT (o p)) = true) (hpa : nT (a p) = k) (si : SS) (hi : Ss o a i = some si) (hy : ∀ q ∈ si.1, q.1 ≠ 20 → q.2 ≠ k) : ∀ j, i ≤ j → j ≤ n → ∀ s, Ss o a j = some s → ∀ q ∈ s.1, q.1 ≠ 20 → q.2 ≠ k := by
  intro j hj
  induction j with
  | zero =>
    intro _ s hs q hq
    have : i = 0 := by omega
    subst this
    rw [hi] at hs
    obtain rfl := Option.some.inj hs
    exact hy q hq
  | succ j ih =>
    intro hjn s hs q hq h20 hqk
    by_cases e : i = j + 1
    · subst e
      rw [hi] at hs
      obtain rfl := Option.some.inj hs
      exact hy q hq h20 hqk
    · obtain ⟨s0, h0, h1⟩ := Ss_step hs
      have ih := ih (by omega) (by omega) s0 h0
      rcases sSt_mem h1 q hq h20 with z | ⟨z1, z2⟩ | ⟨x, z1, z2, z3⟩
      · exact ih q z h20 hqk
      · have := hu p j (by omega) (by omega) hk z1
        rw [z2] at hqk
        exact this (hpa.trans hqk.symm)
      · have hk2 : nT (a j) = k := by rw [z3] at hqk; exact hqk
        exact ih (x, nT (a j)) z2 (tfr_lt z1).2.1 hk2
/-- which code put it: its sort is the code's -/
theorem Ss_born {o a : Nat → Int32} : ∀ (i : Nat) (s : SS), Ss o a i = some s → ∀ l x k r, s.1 = l ++ (x, k) :: r → x ≠ 20 → ∃ d, d < i ∧ nT (o d) = x ∧ nT (a d) = k ∧ (∃ m, Ss o a (d + 1) = some ((x, k) :: r, m)) ∧ ∀ j, d < j → j ≤ i → ∃ l' m, Ss o a j = some (l' ++ (x, k) :: r, m) := by
  intro i
  induction i with
  | zero =>
    intro s h l x k r e
    obtain rfl := Option.some.inj h
    have e : ([] : List (Nat × Nat)) = l ++ (x, k) :: r := e
    cases l <;> cases e
  | succ i ih =>
    intro s h l x k r e h20
    obtain ⟨s0, h0, h1⟩ := Ss_step h
    have keep : ∀ l', s0.1 = l' ++ (x, k) :: r → ∃ d, d < i + 1 ∧ nT (o d) = x ∧ nT (a d) = k ∧ (∃ m, Ss o a (d + 1) = some ((x, k) :: r, m)) ∧ ∀ j, d < j → j ≤ i + 1 → ∃ l' m, Ss o a j = some (l' ++ (x, k) :: r, m) := by
      intro l' e'
      obtain ⟨d, d1, d2, d3, d4, d5⟩ := ih s0 h0 l' x k r e' h20
      refine ⟨d, by omega, d2, d3, d4, fun j a1 a2 => ?_⟩
      by_cases z : j = i + 1
      · subst z
        exact ⟨l, s.2, by rw [h, ← e]⟩
      · exact d5 j a1 (by omega)
    have new : nT (o i) = x → nT (a i) = k → l = [] → ∃ d, d < i + 1 ∧ nT (o d) = x ∧ nT (a d) = k ∧ (∃ m, Ss o a (d + 1) = some ((x, k) :: r, m)) ∧ ∀ j, d < j → j ≤ i + 1 → ∃ l' m, Ss o a j = some (l' ++ (x, k) :: r, m) := by
      intro e1 e2 e3
      subst e3
      refine ⟨i, by omega, e1, e2, ⟨s.2, by rw [h]; congr 1; exact Prod.ext e rfl⟩, fun j a1 a2 => ?_⟩
      have : j = i + 1 := by omega
      subst this
      exact ⟨[], s.2, by rw [h, ← e]⟩
    rcases sSt_cls h1 with ⟨e', -⟩ | ⟨-, e'⟩ | ⟨hk, e'⟩ | ⟨-, r', e1, e2⟩ | ⟨x', r', ht, e1, e2⟩ | ⟨x', r', ht, e1, e2⟩
    · exact keep l (by rw [← e', e])
    · rw [e] at e'
      cases l with
      | nil => obtain ⟨z1, z2⟩ := List.cons.inj e'; exact absurd (congrArg Prod.fst z1) h20
      | cons q l => obtain ⟨z1, z2⟩ := List.cons.inj e'; exact keep l z2.symm
    · rw [e] at e'
      cases l with
      | nil =>
        obtain ⟨z1, z2⟩ := List.cons.inj e'
        exact new (congrArg Prod.fst z1).symm (congrArg Prod.snd z1).symm rfl
      | cons q l => obtain ⟨z1, z2⟩ := List.cons.inj e'; exact keep l z2.symm
    · exact keep ((20, nT (a i)) :: l) (by rw [e1, ← e2, e]; rfl)
    · rw [e] at e2
      cases l with
      | nil =>
        obtain ⟨z1, z2⟩ := List.cons.inj e2
        exact new (congrArg Prod.fst z1).symm (congrArg Prod.snd z1).symm rfl
      | cons q l =>
        obtain ⟨z1, z2⟩ := List.cons.inj e2
        exact keep ((x', nT (a i)) :: l) (by rw [e1, ← z2]; rfl)
    · exact keep ((x', nT (a i)) :: l) (by rw [e1, ← e2, e]; rfl)
/-- what stands open is gone on with, or ended, where all is ended at last -/
theorem Ss_next {o a : Nat → Int32} {n mn x k : Nat} {r : List (Nat × Nat)} (hn : Ss o a n = some ([], mn)) (h20 : x ≠ 20) : ∀ (t i : Nat), i ≤ n → n - i = t → ∀ l m, Ss o a i = some (l ++ (x, k) :: r, m) → ∃ d, i ≤ d ∧ d < n ∧ (∃ m, Ss o a d = some ((x, k) :: r, m)) ∧ nT (a d) = k ∧ ((tfr (nT (o d)) x = true ∧ ∃ m, Ss o a (d + 1) = some ((nT (o d), k) :: r, m)) ∨ (tcl (nT (o d)) x = true ∧ ∃ m, Ss o a (d + 1) = some (r, m))) ∧ ∀ j, i ≤ j → j ≤ d → ∃ l' m, Ss o a j = some (l' ++ (x, k) :: r, m) := by
  intro t
  induction t with
  | zero =>
    intro i hin hi l m h
    exfalso
    have e : i = n := by omega
    subst e
    rw [hn] at h
    have := congrArg Prod.fst (Option.some.inj h)
    have : ([] : List (Nat × Nat)) = l ++ (x, k) :: r := this
    cases l <;> cases this
  | succ t ih =>
    intro i hin hi l m h
    obtain ⟨s', g'⟩ := Ss_some hn (show i + 1 ≤ n by omega)
    obtain ⟨s0, h0, h1⟩ := Ss_step g'
    rw [h] at h0
    obtain rfl := Option.some.inj h0
    have keep : ∀ l', s'.1 = l' ++ (x, k) :: r → ∃ d, i ≤ d ∧ d < n ∧ (∃ m, Ss o a d = some ((x, k) :: r, m)) ∧ nT (a d) = k ∧ ((tfr (nT (o d)) x = true ∧ ∃ m, Ss o a (d + 1) = some ((nT (o d), k) :: r, m)) ∨ (tcl (nT (o d)) x = true ∧ ∃ m, Ss o a (d + 1) = some (r, m))) ∧ ∀ j, i ≤ j → j ≤ d → ∃ l' m, Ss o a j = some (l' ++ (x, k) :: r, m) := by
      intro l' e'
      obtain ⟨d, d1, d2, d3, d4, d5, d6⟩ := ih (i + 1) (by omega) (by omega) l' s'.2 (by rw [g', ← e'])
      refine ⟨d, by omega, d2, d3, d4, d5, fun j a1 a2 => ?_⟩
      by_cases z : j = i
      · subst z; exact ⟨l, m, h⟩
      · exact d6 j (by omega) a2
    rcases sSt_cls h1 with ⟨e', -⟩ | ⟨-, e'⟩ | ⟨hk, e'⟩ | ⟨-, r', e1, e2⟩ | ⟨x', r', ht, e1, e2⟩ | ⟨x', r', ht, e1, e2⟩
    · exact keep l e'
    · exact keep ((20, i) :: l) e'
    · exact keep ((nT (o i), nT (a i)) :: l) e'
    · have e1 : l ++ (x, k) :: r = (20, nT (a i)) :: r' := e1
      cases l with
      | nil => obtain ⟨z1, z2⟩ := List.cons.inj e1; exact absurd (congrArg Prod.fst z1) h20
      | cons q l => obtain ⟨z1, z2⟩ := List.cons.inj e1; exact keep l (e2.trans z2.symm)
    · have e1 : l ++ (x, k) :: r = (x', nT (a i)) :: r' := e1
      cases l with
      | nil =>
        obtain ⟨z1, z2⟩ := List.cons.inj e1
        have y1 : x = x' := congrArg Prod.fst z1
        have y2 : k = nT (a i) := congrArg Prod.snd z1
        subst y1
        refine ⟨i, Nat.le_refl _, by omega, ⟨m, h⟩, y2.symm, Or.inl ⟨ht, s'.2, ?_⟩, fun j a1 a2 => ?_⟩
        · rw [g']; congr 1; exact Prod.ext (by rw [e2, ← z2, ← y2]) rfl
        · have : j = i := by omega
          subst this
          exact ⟨[], m, h⟩
      | cons q l =>
        obtain ⟨z1, z2⟩ := List.cons.inj e1
        exact keep ((nT (o i), nT (a i)) :: l) (by rw [e2, ← z2]; rfl)
    · have e1 : l ++ (x, k) :: r = (x', nT (a i)) :: r' := e1
      cases l with
      | nil =>
        obtain ⟨z1, z2⟩ := List.cons.inj e1
        have y1 : x = x' := congrArg Prod.fst z1
        have y2 : k = nT (a i) := congrArg Prod.snd z1
        subst y1
        refine ⟨i, Nat.le_refl _, by omega, ⟨m, h⟩, y2.symm, Or.inr ⟨ht, s'.2, ?_⟩, fun j a1 a2 => ?_⟩
        · rw [g']; congr 1; exact Prod.ext (by rw [e2, ← z2]) rfl
        · have : j = i := by omega
          subst this
          exact ⟨[], m, h⟩
      | cons q l =>
        obtain ⟨z1, z2⟩ := List.cons.inj e1
        exact keep l (e2.trans z2.symm)

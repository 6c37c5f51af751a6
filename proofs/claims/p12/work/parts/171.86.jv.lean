/-! the judge's loop: what holds ahead of each code -/
def nlab : List (Nat × Nat) → Nat
  | [] => 0
  | q :: r => (if q.1 = 41 then 1 else 0) + nlab r
theorem sSt_lab {n : Nat} {a : Int32} {c : Nat} {s s' : SS} (h : sSt n a c s = some s') : (n = 41 → nlab s'.1 = nlab s.1 + 1 ∧ s'.1 = (41, nT a) :: s.1) ∧ (n = 42 → nlab s'.1 + 1 = nlab s.1) ∧ (¬ n = 41 → ¬ n = 42 → nlab s'.1 = nlab s.1) ∧ (n = 54 → s'.2 = s.2 + 1) := by
  obtain ⟨l, m⟩ := s
  rcases l with _ | ⟨q, r⟩
  · unfold sSt at h
    split at h <;> (try dsimp only at h) <;> (try rw [if_pos rfl] at h) <;> first
      | (cases h; done)
      | (obtain rfl := Option.some.inj h; refine ⟨fun _ => ?_, fun _ => ?_, fun _ _ => ?_, fun _ => ?_⟩ <;> first | omega | contradiction | (simp [nlab]; done) | (simp [nlab]; omega))
  · unfold sSt at h
    split at h <;> (try dsimp only at h) <;> first
      | (obtain rfl := Option.some.inj h; refine ⟨fun _ => ?_, fun _ => ?_, fun _ _ => ?_, fun _ => ?_⟩ <;> first | omega | contradiction | (simp [nlab]; done) | (simp [nlab]; omega))
      | (split at h <;> first
          | (cases h; done)
          | (rename_i hq; obtain rfl := Option.some.inj h; subst hq; refine ⟨fun _ => ?_, fun _ => ?_, fun _ _ => ?_, fun _ => ?_⟩ <;> first | omega | contradiction | (simp [nlab]; done) | (simp [nlab]; omega))
          | (rename_i hq; obtain rfl := Option.some.inj h; rcases hq with rfl | rfl <;> refine ⟨fun _ => ?_, fun _ => ?_, fun _ _ => ?_, fun _ => ?_⟩ <;> first | omega | contradiction | (simp [nlab]; done) | (simp [nlab]; omega))
          | (rename_i hq; exact absurd hq (by simp; done)))
theorem sSt_sw {n : Nat} {a : Int32} {c : Nat} {s s' : SS} (h : sSt n a c s = some s') : (∀ q ∈ s'.1, q.1 = 37 → q ∈ s.1 ∨ (n = 37 ∧ q = (37, nT a))) ∧ (n = 38 → (37, nT a) ∈ s.1) := by
  obtain ⟨l, m⟩ := s
  rcases l with _ | ⟨q, r⟩
  · unfold sSt at h
    split at h <;> (try dsimp only at h) <;> (try rw [if_pos rfl] at h) <;> first
      | (cases h; done)
      | (obtain rfl := Option.some.inj h; refine ⟨fun x hx hx1 => ?_, fun _ => ?_⟩ <;> first | omega | contradiction | (simp at hx; done) | (simp at hx; subst hx; simp at hx1 ⊢; done))
  · unfold sSt at h
    split at h <;> (try dsimp only at h) <;> first
      | (obtain rfl := Option.some.inj h; refine ⟨fun x hx hx1 => ?_, fun _ => ?_⟩ <;> first | omega | contradiction | exact Or.inl hx | (rcases List.mem_cons.mp hx with rfl | hx2 <;> first | (simp at hx1; done) | exact Or.inl hx2 | (simp; done)))
      | (split at h <;> first
          | (cases h; done)
          | (rename_i hq; obtain rfl := Option.some.inj h; subst hq; refine ⟨fun x hx hx1 => ?_, fun _ => ?_⟩ <;> first | omega | contradiction | exact Or.inl hx | exact Or.inl (List.mem_cons_of_mem _ hx) | exact List.mem_cons_self | (rcases List.mem_cons.mp hx with rfl | hx2 <;> first | (simp at hx1; done) | exact Or.inl (List.mem_cons_of_mem _ hx2)))
          | (rename_i hq; obtain rfl := Option.some.inj h; rcases hq with rfl | rfl <;> refine ⟨fun x hx hx1 => ?_, fun _ => ?_⟩ <;> first | omega | contradiction | exact Or.inl hx | exact Or.inl (List.mem_cons_of_mem _ hx) | (rcases List.mem_cons.mp hx with rfl | hx2 <;> first | (simp at hx1; done) | exact Or.inl (List.mem_cons_of_mem _ hx2)))
          | (rename_i hq; exact absurd hq (by simp; done)))
theorem nlab_le : ∀ l : List (Nat × Nat), nlab l ≤ nl l := by
  intro l
  induction l with
  | nil => exact Nat.le_refl _
  | cons q r ih =>
    show (if q.1 = 41 then 1 else 0) + nlab r ≤ (if q.1 = 41 ∨ (50 ≤ q.1 ∧ q.1 ≤ 52) then 1 else 0) + nl r
    split
    · rename_i h
      rw [if_pos (Or.inl h)]
      omega
    · omega
theorem Ss_some {o a : Nat → Int32} {n m : Nat} {s : SS} (h : Ss o a m = some s) (hn : n ≤ m) : ∃ s', Ss o a n = some s' := by
  induction m generalizing s with
  | zero =>
    have : n = 0 := by omega
    subst this
    exact ⟨s, h⟩
  | succ m ih =>
    by_cases hq : n = m + 1
    · subst hq; exact ⟨s, h⟩
    · cases h1 : Ss o a m with
      | none => unfold Ss at h; rw [h1] at h; cases h
      | some s1 => exact ih h1 (by omega)
theorem Ne_mono {o : Nat → Int32} {n : Nat} : ∀ m, n ≤ m → Ne o n ≤ Ne o m := by
  intro m hm
  induction m with
  | zero =>
    have : n = 0 := by omega
    subst this
    exact Nat.le_refl _
  | succ m ih =>
    by_cases hq : n = m + 1
    · subst hq; exact Nat.le_refl _
    · have h1 := ih (by omega)
      have h2 : Ne o (m + 1) = (if nT (o m) ≤ 18 then 1 else 0) + Ne o m := rfl
      omega
theorem wl_le : ∀ l : List Nat, wl l ≤ 2 * l.length := by
  intro l
  induction l with
  | nil => exact Nat.le_refl _
  | cons k r ih =>
    show wk k + wl r ≤ 2 * (r.length + 1)
    have : wk k ≤ 2 := by unfold wk; split <;> (try split) <;> omega
    omega
/-- what stands of the program at a code -/
def PC (σ : RS) (c : Nat) (E E' : List Nat) (s s' : SS) : Prop :=
  (Es (aI σ 19) (aI σ 20) (aI σ 21) c = some E) ∧
  (Es (aI σ 19) (aI σ 20) (aI σ 21) (c + 1) = some E') ∧
  (Ss (aI σ 19) (aI σ 20) c = some s) ∧
  (Ss (aI σ 19) (aI σ 20) (c + 1) = some s') ∧
  (eSt (nT (aI σ 19 c)) (aI σ 20 c) (aI σ 21 c) E = some E') ∧
  (sSt (nT (aI σ 19 c)) (aI σ 20 c) c s = some s') ∧
  (E.length ≤ 251) ∧
  (E'.length ≤ 251) ∧
  (nl s.1 ≤ 40) ∧
  (nl s'.1 ≤ 40) ∧
  (s.2 ≤ 10) ∧
  (s'.2 ≤ 10) ∧
  (Ne (aI σ 19) (c + 1) ≤ 2000) ∧
  (c < 4000) ∧
  (ce (aI σ 19 c) (aI σ 20 c) (aI σ 22 c) (aI σ 23 c) (aI σ 24 c) (gI σ 49) (aI σ) c)
theorem PC.he {σ : RS} {c : Nat} {E E' : List Nat} {s s' : SS} (h : PC σ c E E' s s') : Es (aI σ 19) (aI σ 20) (aI σ 21) c = some E := h.1
theorem PC.he' {σ : RS} {c : Nat} {E E' : List Nat} {s s' : SS} (h : PC σ c E E' s s') : Es (aI σ 19) (aI σ 20) (aI σ 21) (c + 1) = some E' := h.2.1
theorem PC.hs {σ : RS} {c : Nat} {E E' : List Nat} {s s' : SS} (h : PC σ c E E' s s') : Ss (aI σ 19) (aI σ 20) c = some s := h.2.2.1
theorem PC.hs' {σ : RS} {c : Nat} {E E' : List Nat} {s s' : SS} (h : PC σ c E E' s s') : Ss (aI σ 19) (aI σ 20) (c + 1) = some s' := h.2.2.2.1
theorem PC.es {σ : RS} {c : Nat} {E E' : List Nat} {s s' : SS} (h : PC σ c E E' s s') : eSt (nT (aI σ 19 c)) (aI σ 20 c) (aI σ 21 c) E = some E' := h.2.2.2.2.1
theorem PC.ss {σ : RS} {c : Nat} {E E' : List Nat} {s s' : SS} (h : PC σ c E E' s s') : sSt (nT (aI σ 19 c)) (aI σ 20 c) c s = some s' := h.2.2.2.2.2.1
theorem PC.le {σ : RS} {c : Nat} {E E' : List Nat} {s s' : SS} (h : PC σ c E E' s s') : E.length ≤ 251 := h.2.2.2.2.2.2.1
theorem PC.le' {σ : RS} {c : Nat} {E E' : List Nat} {s s' : SS} (h : PC σ c E E' s s') : E'.length ≤ 251 := h.2.2.2.2.2.2.2.1
theorem PC.n1 {σ : RS} {c : Nat} {E E' : List Nat} {s s' : SS} (h : PC σ c E E' s s') : nl s.1 ≤ 40 := h.2.2.2.2.2.2.2.2.1
theorem PC.n2 {σ : RS} {c : Nat} {E E' : List Nat} {s s' : SS} (h : PC σ c E E' s s') : nl s'.1 ≤ 40 := h.2.2.2.2.2.2.2.2.2.1
theorem PC.m1 {σ : RS} {c : Nat} {E E' : List Nat} {s s' : SS} (h : PC σ c E E' s s') : s.2 ≤ 10 := h.2.2.2.2.2.2.2.2.2.2.1
theorem PC.m2 {σ : RS} {c : Nat} {E E' : List Nat} {s s' : SS} (h : PC σ c E E' s s') : s'.2 ≤ 10 := h.2.2.2.2.2.2.2.2.2.2.2.1
theorem PC.ne {σ : RS} {c : Nat} {E E' : List Nat} {s s' : SS} (h : PC σ c E E' s s') : Ne (aI σ 19) (c + 1) ≤ 2000 := h.2.2.2.2.2.2.2.2.2.2.2.2.1
theorem PC.c4 {σ : RS} {c : Nat} {E E' : List Nat} {s s' : SS} (h : PC σ c E E' s s') : c < 4000 := h.2.2.2.2.2.2.2.2.2.2.2.2.2.1
theorem PC.hce {σ : RS} {c : Nat} {E E' : List Nat} {s s' : SS} (h : PC σ c E E' s s') : ce (aI σ 19 c) (aI σ 20 c) (aI σ 22 c) (aI σ 23 c) (aI σ 24 c) (gI σ 49) (aI σ) c := h.2.2.2.2.2.2.2.2.2.2.2.2.2.2
theorem ce_59 {o a t f l th : Int32} {σ : RS} {g : Nat → Int32} {c : Nat} (h : ce o a t f l th (aI (sI (sA σ 59 g) 62 0)) c) : ce o a t f l th (aI σ) c := by
  obtain ⟨z1, z2, z3, z4, z5, z6, z7, z8, z9, za, zb, zc⟩ := h
  refine ⟨z1, z2, z3, z4, z5, z6, z7, z8, fun hk => ?_, za, zb, zc⟩
  have h9 := z9 hk
  have hr : ksl (nT o) ≠ 59 := by
    unfold ksl
    split <;> decide
  have e : aI (sI (sA σ 59 g) 62 0) (ksl (nT o)) = aI σ (ksl (nT o)) := aI_ne hr
  rw [e] at h9
  exact h9
theorem PJ.pc {σ : RS} (h : PJ σ) {c : Nat} (hc : c < nT (gI σ 18)) : ∃ E E' s s', PC σ c E E' s s' := by
  obtain ⟨f, s0, k, j, hp⟩ := h
  have hn := hp.numz
  have h18 : nT (gI σ 18) ≤ 3020 := by
    have a1 := t_nT (x := gI σ 18) (t_le (by show (0 : Int32).toInt ≤ (gI σ 18).toInt; exact hn.2.1.1))
    have a2 : (gI σ 18).toInt ≤ 3020 := hn.2.1.2
    omega
  obtain ⟨⟨h1, h2, h3, h4, h5⟩, hE, hS, hC, hT, hU, hF, hV, hM, hZ, hJ⟩ := hp
  have hE : Es (aI σ 19) (aI σ 20) (aI σ 21) (nT (gI σ 18)) = some [] := hE
  have hS : Ss (aI σ 19) (aI σ 20) (nT (gI σ 18)) = some s0 := hS
  obtain ⟨E, e1⟩ := Es_some hE (Nat.le_of_lt hc)
  obtain ⟨E', e2⟩ := Es_some hE (show c + 1 ≤ nT (gI σ 18) from hc)
  obtain ⟨s, g1⟩ := Ss_some hS (Nat.le_of_lt hc)
  obtain ⟨s', g2⟩ := Ss_some hS (show c + 1 ≤ nT (gI σ 18) from hc)
  have hz1 : (Ne (aI σ 19) (nT (gI σ 18)) : Int) ≤ 4 * (gI σ 14).toInt := hZ.1
  have hp5 : (gI σ 14).toInt ≤ 500 := h1.2
  have hZ2 : ∀ i, i ≤ nT (gI σ 18) → (∀ z, Es (aI σ 19) (aI σ 20) (aI σ 21) i = some z → z.length ≤ 251) ∧ (∀ s, Ss (aI σ 19) (aI σ 20) i = some s → nl s.1 ≤ 40 ∧ s.2 ≤ 10) := hZ.2
  have hm := Ne_mono (o := aI σ 19) (n := c + 1) (nT (gI σ 18)) hc
  refine ⟨E, E', s, s', e1, e2, g1, g2, ?_, ?_, (hZ2 c (by omega)).1 E e1, (hZ2 (c + 1) hc).1 E' e2, ((hZ2 c (by omega)).2 s g1).1, ((hZ2 (c + 1) hc).2 s' g2).1, ((hZ2 c (by omega)).2 s g1).2, ((hZ2 (c + 1) hc).2 s' g2).2, by omega, by omega, ce_59 (hC c hc)⟩
  · have e := e2
    unfold Es at e
    rw [e1] at e
    exact e
  · have e := g2
    unfold Ss at e
    rw [g1] at e
    exact e

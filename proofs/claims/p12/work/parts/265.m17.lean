/-! no run of the parse changes a row of longs -/
def lsI (x : RI) : Bool := match x.1 with
  | .lastore => false
  | _ => true
def ivI (x : RI) : Bool := match x.1 with
  | .invokevirtual _ => true
  | _ => false
theorem rxe_aL {x : RI} {pc : Nat} {ls : RL} {st : List Value} {σ : RS} {N : RK} {J : Nat → List Value → Prop} {R : Option Value → Prop} {C : Nat → List Value → List Value → Prop} (hx : lsI x = true) (h : rxe x pc ls st σ N J R C) : (∃ pc' ls' st' σ', aL σ' = aL σ ∧ N pc' ls' st' σ') ∨ (∃ t st', J t st') ∨ (∃ w, R w) ∨ (ivI x = true ∧ ∃ As st', C x.2.2.2.1 As st') := by
  obtain ⟨x1, len, a, b, cs⟩ := x
  cases x1
  all_goals (dsimp only [rxe] at h)
  all_goals (try (repeat' (split at h)))
  all_goals (first
    | exact h.elim
    | exact absurd (show false = true from hx) (by decide)
    | (refine Or.inl ⟨_, _, _, _, ?_, h⟩; rfl)
    | (refine Or.inl ⟨_, _, _, _, ?_, h.2⟩; rfl)
    | exact Or.inr (Or.inl ⟨_, _, h⟩)
    | exact Or.inr (Or.inr (Or.inl ⟨_, h⟩))
    | exact Or.inr (Or.inr (Or.inr ⟨rfl, _, _, h⟩))
    | (obtain ⟨v, _, h⟩ := h; refine Or.inl ⟨_, _, _, _, ?_, h⟩; rfl)
    | (obtain ⟨t, _, h⟩ := h; exact Or.inr (Or.inl ⟨_, _, h⟩))
    | (rcases h with h | h; exact Or.inr (Or.inl ⟨_, _, h.2⟩); refine Or.inl ⟨_, _, _, _, ?_, h.2⟩; rfl))
theorem rfd_in {pc : Nat} {is : List RI} : ∀ {bs : RB}, rfd bs pc = some is → ∃ b ∈ bs, b.2 = is := by
  intro bs
  induction bs with
  | nil => intro h; cases h
  | cons q r ih =>
    intro h
    unfold rfd at h
    cases e : Nat.beq q.1 pc with
    | true =>
      rw [e] at h
      exact ⟨q, List.mem_cons_self, Option.some.inj h⟩
    | false =>
      rw [e] at h
      obtain ⟨b, hb, h⟩ := ih h
      exact ⟨b, List.mem_cons_of_mem _ hb, h⟩
theorem evf_in {μ : Nat} {bs : RB} : ∀ {l : List (Nat × RB)}, evf l μ = some bs → ∃ q ∈ l, q.1 = μ ∧ q.2 = bs := by
  intro l
  induction l with
  | nil => intro h; cases h
  | cons q r ih =>
    intro h
    unfold evf at h
    cases e : Nat.beq q.1 μ with
    | true =>
      rw [e] at h
      exact ⟨q, List.mem_cons_self, Nat.eq_of_beq_eq_true e, Option.some.inj h⟩
    | false =>
      rw [e] at h
      obtain ⟨b, hb, h⟩ := ih h
      exact ⟨b, List.mem_cons_of_mem _ hb, h⟩
def mmL : List Nat → Nat → Bool
  | [], _ => false
  | a :: l, k => Nat.beq a k || mmL l k
/-- an instruction that is told so, and calls one of M -/
def okL (M : List Nat) (x : RI) : Bool := lsI x && (!ivI x || mmL M x.2.2.2.1)
def ckL (M : List Nat) (l : List (Nat × RB)) : Bool := l.all (fun q => !mmL M q.1 || q.2.all (fun b => b.2.all (okL M)))
theorem ev_aL {M : List Nat} (hM : ckL M evT = true) : ∀ (n μ : Nat) (is : List RI) (pc : Nat) (ls : RL) (st : List Value) (σ : RS) (w : Option Value) (τ : RS), mmL M μ = true → (∀ x ∈ is, okL M x = true) → Ev n μ is pc ls st σ w τ → aL τ = aL σ := by
  intro n
  induction n with
  | zero => intro μ is pc ls st σ w τ _ _ h; exact h.elim
  | succ n ih =>
    intro μ is pc ls st σ w τ hm hi h
    have hb : ∀ (ν pc : Nat) (bs : RB) (is : List RI), mmL M ν = true → evl ν = some bs → rfd bs pc = some is → ∀ x ∈ is, okL M x = true := by
      intro ν pc bs is hν hv hr x hx
      obtain ⟨q, hq, q1, q2⟩ := evf_in hv
      obtain ⟨b, hb, rfl⟩ := rfd_in hr
      unfold ckL at hM
      have c := List.all_eq_true.mp hM q hq
      rw [q1, q2, hν] at c
      have c : (bs.all (fun b => b.2.all (okL M))) = true := c
      exact List.all_eq_true.mp (List.all_eq_true.mp c b hb) x hx
    cases is with
    | nil =>
      obtain ⟨bs, is, h1, h2, h3⟩ := h
      exact ih μ is pc ls st σ w τ hm (hb μ pc bs is hm h1 h2) h3
    | cons x is =>
      have hx := hi x List.mem_cons_self
      have hx' : (lsI x && (!ivI x || mmL M x.2.2.2.1)) = true := hx
      obtain ⟨hx1, hx2⟩ := (Bool.and_eq_true _ _ |>.mp hx')
      have h : rxe x pc ls st σ _ _ _ _ := h
      rcases rxe_aL hx1 h with ⟨pc', ls', st', σ', e, q⟩ | ⟨t, st', q⟩ | ⟨w', q1, q2⟩ | ⟨iv, As, st', w', σ', q1, q2⟩
      · exact (ih μ is pc' ls' st' σ' w τ hm (fun y hy => hi y (List.mem_cons_of_mem _ hy)) q).trans e
      · exact ih μ [] t ls st' σ w τ hm (fun y hy => by cases hy) q
      · rw [q2]
      · rw [iv] at hx2
        have hx2 : mmL M x.2.2.2.1 = true := hx2
        have e1 := ih _ [] 0 _ [] σ w' σ' hx2 (fun y hy => by cases hy) q1
        exact (ih μ is _ ls _ σ' w τ hm (fun y hy => hi y (List.mem_cons_of_mem _ hy)) q2).trans e1
/-- a contract, and the longs are the same -/
def LqR (Q : UQ1) : UQ1 := fun A1 σ w τ => Q A1 σ w τ ∧ aL τ = aL σ
theorem UMet.aL {M : List Nat} {μ : Nat} {P : UP1} {Q : UQ1} (hM : ckL M evT = true) (hm : mmL M μ = true) (h : UMet μ P Q) : UMet μ P (LqR Q) := fun A1 σ hP w τ e => ⟨h A1 σ hP w τ e, by
  obtain ⟨n, e⟩ := e
  exact ev_aL hM n μ [] 0 _ [] σ w τ hm (fun y hy => by cases hy) e⟩

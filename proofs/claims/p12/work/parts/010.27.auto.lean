/-! what a walk over blocks needs -/
def rfd (bs : RB) (pc : Nat) : Option (List RI) := match bs with
  | [] => none
  | b :: r => match Nat.beq b.1 pc with
    | true => some b.2
    | false => rfd r pc
theorem rfd_mem {bs : RB} {pc : Nat} {is : List RI} (h : rfd bs pc = some is) : (pc, is) ∈ bs := by
  induction bs with
  | nil => cases h
  | cons b r ih =>
    unfold rfd at h
    cases hb : Nat.beq b.1 pc with
    | true =>
      rw [hb] at h
      have e1 : b.1 = pc := Nat.eq_of_beq_eq_true hb
      have e2 : b.2 = is := Option.some.inj h
      subst e1; subst e2
      exact List.mem_cons_self
    | false =>
      rw [hb] at h
      exact List.mem_cons_of_mem _ (ih h)
def rgo (bs : RB) (ct : RC) (G : RK) (Z : Option Value → RS → Prop) : RK := fun pc ls st σ => match rfd bs pc with
  | some is => rwp ct G Z is pc ls st σ
  | none => False
theorem RMet.by {l : Launch} {lev μ : Nat} {P : RP} {Q : RQ} {r : RM} (bs : RB) (ct : RC) (hr : mtab[μ]? = some r) (hok : rokM r.2.1 r.2.2.1 r.2.2.2.1 bs = true) (hct : ∀ q ∈ ct, ∃ lv, lv < lev ∧ RMet l lv q.1 q.2.1 q.2.2)
    (hlen : ∀ (As : List Value) (σ : RS), P As σ → (lg_sl (.ref 1000 :: As)).length ≤ r.2.2.1)
    (body : ∀ (As : List Value) (σ : RS), P As σ → ∀ G : RK, (∀ (pc : Nat) (ls : RL) (st : List Value) (τ : RS), rgo bs ct G (Q As σ) pc ls st τ → G pc ls st τ) → (∀ (pc : Nat) (ls ls' : RL) (st : List Value) (τ : RS), (∀ q ∈ ls, q ∈ ls') → G pc ls st τ → G pc ls' st τ) → G 0 (lv_args 0 (.ref 1000 :: As)) [] σ) : RMet l lev μ P Q := by
  refine RMet.of bs ct hr hok hct hlen (fun As σ hP G hB hW => body As σ hP G (fun pc ls st τ h => ?_) hW)
  unfold rgo at h
  split at h
  next is hf => exact hB (pc, is) (rfd_mem hf) ls st τ h
  next => exact h.elim
theorem ct0 {l : Launch} {lev : Nat} : ∀ q ∈ ([] : RC), ∃ lv, lv < lev ∧ RMet l lv q.1 q.2.1 q.2.2 := fun _ h => absurd h List.not_mem_nil
theorem ctc {l : Launch} {lev lv μ : Nat} {P : RP} {Q : RQ} {r : RC} (h : RMet l lv μ P Q) (hl : lv < lev) (hr : ∀ q ∈ r, ∃ lv, lv < lev ∧ RMet l lv q.1 q.2.1 q.2.2) : ∀ q ∈ (μ, P, Q) :: r, ∃ lv, lv < lev ∧ RMet l lv q.1 q.2.1 q.2.2 := fun q hq => (List.mem_cons.mp hq).elim (fun e => by subst e; exact ⟨lv, hl, h⟩) (hr q)
theorem gI_sI {σ : RS} {k j : Nat} {v : Int32} : gI (sI σ k v) j = match Nat.beq j k with
  | true => v
  | false => gI σ j := rfl
theorem gI_sL {σ : RS} {k j : Nat} {v : Int64} : gI (sL σ k v) j = gI σ j := rfl
theorem gI_sA {σ : RS} {k j : Nat} {f : Nat → Int32} : gI (sA σ k f) j = gI σ j := rfl
theorem gI_sM {σ : RS} {k j : Nat} {f : Nat → Int64} : gI (sM σ k f) j = gI σ j := rfl
theorem gL_sI {σ : RS} {k j : Nat} {v : Int32} : gL (sI σ k v) j = gL σ j := rfl
theorem gL_sL {σ : RS} {k j : Nat} {v : Int64} : gL (sL σ k v) j = match Nat.beq j k with
  | true => v
  | false => gL σ j := rfl
theorem gL_sA {σ : RS} {k j : Nat} {f : Nat → Int32} : gL (sA σ k f) j = gL σ j := rfl
theorem gL_sM {σ : RS} {k j : Nat} {f : Nat → Int64} : gL (sM σ k f) j = gL σ j := rfl
theorem aI_sI {σ : RS} {k j : Nat} {v : Int32} : aI (sI σ k v) j = aI σ j := rfl
theorem aI_sL {σ : RS} {k j : Nat} {v : Int64} : aI (sL σ k v) j = aI σ j := rfl
theorem aI_sA {σ : RS} {k j : Nat} {f : Nat → Int32} : aI (sA σ k f) j = match Nat.beq j k with
  | true => f
  | false => aI σ j := rfl
theorem aI_sM {σ : RS} {k j : Nat} {f : Nat → Int64} : aI (sM σ k f) j = aI σ j := rfl
theorem aL_sI {σ : RS} {k j : Nat} {v : Int32} : aL (sI σ k v) j = aL σ j := rfl
theorem aL_sL {σ : RS} {k j : Nat} {v : Int64} : aL (sL σ k v) j = aL σ j := rfl
theorem aL_sA {σ : RS} {k j : Nat} {f : Nat → Int32} : aL (sA σ k f) j = aL σ j := rfl
theorem aL_sM {σ : RS} {k j : Nat} {f : Nat → Int64} : aL (sM σ k f) j = match Nat.beq j k with
  | true => f
  | false => aL σ j := rfl
theorem in32 {j : Int32} {n : Nat} (m : Int32) (hm : m = nI n) (hn : n < 2 ^ 31) (h0 : 0 ≤ j) (h1 : j < m) : vp_in j n := by
  rw [vp_in_iff]
  subst hm
  have a1 := Int32.le_iff_toInt_le.mp h0
  have a2 := Int32.lt_iff_toInt_lt.mp h1
  rw [nI_toInt hn] at a2
  exact ⟨by simpa using a1, a2⟩

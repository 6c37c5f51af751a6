/-! where statements' codes lead -/
theorem Ss_s20 {o a : Nat → Int32} : ∀ (i : Nat) (s : SS), Ss o a i = some s → ∀ l p r, s.1 = l ++ (20, p) :: r → p < i ∧ nT (o p) = 20 ∧ ∃ m, Ss o a p = some (r, m) := by
  intro i
  induction i with
  | zero =>
    intro s h l p r e
    obtain rfl := Option.some.inj h
    have e : ([] : List (Nat × Nat)) = l ++ (20, p) :: r := e
    simp at e
  | succ i ih =>
    intro s h l p r e
    obtain ⟨s0, h0, h1⟩ := Ss_step h
    rcases sSt_cls h1 with ⟨e1, -⟩ | ⟨hn, e1⟩ | ⟨hk, e1⟩ | ⟨-, r', e1, e2⟩ | ⟨x, r', ht, e1, e2⟩ | ⟨x, r', ht, e1, e2⟩
    · obtain ⟨g1, g2⟩ := ih s0 h0 l p r (by rw [← e1]; exact e)
      exact ⟨by omega, g2⟩
    · rw [e1] at e
      cases l with
      | nil =>
        obtain ⟨e3, e4⟩ := List.cons.inj e
        have e5 : i = p := congrArg Prod.snd e3
        subst e5
        exact ⟨by omega, hn, s0.2, by rw [h0, ← e4]⟩
      | cons q l =>
        obtain ⟨-, e4⟩ := List.cons.inj e
        obtain ⟨g1, g2⟩ := ih s0 h0 l p r e4
        exact ⟨by omega, g2⟩
    · rw [e1] at e
      cases l with
      | nil =>
        have e3 := congrArg Prod.fst (List.cons.inj e).1
        exact absurd e3 (kpu_ne hk).1
      | cons q l =>
        obtain ⟨-, e4⟩ := List.cons.inj e
        obtain ⟨g1, g2⟩ := ih s0 h0 l p r e4
        exact ⟨by omega, g2⟩
    · obtain ⟨g1, g2⟩ := ih s0 h0 ((20, nT (a i)) :: l) p r (by rw [e1, ← e2, e]; rfl)
      exact ⟨by omega, g2⟩
    · rw [e2] at e
      cases l with
      | nil =>
        have e3 := congrArg Prod.fst (List.cons.inj e).1
        exact absurd e3 (tfr_lt ht).2.2.1
      | cons q l =>
        obtain ⟨-, e4⟩ := List.cons.inj e
        obtain ⟨g1, g2⟩ := ih s0 h0 ((x, nT (a i)) :: l) p r (by rw [e1, e4]; rfl)
        exact ⟨by omega, g2⟩
    · obtain ⟨g1, g2⟩ := ih s0 h0 ((x, nT (a i)) :: l) p r (by rw [e1, ← e2, e]; rfl)
      exact ⟨by omega, g2⟩
/-- under what stands open no exp alone stands -/
theorem PK.nzt {σ : RS} (h : PK σ) {c : Nat} (hc : c ≤ nT (gI σ 18)) {q : Nat × Nat} {r : List (Nat × Nat)} {m : Nat} (hs : st σ c = some (q :: r, m)) : ¬ zh r := by
  obtain ⟨x, k⟩ := q
  by_cases h20 : x = 20
  · subst h20
    obtain ⟨g1, g2, m', g3⟩ := Ss_s20 c _ hs [] k r rfl
    intro hz
    have q := h.zp (show k < nT (gI σ 18) by omega) g3 hz
    rcases q with q | q | q | q
    · omega
    · rw [q] at g2; exact absurd g2 (by decide)
    · rw [q] at g2; exact absurd g2 (by decide)
    · rw [q] at g2; exact absurd g2 (by decide)
  · exact h.nzh (l := []) hc hs h20
/-- a place where a code may lead -/
def Tg (σ : RS) (c : Nat) (l : List (Nat × Nat)) (m : Nat) (p : Nat) : Prop := p ≤ nT (gI σ 18) ∧ (∃ l', st σ p = some (l', m) ∧ trs l' = trs l) ∧ zt σ p = some [] ∧ vp σ c < vp σ p
/-- the next code, where no try is begun or ended and nothing is counted -/
theorem RG.tn {σ : RS} (hG : RG σ) {c : Nat} (hc : c < nT (gI σ 18)) {l : List (Nat × Nat)} {m : Nat} (hs : st σ c = some (l, m)) (ho : 19 ≤ nT (aI σ 19 c)) (hn : ¬ nT (aI σ 19 c) = 30 ∧ ¬ nT (aI σ 19 c) = 26 ∧ ¬ nT (aI σ 19 c) = 32 ∧ ¬ nT (aI σ 19 c) = 35 ∧ ¬ (50 ≤ nT (aI σ 19 c) ∧ nT (aI σ 19 c) ≤ 54)) : Tg σ c l m (c + 1) := by
  obtain ⟨_, _, s0, s', P⟩ := hG.k.j.pc hc
  have e0 := Option.some.inj (P.hs.symm.trans hs)
  have h1 := P.hce.1.1
  have h0 : 0 ≤ aI σ 19 c := by lia
  have em : s'.2 = m := by rw [(sSt_nl P.ss).2.2.1 (by omega), e0]
  have es : st σ (c + 1) = some (s'.1, m) := by
    rw [show st σ (c + 1) = some s' from P.hs', ← em]
  have ht := sSt_trs P.ss (by omega)
  rw [e0] at ht
  refine ⟨hc, ⟨s'.1, es, ht⟩, hG.beh hc ho, ?_⟩
  have far : (∀ k r, s'.1 ≠ (30, k) :: r) → vp σ c < 5000 * (c + 1) → vp σ c < vp σ (c + 1) := fun q1 q2 => by
    have := vp_ge hG.k (show c + 1 ≤ _ from hc) es q1
    omega
  have hss := P.ss
  by_cases h31 : nT (aI σ 19 c) = 31
  · rcases sSt_act hss (Or.inr ⟨30, by rw [h31]; rfl⟩) with ⟨x, r, t1, t2, t3⟩ | ⟨x, r, t1, t2, t3⟩
    · exfalso
      rw [h31] at t1
      unfold tfr at t1
      simp only [Bool.or_eq_true, Bool.and_eq_true, beq_iff_eq] at t1
      omega
    · rw [e0] at t2
      have t2 : l = (x, nT (aI σ 20 c)) :: r := t2
      have hx : x = 30 := by
        rw [h31] at t1
        unfold tcl at t1
        simp only [Bool.or_eq_true, Bool.and_eq_true, beq_iff_eq] at t1
        omega
      subst hx
      rw [t2] at hs
      have hz := hG.k.sz.2
      have tb := (hG.k.tb (l := []) (Nat.le_of_lt hc) hs (Or.inr (Or.inl rfl)) (by decide)).1.2
      refine far (by rw [t3]; exact nz30 (hG.k.nzt (Nat.le_of_lt hc) hs)) ?_
      unfold vp
      rw [if_neg (by omega), hs]
      show 5000 * nT (aI σ 51 (nT (aI σ 20 c))) + c < _
      omega
  · by_cases h21 : nT (aI σ 19 c) = 21
    · refine vp_exp hG.k (Nat.lt_succ_self c) hc (by omega) ?_
      rw [h21] at hss
      have hss : some s0 = some s' := hss
      rw [es, hs]
      have e9 := Option.some.inj hss
      rw [← e9, e0]
    · have hv : vp σ c = 5000 * c := vp_st hG.k hc ⟨by omega, fun q => h21 (by rw [q]; rfl), fun q => h31 (by rw [q]; rfl), fun q => hn.2.2.2.1 (by rw [q]; rfl), fun q => hn.2.1 (by rw [q]; rfl), fun q => hn.2.2.1 (by rw [q]; rfl)⟩
      rcases sSt_cls hss with ⟨e1, -⟩ | ⟨hn2, e1⟩ | ⟨hk, e1⟩ | ⟨-, r, e1, e2⟩ | ⟨x, r, hx, e1, e2⟩ | ⟨x, r, hx, e1, e2⟩
      · refine vp_exp hG.k (Nat.lt_succ_self c) hc (by omega) ?_
        rw [es, hs, e1, e0]
      · refine far (fun k r e => ?_) (by omega)
        rw [e1] at e
        have := congrArg Prod.fst (List.cons.inj e).1
        exact absurd this (by show ¬ 20 = 30; decide)
      · refine far (fun k r e => ?_) (by omega)
        rw [e1] at e
        have := congrArg Prod.fst (List.cons.inj e).1
        exact hn.1 this
      · refine far ?_ (by omega)
        rw [e2]
        rw [e0] at e1
        have e1 : l = (20, nT (aI σ 20 c)) :: r := e1
        rw [e1] at hs
        exact nz30 (hG.k.nzt (Nat.le_of_lt hc) hs)
      · refine far (fun k r' e => ?_) (by omega)
        rw [e2] at e
        have := congrArg Prod.fst (List.cons.inj e).1
        exact hn.1 this
      · refine far ?_ (by omega)
        rw [e2]
        rw [e0] at e1
        have e1 : l = (x, nT (aI σ 20 c)) :: r := e1
        rw [e1] at hs
        exact nz30 (hG.k.nzt (Nat.le_of_lt hc) hs)
/-- behind its end -/
theorem RG.te {σ : RS} (hG : RG σ) {c : Nat} (hc : c < nT (gI σ 18)) {x k : Nat} {r : List (Nat × Nat)} {m : Nat} (hs : st σ c = some ((x, k) :: r, m)) (h20 : x ≠ 20) (hx : ¬ (50 ≤ x ∧ x ≤ 52)) (hv : vp σ c = 5000 * c) : (0 ≤ aI σ 55 k ∧ aI σ 55 k < 3020) ∧ Tg σ c ((x, k) :: r) m (nT (aI σ 55 k) + 1) := by
  have hz := hG.k.sz.2
  obtain ⟨⟨g1, g2, g3⟩, g4, g5⟩ := hG.k.end (l := []) (Nat.le_of_lt hc) hs h20
  have a2 := vp_ge hG.k (show nT (aI σ 55 k) + 1 ≤ _ from g3) g4 (nz30 (hG.k.nzt (Nat.le_of_lt hc) hs))
  exact ⟨⟨g1, (nlt g1 (by decide)).mpr (by show _ < 3020; omega)⟩, g3, ⟨r, g4, (trs_out hx).symm⟩, hG.beh g3 g5, by omega⟩

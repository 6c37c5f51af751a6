/-- of a code that the judge has passed, where no error stands -/
def EC (σ : RS) (i : Nat) : Prop :=
  ((aI σ 19 i = 2 ∨ aI σ 19 i = 3 ∨ aI σ 19 i = 4 ∨ aI σ 19 i = 17) → 0 ≤ aI σ 83 i ∧ aI σ 83 i < gI σ 42) ∧
  (aI σ 19 i = 17 → 0 ≤ aI σ 80 (nT (aI σ 22 i)) ∧ aI σ 80 (nT (aI σ 22 i)) < gI σ 42) ∧
  (aI σ 19 i = 18 → MV σ (aI σ 83 i) (aI σ 20 i) ∧ RO σ (aI σ 83 i) (aI σ 81 i)) ∧
  ((aI σ 19 i = 46 ∨ aI σ 19 i = 47) → 0 ≤ aI σ 20 i) ∧
  (aI σ 19 i = 21 → ∀ z, Et (aI σ 19) (aI σ 20) (aI σ 21) (aI σ 81) i = some z → ∃ x, z = [x] ∧ (aI σ 82 i = 5 ↔ 10 ≤ x))
def JE (σ : RS) (E : List Nat) (s : SS) (c : Nat) : Prop := (∀ i, i < nT (gI σ 69) → 0 ≤ aI σ 70 i) ∧ (∃ z, Et (aI σ 19) (aI σ 20) (aI σ 21) (aI σ 81) c = some z ∧ er z = E ∧ TV (aI σ 70) z (nT (gI σ 69))) ∧ (∀ q ∈ s.1, q.1 = 37 → 0 ≤ aI σ 88 q.2) ∧ ∀ i, i < c → EC σ i
def JV (σ : RS) (c : Nat) (E : List Nat) (s : SS) : Prop :=
  (0 ≤ gI σ 69 ∧ nT (gI σ 69) = wl E) ∧
  (0 ≤ gI σ 74 ∧ nT (gI σ 74) ≤ Ne (aI σ 19) c) ∧
  (∀ i, i < nT (gI σ 69) → (0 ≤ aI σ 73 i ∧ aI σ 73 i ≤ 500) ∧ (aI σ 71 i = 0 ∨ aI σ 71 i = 1)) ∧
  (0 ≤ gI σ 89 ∧ nT (gI σ 89) = s.2) ∧
  (0 ≤ gI σ 91 ∧ nT (gI σ 91) = nlab s.1 ∧ ∀ i, i < nT (gI σ 91) → 0 ≤ aI σ 90 i ∧ aI σ 90 i < gI σ 49) ∧
  (∀ k, k < nT (gI σ 49) → aI σ 59 k = -2 ∨ (0 ≤ aI σ 59 k ∧ nT (aI σ 59 k) < c ∧ aI σ 19 (nT (aI σ 59 k)) = 39 ∧ nT (aI σ 20 (nT (aI σ 59 k))) = k)) ∧
  (gI σ 66 = 0 → JE σ E s c)
theorem JV.l {σ : RS} {c : Nat} {E : List Nat} {s : SS} (h : JV σ c E s) : 0 ≤ gI σ 69 ∧ nT (gI σ 69) = wl E := h.1
theorem JV.x {σ : RS} {c : Nat} {E : List Nat} {s : SS} (h : JV σ c E s) : 0 ≤ gI σ 74 ∧ nT (gI σ 74) ≤ Ne (aI σ 19) c := h.2.1
theorem JV.i {σ : RS} {c : Nat} {E : List Nat} {s : SS} (h : JV σ c E s) : ∀ i, i < nT (gI σ 69) → (0 ≤ aI σ 73 i ∧ aI σ 73 i ≤ 500) ∧ (aI σ 71 i = 0 ∨ aI σ 71 i = 1) := h.2.2.1
theorem JV.m {σ : RS} {c : Nat} {E : List Nat} {s : SS} (h : JV σ c E s) : 0 ≤ gI σ 89 ∧ nT (gI σ 89) = s.2 := h.2.2.2.1
theorem JV.b {σ : RS} {c : Nat} {E : List Nat} {s : SS} (h : JV σ c E s) : 0 ≤ gI σ 91 ∧ nT (gI σ 91) = nlab s.1 ∧ ∀ i, i < nT (gI σ 91) → 0 ≤ aI σ 90 i ∧ aI σ 90 i < gI σ 49 := h.2.2.2.2.1
theorem JV.d {σ : RS} {c : Nat} {E : List Nat} {s : SS} (h : JV σ c E s) : ∀ k, k < nT (gI σ 49) → aI σ 59 k = -2 ∨ (0 ≤ aI σ 59 k ∧ nT (aI σ 59 k) < c ∧ aI σ 19 (nT (aI σ 59 k)) = 39 ∧ nT (aI σ 20 (nT (aI σ 59 k))) = k) := h.2.2.2.2.2.1
theorem JV.e {σ : RS} {c : Nat} {E : List Nat} {s : SS} (h : JV σ c E s) : gI σ 66 = 0 → JE σ E s c := h.2.2.2.2.2.2
theorem i32 {x : Int32} {n : Nat} (h0 : 0 ≤ x) (h : nT x ≤ n) (m : Int32) (hm : nT m = n) (hm0 : 0 ≤ m) : x ≤ m := by
  apply t_le
  have a1 := t_nT h0
  have a2 := t_nT hm0
  omega
theorem JV.li {σ : RS} {c : Nat} {E E' : List Nat} {s s' : SS} (h : JV σ c E s) (p : PC σ c E E' s s') : LI σ := by
  have h1 := wl_le E
  have h2 := p.le
  have h3 := h.l.2
  refine ⟨⟨h.l.1, i32 (n := 600) h.l.1 (by omega) 600 (by decide) (by decide)⟩, ⟨h.x.1, i32 (n := 2000) h.x.1 ?_ 2000 (by decide) (by decide)⟩, fun i hi => ⟨(h.i i hi).1, (h.i i hi).2, fun he => (h.e he).1 i hi⟩⟩
  have a1 := h.x.2
  have a2 := Ne_mono (o := aI σ 19) (n := c) (c + 1) (by omega)
  have a3 := p.ne
  omega
theorem PC.co {σ : RS} {c : Int32} {E E' : List Nat} {s s' : SS} (p : PC σ (nT c) E E' s s') (h0 : 0 ≤ c) : CO σ c := by
  have h1 := p.c4
  refine ⟨⟨h0, t_lt ?_⟩, p.hce.2.1, p.hce.2.2.1⟩
  have a1 := t_nT h0
  show _ < (4000 : Int)
  omega
theorem PC.cx {σ : RS} {c : Int32} {E E' : List Nat} {s s' : SS} (h : JV σ (nT c) E s) (p : PC σ (nT c) E E' s s') (h0 : 0 ≤ c) (ho : nT (aI σ 19 (nT c)) ≤ 18) : CX σ c := by
  refine ⟨p.co h0, t_lt ?_⟩
  have a1 := t_nT h.x.1
  have a2 := h.x.2
  have a3 := p.ne
  have a4 : Ne (aI σ 19) (nT c + 1) = 1 + Ne (aI σ 19) (nT c) := by
    show (if nT (aI σ 19 (nT c)) ≤ 18 then 1 else 0) + _ = _
    rw [if_pos ho]
  show _ < (2000 : Int)
  omega
/-- an Int32 that is n -/
theorem eqJ {x : Int32} {n : Nat} (h : nT x = n) (hn : 0 < n) (m : Int32) (hm : nT m = n) (hm0 : 0 ≤ m) : x = m := by
  have hx : 0 ≤ x := by
    rcases Int32.lt_or_le x 0 with q | q
    · exfalso
      have : nT x = 0 := by
        unfold nT
        rw [Int32.toNatClampNeg_eq_zero_iff]
        exact Int32.le_of_lt q
      omega
    · exact q
  exact nT_eq hx hm0 (by omega)
theorem PC.jp {σ : RS} {c : Int32} {E E' : List Nat} {s s' : SS} (h : JV σ (nT c) E s) (p : PC σ (nT c) E E' s s') (ho : aI σ 19 (nT c) ≤ 18) : JP σ c := by
  have hes := p.es
  have hw := h.l.2
  have ge : ∀ n : Nat, ∀ m : Int32, nT m = n → 0 ≤ m → n ≤ wl E → m ≤ gI σ 69 := fun n m hm h0 hn => t_le (by
    have a1 := t_nT h.l.1
    have a2 := t_nT h0
    omega)
  have wc : ∀ k r, wl (k :: r) = wk k + wl r := fun _ _ => rfl
  have hcy := p.hce.2.2.2.2.2.2.2.2.2.1
  refine ⟨⟨p.hce.1.1, ho⟩, hcy.2.2, fun q => ge 1 1 (by decide) (by decide) ?_, fun q => ge 2 2 (by decide) (by decide) ?_, fun q => ge 3 3 (by decide) (by decide) ?_, fun q => ?_⟩
  · have q : aI σ 19 (nT c) = 5 ∨ aI σ 19 (nT c) = 6 ∨ aI σ 19 (nT c) = 15 ∨ aI σ 19 (nT c) = 17 := q
    rcases q with q | q | q | q <;> rw [q] at hes
    · have e : eSt 5 (aI σ 20 (nT c)) (aI σ 21 (nT c)) E = some E' := hes
      simp only [eSt] at e
      split at e
      · rw [wc]; show 1 ≤ 1 + _; omega
      · cases e
    · have e : eSt 6 (aI σ 20 (nT c)) (aI σ 21 (nT c)) E = some E' := hes
      simp only [eSt] at e
      split at e
      · rw [wc]; show 1 ≤ 1 + _; omega
      · cases e
    · have e : eSt 15 (aI σ 20 (nT c)) (aI σ 21 (nT c)) E = some E' := hes
      simp only [eSt] at e
      split at e
      · rw [wc]; show 1 ≤ 1 + _; omega
      · cases e
    · have e : eSt 17 (aI σ 20 (nT c)) (aI σ 21 (nT c)) E = some E' := hes
      simp only [eSt] at e
      split at e <;> split at e <;> first | (cases e; done) | (rw [wc]; show 1 ≤ 1 + _; omega)
  · have q : aI σ 19 (nT c) = 7 ∨ aI σ 19 (nT c) = 9 ∨ aI σ 19 (nT c) = 11 := q
    rcases q with q | q | q <;> rw [q] at hes
    · have e : eSt 7 (aI σ 20 (nT c)) (aI σ 21 (nT c)) E = some E' := hes
      simp only [eSt] at e
      split at e
      · rw [wc, wc]; show 2 ≤ 1 + (1 + _); omega
      · cases e
    · have e : eSt 9 (aI σ 20 (nT c)) (aI σ 21 (nT c)) E = some E' := hes
      simp only [eSt] at e
      split at e
      · rw [wc, wc]; show 2 ≤ 1 + (1 + _); omega
      · cases e
    · have e : eSt 11 (aI σ 20 (nT c)) (aI σ 21 (nT c)) E = some E' := hes
      simp only [eSt] at e
      split at e
      · rw [wc, wc]; show 2 ≤ 1 + (1 + _); omega
      · cases e
  · have q : aI σ 19 (nT c) = 14 := q
    rw [q] at hes
    have e : eSt 14 (aI σ 20 (nT c)) (aI σ 21 (nT c)) E = some E' := hes
    simp only [eSt] at e
    split at e
    · rw [wc, wc]; show 3 ≤ 1 + (2 + _); omega
    · cases e
  · have q : aI σ 19 (nT c) = 18 := q
    have hc2 := hcy.2.1 q
    rw [q] at hes
    have e : eSt 18 (aI σ 20 (nT c)) (aI σ 21 (nT c)) E = some E' := hes
    simp only [eSt] at e
    split at e
    · rename_i ht
      refine ⟨hc2.2.1, ge (nT (aI σ 20 (nT c))) _ rfl hc2.2.1 ?_⟩
      have e2 : E = E.take (nT (aI σ 20 (nT c))) ++ E.drop (nT (aI σ 20 (nT c))) := (List.take_append_drop _ _).symm
      rw [e2, wl_app, ht, wl_rep]
      omega
    · cases e
/-- the pile's weight over an exp's code -/
theorem eSt_wl {o : Nat} {a b : Int32} {E E' : List Nat} (h : eSt o a b E = some E') (n : Nat) (hc : (o = 1 ∨ o = 2 ∨ o = 3 ∨ o = 4) ∧ n = 0 ∨ (o = 5 ∨ o = 6 ∨ o = 15 ∨ o = 17) ∧ n = 1 ∨ (o = 7 ∨ o = 9 ∨ o = 11) ∧ n = 2 ∨ o = 14 ∧ n = 3 ∨ o = 18 ∧ n = nT a ∨ (o = 8 ∨ o = 10 ∨ o = 12 ∨ o = 13 ∨ o = 16) ∧ n = 1 ∧ wl E' = wl E + 0 + 0 ∨ False) : wl E' + n = wl E + 1 := by
  have wc : ∀ k r, wl (k :: r) = wk k + wl r := fun _ _ => rfl
  rcases hc with ⟨ho, rfl⟩ | ⟨ho, rfl⟩ | ⟨ho, rfl⟩ | ⟨rfl, rfl⟩ | ⟨rfl, rfl⟩ | ⟨ho, rfl, hw⟩ | hf
  · rcases ho with rfl | rfl | rfl | rfl <;> (obtain rfl := Option.some.inj h; rw [wc]; show 1 + _ + 0 = _; omega)
  · rcases ho with rfl | rfl | rfl | rfl <;> simp only [eSt] at h
    · split at h <;> first | (cases h; done) | (obtain rfl := Option.some.inj h; omega)
    · split at h <;> first | (cases h; done) | (obtain rfl := Option.some.inj h; omega)
    · split at h <;> first | (cases h; done) | (obtain rfl := Option.some.inj h; omega)
    · split at h <;> split at h <;> first | (cases h; done) | (obtain rfl := Option.some.inj h; omega) | (obtain rfl := Option.some.inj h; rw [wc, wc, wc]; show 1 + _ + 1 = 1 + (0 + _) + 1; omega)
  · rcases ho with rfl | rfl | rfl <;> simp only [eSt] at h <;> split at h <;> first | (cases h; done) | (obtain rfl := Option.some.inj h; rw [wc, wc, wc]; show 1 + _ + 2 = 1 + (1 + _) + 1; omega)
  · simp only [eSt] at h
    split at h <;> first | (cases h; done) | (obtain rfl := Option.some.inj h; rw [wc, wc, wc]; show 1 + _ + 3 = 1 + (2 + _) + 1; omega)
  · simp only [eSt] at h
    split at h
    · rename_i ht
      obtain rfl := Option.some.inj h
      have e2 : E = E.take (nT a) ++ E.drop (nT a) := (List.take_append_drop _ _).symm
      have e3 : wl E = wl (E.take (nT a)) + wl (E.drop (nT a)) := by
        rw [← wl_app, ← e2]
      rw [ht, wl_rep] at e3
      rw [wc]
      show 1 + _ + _ = _
      omega
    · cases h
  · omega
  · exact hf.elim
theorem eSt_wl0 {o : Nat} {a b : Int32} {E E' : List Nat} (h : eSt o a b E = some E') (ho : o = 8 ∨ o = 10 ∨ o = 12 ∨ o = 13 ∨ o = 16) : wl E' = wl E := by
  have wc : ∀ k r, wl (k :: r) = wk k + wl r := fun _ _ => rfl
  rcases ho with rfl | rfl | rfl | rfl | rfl <;> simp only [eSt] at h
  · split at h <;> first | (cases h; done) | (obtain rfl := Option.some.inj h; rw [wc, wc]; rfl)
  · split at h <;> first | (cases h; done) | (obtain rfl := Option.some.inj h; rw [wc, wc]; rfl)
  · split at h <;> first | (cases h; done) | (obtain rfl := Option.some.inj h; rw [wc, wc]; rfl)
  · split at h <;> first | (cases h; done) | (obtain rfl := Option.some.inj h; rw [wc, wc, wc]; show 2 + _ = 1 + (1 + _); omega)
  · obtain rfl := Option.some.inj h
    rw [wc]
    show 0 + _ = _
    omega

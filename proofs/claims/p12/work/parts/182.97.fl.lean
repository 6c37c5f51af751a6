theorem ksl_inv {n r : Nat} (hn : ksl n = r) (hr5 : r = 53 ∨ r = 54 ∨ r = 55 ∨ r = 57 ∨ r = 58) : (r = 53 ∧ n = 34) ∨ (r = 54 ∧ n = 35) ∨ (r = 57 ∧ n = 51) ∨ (r = 58 ∧ n = 52) ∨ (r = 55 ∧ ∃ x, tcl n x = true) := by
  have hb : n < 60 := by
    rcases Nat.lt_or_ge n 60 with q | q
    · exact q
    · exfalso
      have : ksl n = 0 := by
        unfold ksl
        split <;> first | rfl | (exact absurd q (by decide))
      omega
  have hd : ∀ n, n < 60 → (ksl n = 53 → n = 34) ∧ (ksl n = 54 → n = 35) ∧ (ksl n = 57 → n = 51) ∧ (ksl n = 58 → n = 52) ∧ (ksl n = 55 → (tcl n 23 || tcl n 27 || tcl n 30 || tcl n 35 || tcl n 37 || tcl n 41 || tcl n 51) = true) := by decide
  obtain ⟨d1, d2, d3, d4, d5⟩ := hd n hb
  rcases hr5 with rfl | rfl | rfl | rfl | rfl
  · exact Or.inl ⟨rfl, d1 hn⟩
  · exact Or.inr (Or.inl ⟨rfl, d2 hn⟩)
  · refine Or.inr (Or.inr (Or.inr (Or.inr ⟨rfl, ?_⟩)))
    have h5 := d5 hn
    simp only [Bool.or_eq_true] at h5
    rcases h5 with (((((q | q) | q) | q) | q) | q) | q
    · exact ⟨_, q⟩
    · exact ⟨_, q⟩
    · exact ⟨_, q⟩
    · exact ⟨_, q⟩
    · exact ⟨_, q⟩
    · exact ⟨_, q⟩
    · exact ⟨_, q⟩
  · exact Or.inr (Or.inr (Or.inl ⟨rfl, d3 hn⟩))
  · exact Or.inr (Or.inr (Or.inr (Or.inl ⟨rfl, d4 hn⟩)))
theorem PK.uq {σ : RS} (h : PK σ) {k d r : Nat} (hd : d < nT (gI σ 18)) (ha : acts (aI σ 19) (aI σ 20) k d) (hr : ksl (nT (aI σ 19 d)) = r) (hr5 : r = 53 ∨ r = 54 ∨ r = 55 ∨ r = 57 ∨ r = 58) (hk : kop (nT (aI σ 19 d)) = true) : 0 ≤ aI σ r k ∧ nT (aI σ r k) = d := by
  obtain ⟨q1, q2, q3, q4⟩ := h.row hd ha hr (by omega) hk
  refine ⟨q1, ?_⟩
  have kn : ∀ n, ksl n = r → (r = 53 ∧ n = 34) ∨ (r = 54 ∧ n = 35) ∨ (r = 57 ∧ n = 51) ∨ (r = 58 ∧ n = 52) ∨ (r = 55 ∧ ∃ x, tcl n x = true) := fun n hn => ksl_inv hn hr5
  have hv : acts (aI σ 19) (aI σ 20) k (nT (aI σ r k)) := by
    refine ⟨q4, ?_⟩
    rcases kn _ q3 with ⟨-, e⟩ | ⟨-, e⟩ | ⟨-, e⟩ | ⟨-, e⟩ | ⟨-, e⟩
    · rw [e]; exact Or.inr (Or.inl ⟨33, rfl⟩)
    · rw [e]; exact Or.inr (Or.inl ⟨34, rfl⟩)
    · rw [e]; exact Or.inr (Or.inl ⟨50, rfl⟩)
    · rw [e]; exact Or.inr (Or.inl ⟨50, rfl⟩)
    · exact Or.inr (Or.inr e)
  have h1 := kn _ hr
  have h2 := kn _ q3
  rcases Nat.lt_trichotomy (nT (aI σ r k)) d with z | z | z
  · have w := acts_lt h z hd hv ha
    exfalso
    rcases h1 with ⟨e1, e2⟩ | ⟨e1, e2⟩ | ⟨e1, e2⟩ | ⟨e1, e2⟩ | ⟨e1, e2⟩ <;> rcases h2 with ⟨f1, f2⟩ | ⟨f1, f2⟩ | ⟨f1, f2⟩ | ⟨f1, f2⟩ | ⟨f1, f2⟩ <;> first | omega | exact w.2 f2
  · exact z
  · have w := acts_lt h z q2 ha hv
    exfalso
    rcases h1 with ⟨e1, e2⟩ | ⟨e1, e2⟩ | ⟨e1, e2⟩ | ⟨e1, e2⟩ | ⟨e1, e2⟩ <;> rcases h2 with ⟨f1, f2⟩ | ⟨f1, f2⟩ | ⟨f1, f2⟩ | ⟨f1, f2⟩ | ⟨f1, f2⟩ <;> first | omega | exact w.2 e2
theorem tfr_to {n x : Nat} (h : tfr n x = true) : (x = 23 → n = 24) ∧ (x = 26 → n = 27) ∧ (x = 29 → n = 30) ∧ (x = 32 → n = 33) ∧ (x = 33 → n = 34) ∧ (x = 34 → n = 35) ∧ (x ≠ 35 ∧ x ≠ 24 ∧ x ≠ 27 ∧ x ≠ 30 ∧ x ≠ 37 ∧ x ≠ 41 ∧ x ≠ 52) ∧ (x = 50 → n = 51 ∨ n = 52) ∧ (x = 51 → n = 52) := by
  unfold tfr at h
  simp only [Bool.or_eq_true, Bool.and_eq_true, beq_iff_eq] at h
  omega
theorem tcl_to {n x : Nat} (h : tcl n x = true) : (x = 35 → n = 36) ∧ (x ≠ 32 ∧ x ≠ 33 ∧ x ≠ 34 ∧ x ≠ 26 ∧ x ≠ 29 ∧ x ≠ 50) ∧ (x = 23 ∨ x = 24 → n = 25) ∧ (x = 27 → n = 28) ∧ (x = 30 → n = 31) ∧ (x = 37 → n = 40) ∧ (x = 41 → n = 42) ∧ (x = 51 ∨ x = 52 → n = 53) := by
  unfold tcl at h
  simp only [Bool.or_eq_true, Bool.and_eq_true, beq_iff_eq] at h
  omega
/-- from the update of a for on: its body, its end -/
theorem PK.f34 {σ : RS} (h : PK σ) {i k m : Nat} {l r : List (Nat × Nat)} (hi : i ≤ nT (gI σ 18)) (hs : Ss (aI σ 19) (aI σ 20) i = some (l ++ (34, k) :: r, m)) : ∃ b, i ≤ b ∧ b < nT (gI σ 18) ∧ nT (aI σ 19 b) = 35 ∧ nT (aI σ 20 b) = k ∧ (∃ m, Ss (aI σ 19) (aI σ 20) b = some ((34, k) :: r, m)) ∧ (∃ m, Ss (aI σ 19) (aI σ 20) (b + 1) = some ((35, k) :: r, m)) ∧ 0 ≤ aI σ 54 k ∧ nT (aI σ 54 k) = b := by
  obtain ⟨b, b1, b2, b3, b4, b5, b6⟩ := Ss_next h.fin (by decide) _ i hi rfl l m hs
  rcases b5 with ⟨c1, c2⟩ | ⟨c1, c2⟩
  · have e : nT (aI σ 19 b) = 35 := (tfr_to c1).2.2.2.2.2.1 rfl
    have ha : acts (aI σ 19) (aI σ 20) k b := ⟨b4, Or.inr (Or.inl ⟨34, c1⟩)⟩
    obtain ⟨u1, u2⟩ := h.uq b2 ha (by rw [e]; rfl) (Or.inr (Or.inl rfl)) (by rw [e]; rfl)
    rw [e] at c2
    exact ⟨b, b1, b2, e, b4, b3, c2, u1, u2⟩
  · exact absurd rfl (tcl_to c1).2.1.2.2.1
theorem PK.f35 {σ : RS} (h : PK σ) {i k m : Nat} {l r : List (Nat × Nat)} (hi : i ≤ nT (gI σ 18)) (hs : Ss (aI σ 19) (aI σ 20) i = some (l ++ (35, k) :: r, m)) : ∃ e, i ≤ e ∧ e < nT (gI σ 18) ∧ nT (aI σ 19 e) = 36 ∧ nT (aI σ 20 e) = k ∧ (∃ m, Ss (aI σ 19) (aI σ 20) e = some ((35, k) :: r, m)) ∧ (∃ m, Ss (aI σ 19) (aI σ 20) (e + 1) = some (r, m)) ∧ 0 ≤ aI σ 55 k ∧ nT (aI σ 55 k) = e := by
  obtain ⟨b, b1, b2, b3, b4, b5, b6⟩ := Ss_next h.fin (by decide) _ i hi rfl l m hs
  rcases b5 with ⟨c1, c2⟩ | ⟨c1, c2⟩
  · exact absurd rfl (tfr_to c1).2.2.2.2.2.2.1.1
  · have e : nT (aI σ 19 b) = 36 := (tcl_to c1).1 rfl
    have ha : acts (aI σ 19) (aI σ 20) k b := ⟨b4, Or.inr (Or.inr ⟨35, c1⟩)⟩
    obtain ⟨u1, u2⟩ := h.uq b2 ha (by rw [e]; rfl) (Or.inr (Or.inr (Or.inl rfl))) (by rw [e]; rfl)
    exact ⟨b, b1, b2, e, b4, b3, c2, u1, u2⟩
/-- at the test of a for -/
theorem PK.f33 {σ : RS} (h : PK σ) {c : Nat} (hc : c < nT (gI σ 18)) {E E' : List Nat} {s s' : SS} (p : PC σ c E E' s s') (ho : nT (aI σ 19 c) = 33) : ∃ r, s.1 = (32, nT (aI σ 20 c)) :: r ∧ ∃ b, c < b ∧ b < nT (gI σ 18) ∧ nT (aI σ 19 b) = 35 ∧ nT (aI σ 20 b) = nT (aI σ 20 c) ∧ (∃ m, Ss (aI σ 19) (aI σ 20) b = some ((34, nT (aI σ 20 c)) :: r, m)) ∧ 0 ≤ aI σ 54 (nT (aI σ 20 c)) ∧ nT (aI σ 54 (nT (aI σ 20 c))) = b := by
  have hss := p.ss
  rw [ho] at hss
  rcases sSt_act hss (Or.inl ⟨32, rfl⟩) with ⟨x, r, t1, t2, t3⟩ | ⟨x, r, t1, t2, t3⟩
  · have hx : x = 32 := by
      unfold tfr at t1
      simp only [Bool.or_eq_true, Bool.and_eq_true, beq_iff_eq] at t1
      omega
    subst hx
    refine ⟨r, t2, ?_⟩
    have hs1 : Ss (aI σ 19) (aI σ 20) (c + 1) = some ([] ++ (33, nT (aI σ 20 c)) :: r, s'.2) := by
      rw [p.hs']
      congr 1
      exact Prod.ext t3 rfl
    obtain ⟨u, u1, u2, u3, u4, u5, u6⟩ := Ss_next h.fin (by decide) _ (c + 1) hc rfl [] s'.2 hs1
    rcases u5 with ⟨c1, m1, c2⟩ | ⟨c1, c2⟩
    · have e : nT (aI σ 19 u) = 34 := (tfr_to c1).2.2.2.2.1 rfl
      rw [e] at c2
      obtain ⟨b, b1, b2, b3, b4, b5, b6, b7, b8⟩ := h.f34 (i := u + 1) (l := []) (by omega) c2
      exact ⟨b, by omega, b2, b3, b4, b5, b7, b8⟩
    · exact absurd rfl (tcl_to c1).2.1.2.1
  · unfold tcl at t1
    simp only [Bool.or_eq_true, Bool.and_eq_true, beq_iff_eq] at t1
    omega
/-- at the end of a for -/
theorem PK.f36 {σ : RS} (h : PK σ) {c : Nat} (hc : c < nT (gI σ 18)) {E E' : List Nat} {s s' : SS} (p : PC σ c E E' s s') (ho : nT (aI σ 19 c) = 36) : ∃ r, s.1 = (35, nT (aI σ 20 c)) :: r ∧ s'.1 = r ∧ (0 ≤ aI σ 55 (nT (aI σ 20 c)) ∧ nT (aI σ 55 (nT (aI σ 20 c))) = c) ∧ ∃ u b, u < b ∧ b < c ∧ nT (aI σ 19 u) = 34 ∧ nT (aI σ 20 u) = nT (aI σ 20 c) ∧ (∃ m, Ss (aI σ 19) (aI σ 20) (u + 1) = some ((34, nT (aI σ 20 c)) :: r, m)) ∧ 0 ≤ aI σ 53 (nT (aI σ 20 c)) ∧ nT (aI σ 53 (nT (aI σ 20 c))) = u ∧ nT (aI σ 54 (nT (aI σ 20 c))) = b := by
  have hss := p.ss
  rw [ho] at hss
  rcases sSt_act hss (Or.inr ⟨35, rfl⟩) with ⟨x, r, t1, t2, t3⟩ | ⟨x, r, t1, t2, t3⟩
  · unfold tfr at t1
    simp only [Bool.or_eq_true, Bool.and_eq_true, beq_iff_eq] at t1
    omega
  · have hx : x = 35 := by
      unfold tcl at t1
      simp only [Bool.or_eq_true, Bool.and_eq_true, beq_iff_eq] at t1
      omega
    subst hx
    have hac : acts (aI σ 19) (aI σ 20) (nT (aI σ 20 c)) c := ⟨rfl, Or.inr (Or.inr ⟨35, by rw [ho]; rfl⟩)⟩
    refine ⟨r, t2, t3, h.uq hc hac (by rw [ho]; rfl) (Or.inr (Or.inr (Or.inl rfl))) (by rw [ho]; rfl), ?_⟩
    obtain ⟨b, b1, b2, b3, ⟨m1, b4⟩, b5⟩ := Ss_born c s p.hs [] 35 (nT (aI σ 20 c)) r t2 (by decide)
    obtain ⟨_, _, s1, s1', p1⟩ := h.j.pc (show b < nT (gI σ 18) by omega)
    have hs1 := p1.ss
    rw [b2] at hs1
    have e1 : s1' = ((35, nT (aI σ 20 c)) :: r, m1) := Option.some.inj (p1.hs'.symm.trans b4)
    rcases sSt_act hs1 (Or.inl ⟨34, rfl⟩) with ⟨x, r', t4, t5, t6⟩ | ⟨x, r', t4, t5, t6⟩
    · have hx : x = 34 := by
        unfold tfr at t4
        simp only [Bool.or_eq_true, Bool.and_eq_true, beq_iff_eq] at t4
        omega
      subst hx
      rw [e1] at t6
      have hr : r = r' := (List.cons.inj t6).2
      subst hr
      rw [b3] at t5
      obtain ⟨u, u1, u2, u3, u4, u5⟩ := Ss_born b s1 p1.hs [] 34 (nT (aI σ 20 c)) r t5 (by decide)
      have hau : acts (aI σ 19) (aI σ 20) (nT (aI σ 20 c)) u := ⟨u3, Or.inr (Or.inl ⟨33, by rw [u2]; rfl⟩)⟩
      have hab : acts (aI σ 19) (aI σ 20) (nT (aI σ 20 c)) b := ⟨b3, Or.inr (Or.inl ⟨34, by rw [b2]; rfl⟩)⟩
      have q1 := h.uq (show u < nT (gI σ 18) by omega) hau (by rw [u2]; rfl) (Or.inl rfl) (by rw [u2]; rfl)
      have q2 := h.uq (show b < nT (gI σ 18) by omega) hab (by rw [b2]; rfl) (Or.inr (Or.inl rfl)) (by rw [b2]; rfl)
      exact ⟨u, b, u1, b1, u2, u3, u4, q1.1, q1.2, q2.2⟩
    · unfold tcl at t4
      simp only [Bool.or_eq_true, Bool.and_eq_true, beq_iff_eq] at t4
      omega
theorem no_app (x y : List Nat) : no (x ++ y) = no x + no y := by
  induction x with
  | nil => simp [no]
  | cons k r ih =>
    show _ + no (r ++ y) = _ + no r + no y
    rw [ih, Nat.add_assoc]
theorem no_rep (n : Nat) : no (List.replicate n 0) = 0 := by
  induction n with
  | zero => rfl
  | succ n ih => rw [List.replicate_succ]; show 0 + no _ = 0; rw [ih]
theorem no_le : ∀ l : List Nat, no l ≤ l.length := by
  intro l
  induction l with
  | nil => exact Nat.le_refl _
  | cons k r ih =>
    show (if _ then 1 else 0) + no r ≤ r.length + 1
    split <;> omega
theorem eSt_no {o : Nat} {a b : Int32} {E E' : List Nat} (ho : 1 ≤ o ∧ o ≤ 18) (h : eSt o a b E = some E') : ((o = 8 ∨ o = 10 ∨ o = 12) → no E' = no E + 1) ∧ ((o = 9 ∨ o = 11 ∨ o = 14) → no E' + 1 = no E) ∧ (¬ (o = 8 ∨ o = 10 ∨ o = 12) → ¬ (o = 9 ∨ o = 11 ∨ o = 14) → no E' = no E) ∧ (o = 13 → 1 ≤ no E) := by
  have nc : ∀ k r, no (k :: r) = (if k = 1 ∨ k = 2 ∨ k = 3 then 1 else 0) + no r := fun _ _ => rfl
  have h18 : o = 1 ∨ o = 2 ∨ o = 3 ∨ o = 4 ∨ o = 5 ∨ o = 6 ∨ o = 7 ∨ o = 8 ∨ o = 9 ∨ o = 10 ∨ o = 11 ∨ o = 12 ∨ o = 13 ∨ o = 14 ∨ o = 15 ∨ o = 16 ∨ o = 17 ∨ o = 18 := by omega
  rcases h18 with rfl | rfl | rfl | rfl | rfl | rfl | rfl | rfl | rfl | rfl | rfl | rfl | rfl | rfl | rfl | rfl | rfl | rfl <;> simp only [eSt] at h
  case inr.inr.inr.inr.inr.inr.inr.inr.inr.inr.inr.inr.inr.inr.inr.inr.inr =>
    split at h
    · rename_i ht
      obtain rfl := Option.some.inj h
      have e2 : E = E.take (nT a) ++ E.drop (nT a) := (List.take_append_drop _ _).symm
      have e3 : no E = no (E.take (nT a)) + no (E.drop (nT a)) := by rw [← no_app, ← e2]
      rw [ht, no_rep] at e3
      rw [nc, if_neg (by decide)]
      refine ⟨fun q => by omega, fun q => by omega, fun _ _ => by omega, fun q => by omega⟩
    · cases h
  all_goals first
    | (obtain rfl := Option.some.inj h; simp only [nc]; refine ⟨fun q => by omega, fun q => by omega, fun _ _ => ?_, fun q => by omega⟩; simp; done)
    | (split at h <;> first | (cases h; done) | (obtain rfl := Option.some.inj h; simp only [nc]; refine ⟨fun q => ?_, fun q => ?_, fun q1 q2 => ?_, fun q => ?_⟩ <;> first | omega | (simp; done) | (simp; omega) | (exact absurd (by decide) q1) | (exact absurd (by decide) q2)))
    | (split at h <;> split at h <;> first | (cases h; done) | (obtain rfl := Option.some.inj h; simp only [nc]; refine ⟨fun q => ?_, fun q => ?_, fun q1 q2 => ?_, fun q => ?_⟩ <;> first | omega | (simp; done) | (simp; omega)))

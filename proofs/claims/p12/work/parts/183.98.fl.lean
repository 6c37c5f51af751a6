theorem PK.zp {σ : RS} (h : PK σ) {i : Nat} (hi : i < nT (gI σ 18)) {s : SS} (hs : Ss (aI σ 19) (aI σ 20) i = some s) (hz : zh s.1) : nT (aI σ 19 i) ≤ 18 ∨ aI σ 19 i = 21 ∨ aI σ 19 i = 31 ∨ aI σ 19 i = 35 := by
  obtain ⟨f, k, j, hp⟩ := h
  exact hp.2.2.2.2.2.2.2.2.2.2.2 i hi s hs hz
theorem Nj_mono {o : Nat → Int32} {n : Nat} : ∀ m, n ≤ m → Nj o n ≤ Nj o m := by
  intro m hm
  induction m with
  | zero =>
    have : n = 0 := by omega
    subst this
    exact Nat.le_refl _
  | succ m ih =>
    by_cases hq : n = m + 1
    · subst hq; exact Nat.le_refl _
    · have h1 := ih (by omega)
      have h2 : Nj o (m + 1) = (if nT (o m) = 46 ∨ nT (o m) = 47 then 1 else 0) + Nj o m := rfl
      omega
theorem PK.nj {σ : RS} (h : PK σ) : Nj (aI σ 19) (nT (gI σ 18)) ≤ 501 := by
  obtain ⟨f, k, j, hp⟩ := h
  have h1 := hp.1.2.2.2.2
  have h2 := hp.1.1
  have e1 : (gI σ 49).toInt + (Nj (aI σ 19) (nT (gI σ 18)) : Int) + j ≤ (gI σ 14).toInt + 1 := h1.2.1
  have e2 : 0 ≤ (gI σ 49).toInt := h1.1
  have e3 : (gI σ 14).toInt ≤ 500 := h2.2
  have e4 := h1.2.2
  omega
def Cl (l : List (Nat × Nat)) : Prop := ∀ q ∈ l, q.1 ≠ 33 ∧ q.1 ≠ 34
/-- where the flow stands: on its way; at the body of a for; in the update of a for -/
def FM (σ X : RS) (c : Nat) (s : SS) (μ : Nat) : Prop :=
  (Cl s.1 ∧ nT (gI X 103) ≤ Nj (aI σ 19) c ∧ μ = (nT (gI σ 18) - c) * 5000) ∨
  (∃ r, s.1 = (34, nT (aI σ 20 c)) :: r ∧ Cl r ∧ nT (aI σ 19 c) = 35 ∧ aI X 95 (nT (aI σ 20 c)) = 0 ∧ nT (gI X 103) ≤ Nj (aI σ 19) c ∧ μ = (nT (gI σ 18) - c) * 5000) ∨
  (∃ k r e m m2, s.1 = (34, k) :: r ∧ Cl r ∧ ¬ aI X 95 k = 0 ∧ c < e ∧ e < nT (gI σ 18) ∧ nT (aI σ 19 e) = 36 ∧ (0 ≤ aI σ 55 k ∧ nT (aI σ 55 k) = e) ∧ Ss (aI σ 19) (aI σ 20) e = some ((35, k) :: r, m2) ∧ Ss (aI σ 19) (aI σ 20) (e + 1) = some (r, m) ∧ nT (gI X 103) ≤ Nj (aI σ 19) (e + 1) ∧ μ = (nT (gI σ 18) - e - 1) * 5000 + (4500 - c))
def FV (σ X : RS) (c μ : Nat) : Prop := Fw σ X ∧ (gI X 92 = 0 ∨ gI X 92 = 1) ∧ (0 ≤ gI X 103 ∧ 0 ≤ gI X 100) ∧ c ≤ nT (gI σ 18) ∧ ∃ E s, Es (aI σ 19) (aI σ 20) (aI σ 21) c = some E ∧ Ss (aI σ 19) (aI σ 20) c = some s ∧ nT (gI X 100) = no E ∧ FM σ X c s μ
theorem FM.jl {σ X : RS} {c μ : Nat} {s : SS} (h : PK σ) (hc : c ≤ nT (gI σ 18)) (hm : FM σ X c s μ) : nT (gI X 103) ≤ 501 := by
  have h1 := h.nj
  rcases hm with ⟨-, q, -⟩ | ⟨r, -, -, -, -, q, -⟩ | ⟨k, r, e, m, m2, -, -, -, -, q1, -, -, -, -, q, -⟩
  · have := Nj_mono (o := aI σ 19) _ hc; omega
  · have := Nj_mono (o := aI σ 19) _ hc; omega
  · have := Nj_mono (o := aI σ 19) (n := e + 1) (nT (gI σ 18)) (by omega); omega
/-- over a code of an exp -/
theorem FV.exp {σ X Y : RS} {c μ : Nat} (h : PK σ) (hv : FV σ X c μ) (hc : c < nT (gI σ 18)) (ho : 1 ≤ nT (aI σ 19 c) ∧ nT (aI σ 19 c) ≤ 18) (hF : Fw X Y) (h92 : gI Y 92 = gI X 92) (h103 : gI Y 103 = gI X 103) (h95 : aI Y 95 = aI X 95)
    (h100 : ((nT (aI σ 19 c) = 8 ∨ nT (aI σ 19 c) = 10 ∨ nT (aI σ 19 c) = 12) ∧ gI Y 100 = gI X 100 + 1) ∨ ((nT (aI σ 19 c) = 9 ∨ nT (aI σ 19 c) = 11 ∨ nT (aI σ 19 c) = 14) ∧ gI Y 100 = gI X 100 - 1) ∨ (¬ (nT (aI σ 19 c) = 8 ∨ nT (aI σ 19 c) = 10 ∨ nT (aI σ 19 c) = 12) ∧ ¬ (nT (aI σ 19 c) = 9 ∨ nT (aI σ 19 c) = 11 ∨ nT (aI σ 19 c) = 14) ∧ gI Y 100 = gI X 100)) : ∃ μ', μ' < μ ∧ FV σ Y (c + 1) μ' := by
  obtain ⟨v1, v2, ⟨v3, v4⟩, v5, E, s, e1, e2, e3, e4⟩ := hv
  obtain ⟨E0, E', s0, s', p⟩ := h.j.pc hc
  obtain rfl : E0 = E := Option.some.inj (p.he.symm.trans e1)
  obtain rfl : s0 = s := Option.some.inj (p.hs.symm.trans e2)
  have hs' : s0 = s' := Option.some.inj ((sSt_exp ho.2 _ _ _).symm.trans p.ss)
  subst hs'
  obtain ⟨n1, n2, n3, n4⟩ := eSt_no ho p.es
  have hle := no_le E0
  have hl := p.le
  have h4 := p.c4
  have ho100 : 0 ≤ gI Y 100 ∧ nT (gI Y 100) = no E' := by
    have hx : gI X 100 ≤ 251 := i32 (n := 251) v4 (by omega) 251 (by decide) (by decide)
    rcases h100 with ⟨q1, q2⟩ | ⟨q1, q2⟩ | ⟨q1, q2, q3⟩
    · rw [q2, nT_add v4 (by lia), n1 q1]
      exact ⟨by lia, by omega⟩
    · have hp : 0 < gI X 100 := by
        apply t_lt
        have a1 := t_nT v4
        have := n2 q1
        show (0 : Int) < _
        omega
      have hs := nT_sub hp
      have := n2 q1
      rw [q2]
      exact ⟨by lia, by omega⟩
    · rw [q3, n3 q1 q2]
      exact ⟨v4, e3⟩
  have hmj := Nj_mono (o := aI σ 19) (n := c) (c + 1) (by omega)
  rcases e4 with ⟨q1, q2, q3⟩ | ⟨r, -, -, q, -⟩ | ⟨k, r, e, m, m2, q1, q2, q3, q4, q5, qo, q6, q7, q8, q9, qa⟩
  · refine ⟨(nT (gI σ 18) - (c + 1)) * 5000, by rw [q3]; omega, v1.tr hF, by rw [h92]; exact v2, ⟨by rw [h103]; exact v3, ho100.1⟩, hc, E', s0, p.he', p.hs', ho100.2, Or.inl ⟨q1, by rw [h103]; omega, rfl⟩⟩
  · omega
  · have hne : c + 1 ≠ e := by
      intro z
      rw [← z, p.hs'] at q7
      have := congrArg Prod.fst (Option.some.inj q7)
      rw [q1] at this
      have this : 34 = 35 := congrArg Prod.fst (List.cons.inj this).1
      omega
    refine ⟨(nT (gI σ 18) - e - 1) * 5000 + (4500 - (c + 1)), by rw [qa]; omega, v1.tr hF, by rw [h92]; exact v2, ⟨by rw [h103]; exact v3, ho100.1⟩, hc, E', s0, p.he', p.hs', ho100.2, Or.inr (Or.inr ⟨k, r, e, m, m2, q1, q2, by rw [h95]; exact q3, by omega, q5, qo, q6, q7, q8, by rw [h103]; exact q9, rfl⟩)⟩
theorem kpu_33 {n : Nat} (h : kpu n = true) : n ≠ 33 ∧ n ≠ 34 := by
  unfold kpu at h
  simp only [Bool.or_eq_true, beq_iff_eq] at h
  omega
theorem nTi {x : Int32} {n : Nat} (h : nT x = n) (m : Int32) (hm : nT m = n) (hm0 : 0 ≤ m) (h0 : 0 ≤ x) : x = m := nT_eq h0 hm0 (by omega)
/-- over a code of a statement -/
theorem FV.stm {σ X Y : RS} {c r : Int32} {μ : Nat} (h : PK σ) (hv : FV σ X (nT c) μ) (h0 : 0 ≤ c) (hc : nT c < nT (gI σ 18)) (ho : 19 ≤ nT (aI σ 19 (nT c))) (hq : FQ X Y c r) : 0 ≤ r ∧ nT r ≤ nT (gI σ 18) ∧ ∃ μ', μ' < μ ∧ FV σ Y (nT r) μ' := by
  obtain ⟨v1, v2, ⟨v3, v4⟩, v5, E, s, e1, e2, e3, e4⟩ := hv
  obtain ⟨f1, f2, f3, f4, f5, f6⟩ := hq
  have hjl := FM.jl h v5 e4
  obtain ⟨E0, E', s0, s', p⟩ := h.j.pc hc
  obtain rfl : E0 = E := Option.some.inj (p.he.symm.trans e1)
  obtain rfl : s0 = s := Option.some.inj (p.hs.symm.trans e2)
  have h4 := p.c4
  have r19 := v1.2.2.1 19 rfl
  have r20 := v1.2.2.1 20 rfl
  have r53 := v1.2.2.1 53 rfl
  have r54 := v1.2.2.1 54 rfl
  have r55 := v1.2.2.1 55 rfl
  have f4 : ((aI X 19 (nT c) = 46 ∨ aI X 19 (nT c) = 47) ∧ gI Y 103 = gI X 103 + 1) ∨ (¬ (aI X 19 (nT c) = 46 ∨ aI X 19 (nT c) = 47) ∧ gI Y 103 = gI X 103) := f4
  have f5 : aI X 19 (nT c) = 21 → aI Y 95 = aI X 95 := f5
  have f6 : (aI X 19 (nT c) = 33 ∧ r = aI X 54 (nT (aI X 20 (nT c))) ∧ aI Y 95 (nT (aI X 20 (nT c))) = 0) ∨ (aI X 19 (nT c) = 35 ∧ ((aI X 95 (nT (aI X 20 (nT c))) = 0 ∧ r = c + 1) ∨ (¬ aI X 95 (nT (aI X 20 (nT c))) = 0 ∧ r = aI X 55 (nT (aI X 20 (nT c))) + 1))) ∨ (aI X 19 (nT c) = 36 ∧ r = aI X 53 (nT (aI X 20 (nT c))) + 1 ∧ ¬ aI Y 95 (nT (aI X 20 (nT c))) = 0) ∨ (¬ (aI X 19 (nT c) = 33 ∨ aI X 19 (nT c) = 35 ∨ aI X 19 (nT c) = 36) ∧ r = c + 1) := f6
  rw [r19] at f4 f5
  rw [r19, r20, r53, r54, r55] at f6
  have ho1 : 0 ≤ aI σ 19 (nT c) := by have := p.hce.1.1; lia
  have w : ∀ {m : Int32} {n : Nat}, aI σ 19 (nT c) = m → nT m = n → nT (aI σ 19 (nT c)) = n := fun q1 q2 => by rw [q1, q2]
  obtain ⟨hE', hE, -⟩ := eSt_s ho p.es
  have hx0 : nT (gI Y 100) = 0 ∧ 0 ≤ gI Y 100 := by
    rw [f2]
    refine ⟨?_, v4⟩
    rw [e3]
    rcases hE with ⟨q, -⟩ | ⟨q, -⟩ <;> rw [q] <;> rfl
  have nC : nT (c + 1) = nT c + 1 := nT_add h0 (t_lt (by have := t_nT h0; show _ < (2147483647 : Int); omega))
  have c1 : 0 ≤ c + 1 := t_le (by
    have a1 := t_nT h0
    have a2 : (c + 1).toInt = c.toInt + 1 := t_add1 (by omega)
    show (0 : Int) ≤ _
    omega)
  have fr : Fw σ Y := v1.tr f1
  have nj1 : Nj (aI σ 19) (nT c + 1) = (if nT (aI σ 19 (nT c)) = 46 ∨ nT (aI σ 19 (nT c)) = 47 then 1 else 0) + Nj (aI σ 19) (nT c) := rfl
  have hy103 : 0 ≤ gI Y 103 ∧ nT (gI Y 103) ≤ nT (gI X 103) + (if nT (aI σ 19 (nT c)) = 46 ∨ nT (aI σ 19 (nT c)) = 47 then 1 else 0) := by
    have hx : gI X 103 ≤ 501 := i32 (n := 501) v3 hjl 501 (by decide) (by decide)
    rcases f4 with ⟨q1, q2⟩ | ⟨q1, q2⟩
    · rw [q2, nT_add v3 (by lia), if_pos (q1.imp (fun q => w q (by decide)) (fun q => w q (by decide)))]
      exact ⟨by lia, Nat.le_refl _⟩
    · rw [q2]
      exact ⟨v3, by omega⟩
  have n103 : ¬ (nT (aI σ 19 (nT c)) = 46 ∨ nT (aI σ 19 (nT c)) = 47) → nT (gI Y 103) ≤ nT (gI X 103) := by
    intro q
    rw [if_neg q] at hy103
    omega
  -- on to the next code, where nothing of a for's head stands open behind it
  have next : Cl s'.1 → nT (gI X 103) ≤ Nj (aI σ 19) (nT c) → μ = (nT (gI σ 18) - nT c) * 5000 → r = c + 1 → 0 ≤ r ∧ nT r ≤ nT (gI σ 18) ∧ ∃ μ', μ' < μ ∧ FV σ Y (nT r) μ' := by
    intro hcl hj hμ hr
    rw [hr, nC]
    refine ⟨c1, hc, (nT (gI σ 18) - (nT c + 1)) * 5000, by rw [hμ]; omega, fr, f3, ⟨hy103.1, hx0.2⟩, hc, E', s', p.he', p.hs', by rw [hx0.1, hE']; rfl, Or.inl ⟨hcl, by omega, rfl⟩⟩
  rcases e4 with ⟨q1, q2, q3⟩ | ⟨r0, q1, q2, q3, q4, q5, q6⟩ | ⟨k, r0, e, m, m2, q1, q2, q3, q4, q5, qo, q6, q7, q8, q9, qa⟩
  · rcases f6 with ⟨z1, z2, z3⟩ | ⟨z1, -⟩ | ⟨z1, z2, z3⟩ | ⟨z1, z2⟩
    · -- the test of a for
      have on := w z1 (by decide : nT 33 = 33)
      obtain ⟨r1, t1, b, b1, b2, b3, b4, ⟨mb, b5⟩, b6, b7⟩ := h.f33 hc p on
      rw [z2]
      obtain ⟨Eb, Eb', sb, sb', pb⟩ := h.j.pc b2
      have hEb : Eb = [] := by
        rcases (eSt_s (by omega) pb.es).2.1 with ⟨-, u⟩ | ⟨u, -⟩
        · rw [b3] at u
          rcases u with u | u | u | u <;> omega
        · exact u
      have hmj := Nj_mono (o := aI σ 19) (n := nT c) b (by omega)
      have n46 : ¬ (nT (aI σ 19 (nT c)) = 46 ∨ nT (aI σ 19 (nT c)) = 47) := by omega
      have hj2 := n103 n46
      refine ⟨b6, by rw [b7]; omega, (nT (gI σ 18) - b) * 5000, by rw [q3]; omega, fr, f3, ⟨hy103.1, hx0.2⟩, by rw [b7]; omega, Eb, sb, by rw [b7]; exact pb.he, by rw [b7]; exact pb.hs, by rw [hx0.1, hEb]; rfl, Or.inr (Or.inl ⟨r1, ?_, ?_, by rw [b7]; exact b3, by rw [b7, b4]; exact z3, by rw [b7]; omega, by rw [b7]⟩)⟩
      · rw [b7, b4]
        have : sb = ((34, nT (aI σ 20 (nT c))) :: r1, mb) := Option.some.inj (pb.hs.symm.trans b5)
        rw [this]
      · intro q hq
        exact q1 q (by rw [t1]; exact List.mem_cons_of_mem _ hq)
    · -- no body of a for stands here
      exfalso
      have on := w z1 (by decide : nT 35 = 35)
      have hss := p.ss
      rw [on] at hss
      rcases sSt_act hss (Or.inl ⟨34, rfl⟩) with ⟨x, r1, t1, t2, t3⟩ | ⟨x, r1, t1, t2, t3⟩
      · unfold tfr at t1
        simp only [Bool.or_eq_true, Bool.and_eq_true, beq_iff_eq] at t1
        have hx : x = 34 := by omega
        exact (q1 (x, nT (aI σ 20 (nT c))) (by rw [t2]; exact List.mem_cons_self)).2 hx
      · unfold tcl at t1
        simp only [Bool.or_eq_true, Bool.and_eq_true, beq_iff_eq] at t1
        omega
    · -- the end of a for
      have on := w z1 (by decide : nT 36 = 36)
      obtain ⟨r1, t1, t2, t3, u, b, u1, u2, u3, u4, ⟨mu, u5⟩, u6, u7, u8⟩ := h.f36 hc p on
      obtain ⟨Eu, Eu', su, su', pu⟩ := h.j.pc (show u < nT (gI σ 18) by omega)
      have hEu : Eu' = [] := (eSt_s (by omega) pu.es).1
      have nU : nT (aI σ 53 (nT (aI σ 20 (nT c))) + 1) = u + 1 := by
        rw [nT_add u6 (t_lt (by have := t_nT u6; show _ < (2147483647 : Int); omega)), u7]
      have cU : 0 ≤ aI σ 53 (nT (aI σ 20 (nT c))) + 1 := t_le (by
        have a1 := t_nT u6
        have a2 : (aI σ 53 (nT (aI σ 20 (nT c))) + 1).toInt = (aI σ 53 (nT (aI σ 20 (nT c)))).toInt + 1 := t_add1 (by omega)
        show (0 : Int) ≤ _
        omega)
      have n46 : ¬ (nT (aI σ 19 (nT c)) = 46 ∨ nT (aI σ 19 (nT c)) = 47) := by omega
      have hj2 := n103 n46
      have hmj := Nj_mono (o := aI σ 19) (n := nT c) (nT c + 1) (by omega)
      have es : su' = ((34, nT (aI σ 20 (nT c))) :: r1, mu) := Option.some.inj (pu.hs'.symm.trans u5)
      rw [z2, nU]
      refine ⟨cU, by omega, (nT (gI σ 18) - nT c - 1) * 5000 + (4500 - (u + 1)), by rw [q3]; omega, fr, f3, ⟨hy103.1, hx0.2⟩, by omega, Eu', su', pu.he', pu.hs', by rw [hx0.1, hEu]; rfl, Or.inr (Or.inr ⟨nT (aI σ 20 (nT c)), r1, nT c, s'.2, s0.2, by rw [es], fun q hq => q1 q (by rw [t1]; exact List.mem_cons_of_mem _ hq), z3, by omega, hc, on, t3, ?_, ?_, by omega, rfl⟩)⟩
      · rw [p.hs]; congr 1; exact Prod.ext t1 rfl
      · rw [p.hs']; congr 1; exact Prod.ext t2 rfl
    · -- all others
      refine next (fun q hq => ?_) q2 q3 z2
      by_cases h20 : q.1 = 20
      · omega
      · rcases sSt_mem p.ss q hq h20 with y | ⟨y1, y2⟩ | ⟨x, y1, y2, y3⟩
        · exact q1 q y
        · rw [y2]; exact kpu_33 y1
        · rw [y3]
          have n33 : nT (aI σ 19 (nT c)) ≠ 33 := fun z => z1 (Or.inl (nTi z 33 (by decide) (by decide) ho1))
          refine ⟨n33, fun z => ?_⟩
          have z : nT (aI σ 19 (nT c)) = 34 := z
          rw [z] at y1
          unfold tfr at y1
          simp only [Bool.or_eq_true, Bool.and_eq_true, beq_iff_eq] at y1
          have hx : x = 33 := by omega
          exact (q1 _ y2).1 hx
  · -- at the body, the first time
    have z1 : aI σ 19 (nT c) = 35 := nTi q3 35 (by decide) (by decide) ho1
    have ex : r = c + 1 := by
      rcases f6 with ⟨y, -⟩ | ⟨-, y⟩ | ⟨y, -⟩ | ⟨y, -⟩
      · rw [z1] at y; exact absurd y (by decide)
      · rcases y with y | y
        · exact y.2
        · exact absurd q4 y.1
      · rw [z1] at y; exact absurd y (by decide)
      · exact absurd (Or.inr (Or.inl z1)) y
    refine next ?_ q5 q6 ex
    have hss := p.ss
    rw [q3] at hss
    rcases sSt_act hss (Or.inl ⟨34, rfl⟩) with ⟨x, r1, t1, t2, t3⟩ | ⟨x, r1, t1, t2, t3⟩
    · rw [t3]
      rw [q1] at t2
      have hr := (List.cons.inj t2).2
      intro q hq
      rcases List.mem_cons.mp hq with rfl | hq
      · exact ⟨by show 35 ≠ 33; decide, by show 35 ≠ 34; decide⟩
      · exact q2 q (by rw [hr]; exact hq)
    · unfold tcl at t1
      simp only [Bool.or_eq_true, Bool.and_eq_true, beq_iff_eq] at t1
      omega
  · -- in the update
    have hz : zh s0.1 := by rw [q1]; exact Or.inr rfl
    rcases h.zp hc p.hs hz with y | y | y | y
    · omega
    · -- a value is left
      have on := w y (by decide : nT 21 = 21)
      have ex : r = c + 1 := by
        rcases f6 with ⟨g, -⟩ | ⟨g, -⟩ | ⟨g, -⟩ | ⟨-, g⟩
        · rw [y] at g; exact absurd g (by decide)
        · rw [y] at g; exact absurd g (by decide)
        · rw [y] at g; exact absurd g (by decide)
        · exact g
      have hss := p.ss
      rw [on] at hss
      have es : s' = s0 := (Option.some.inj hss).symm
      have n46 : ¬ (nT (aI σ 19 (nT c)) = 46 ∨ nT (aI σ 19 (nT c)) = 47) := by omega
      have hj2 := n103 n46
      have hne : nT c + 1 ≠ e := by
        intro g
        rw [← g, p.hs', es] at q7
        have := congrArg Prod.fst (Option.some.inj q7)
        rw [q1] at this
        have this : 34 = 35 := congrArg Prod.fst (List.cons.inj this).1
        omega
      rw [ex, nC]
      refine ⟨c1, hc, (nT (gI σ 18) - e - 1) * 5000 + (4500 - (nT c + 1)), by rw [qa]; omega, fr, f3, ⟨hy103.1, hx0.2⟩, hc, E', s', p.he', p.hs', by rw [hx0.1, hE']; rfl, Or.inr (Or.inr ⟨k, r0, e, m, m2, by rw [es]; exact q1, q2, by rw [f5 y]; exact q3, by omega, q5, qo, q6, q7, q8, by omega, rfl⟩)⟩
    · exfalso
      have on := w y (by decide : nT 31 = 31)
      have hss := p.ss
      rw [on] at hss
      rcases sSt_act hss (Or.inr ⟨30, rfl⟩) with ⟨x, r1, t1, t2, t3⟩ | ⟨x, r1, t1, t2, t3⟩
      · unfold tfr at t1
        simp only [Bool.or_eq_true, Bool.and_eq_true, beq_iff_eq] at t1
        omega
      · rw [q1] at t2
        have := congrArg Prod.fst (List.cons.inj t2).1
        have hx : 34 = x := this
        unfold tcl at t1
        simp only [Bool.or_eq_true, Bool.and_eq_true, beq_iff_eq] at t1
        omega
    · -- at the body, the second time: on behind the end
      have on := w y (by decide : nT 35 = 35)
      have hss := p.ss
      rw [on] at hss
      have hk : nT (aI σ 20 (nT c)) = k := by
        rcases sSt_act hss (Or.inl ⟨34, rfl⟩) with ⟨x, r1, t1, t2, t3⟩ | ⟨x, r1, t1, t2, t3⟩
        · rw [q1] at t2
          exact (congrArg Prod.snd (List.cons.inj t2).1).symm
        · unfold tcl at t1
          simp only [Bool.or_eq_true, Bool.and_eq_true, beq_iff_eq] at t1
          omega
      have ex : r = aI σ 55 k + 1 := by
        rcases f6 with ⟨g, -⟩ | ⟨-, g⟩ | ⟨g, -⟩ | ⟨g, -⟩
        · rw [y] at g; exact absurd g (by decide)
        · rw [hk] at g
          rcases g with g | g
          · exact absurd g.1 q3
          · exact g.2
        · rw [y] at g; exact absurd g (by decide)
        · exact absurd (Or.inr (Or.inl y)) g
      obtain ⟨Ee, Ee', se, se', pe⟩ := h.j.pc q5
      have he4 := pe.c4
      have nE : nT (aI σ 55 k + 1) = e + 1 := by
        rw [nT_add q6.1 (t_lt (by have := t_nT q6.1; show _ < (2147483647 : Int); omega)), q6.2]
      have cE : 0 ≤ aI σ 55 k + 1 := t_le (by
        have a1 := t_nT q6.1
        have a2 : (aI σ 55 k + 1).toInt = (aI σ 55 k).toInt + 1 := t_add1 (by omega)
        show (0 : Int) ≤ _
        omega)
      have hEe : Ee' = [] := (eSt_s (by omega) pe.es).1
      have es : se' = (r0, m) := Option.some.inj (pe.hs'.symm.trans q8)
      have n46 : ¬ (nT (aI σ 19 (nT c)) = 46 ∨ nT (aI σ 19 (nT c)) = 47) := by omega
      have hj2 := n103 n46
      rw [ex, nE]
      refine ⟨cE, by omega, (nT (gI σ 18) - (e + 1)) * 5000, by rw [qa]; omega, fr, f3, ⟨hy103.1, hx0.2⟩, by omega, Ee', se', pe.he', pe.hs', by rw [hx0.1, hEe]; rfl, Or.inl ⟨by rw [es]; exact q2, by omega, rfl⟩⟩

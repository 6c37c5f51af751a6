def pop1 (o : Nat) (a b : Int32) : Prop := (o = 21 ∨ o = 23 ∨ o = 27 ∨ o = 31 ∨ o = 37 ∨ o = 38 ∨ o = 49) ∨ (o = 22 ∧ b = 1) ∨ (o = 33 ∧ ¬ b = 0) ∨ (o = 48 ∧ a = 1)
theorem eSt_s {o : Nat} {a b : Int32} {E E' : List Nat} (ho : 19 ≤ o) (h : eSt o a b E = some E') : E' = [] ∧ ((E = [0] ∧ pop1 o a b) ∨ (E = [] ∧ ¬ pop1 o a b)) ∧ (o = 22 → b = 0 ∨ b = 1 ∨ b = 2) ∧ (o = 48 → a = 0 ∨ a = 1) := by
  refine ⟨eSt_stm ho h, ?_⟩
  by_cases c1 : o = 21 ∨ o = 23 ∨ o = 27 ∨ o = 31 ∨ o = 37 ∨ o = 38 ∨ o = 49
  · have hE : E = [0] := by
      rcases c1 with rfl | rfl | rfl | rfl | rfl | rfl | rfl <;> (simp only [eSt] at h; split at h <;> first | assumption | (cases h; done))
    exact ⟨Or.inl ⟨hE, Or.inl c1⟩, fun q => by omega, fun q => by omega⟩
  · by_cases c2 : o = 22
    · subst c2
      simp only [eSt] at h
      split at h
      · rename_i hb
        split at h
        · rename_i hE
          exact ⟨Or.inl ⟨hE, Or.inr (Or.inl ⟨rfl, hb⟩)⟩, fun _ => Or.inr (Or.inl hb), fun q => by omega⟩
        · cases h
      · rename_i hb
        split at h
        · rename_i hb2
          split at h
          · rename_i hE
            refine ⟨Or.inr ⟨hE, fun q => ?_⟩, fun _ => hb2.elim Or.inl (fun q => Or.inr (Or.inr q)), fun q => by omega⟩
            rcases q with q | q | q | q
            · omega
            · exact hb q.2
            · omega
            · omega
          · cases h
        · cases h
    · by_cases c3 : o = 33
      · subst c3
        simp only [eSt] at h
        split at h
        · rename_i hb
          split at h
          · rename_i hE
            refine ⟨Or.inr ⟨hE, fun q => ?_⟩, fun q => by omega, fun q => by omega⟩
            rcases q with q | q | q | q
            · omega
            · omega
            · exact q.2 hb
            · omega
          · cases h
        · rename_i hb
          split at h
          · rename_i hE
            exact ⟨Or.inl ⟨hE, Or.inr (Or.inr (Or.inl ⟨rfl, hb⟩))⟩, fun q => by omega, fun q => by omega⟩
          · cases h
      · by_cases c4 : o = 48
        · subst c4
          simp only [eSt] at h
          split at h
          · rename_i hb
            split at h
            · rename_i hE
              exact ⟨Or.inl ⟨hE, Or.inr (Or.inr (Or.inr ⟨rfl, hb⟩))⟩, fun q => by omega, fun _ => Or.inr hb⟩
            · cases h
          · rename_i hb
            split at h
            · rename_i hb2
              split at h
              · rename_i hE
                refine ⟨Or.inr ⟨hE, fun q => ?_⟩, fun q => by omega, fun _ => Or.inl hb2⟩
                rcases q with q | q | q | q
                · omega
                · omega
                · omega
                · exact hb q.2
              · cases h
            · cases h
        · have hE : E = [] := by
            unfold eSt at h
            split at h <;> first | omega | (split at h <;> first | assumption | (cases h; done))
          refine ⟨Or.inr ⟨hE, fun q => ?_⟩, fun q => absurd q c2, fun q => absurd q c4⟩
          rcases q with q | q | q | q
          · exact c1 q
          · exact c2 q.1
          · exact c3 q.1
          · exact c4 q.1
theorem eT_stm {o : Nat} (ho : 19 ≤ o) (h1 : o ≠ 21) (a b t : Int32) (z : List Nat) : eT o a b t z = eSt o a b z := by
  unfold eT
  split <;> first | omega | rfl
theorem PJ.th {σ : RS} (h : PJ σ) : (0 ≤ gI σ 49 ∧ gI σ 49 ≤ 501) ∧ ∀ k, k < nT (gI σ 49) → 0 ≤ aI σ 51 k ∧ 0 ≤ aI σ 60 k ∧ aI σ 60 k ≤ 500 := by
  obtain ⟨f, s, k, j, hp⟩ := h
  refine ⟨hp.nums.2.2.2.2.1, fun k hk => ?_⟩
  have q := hp.2.2.2.2.1.2 k hk
  exact ⟨q.1.1, q.2.1.1, q.2.1.2⟩
theorem PJ.cy {σ : RS} (h : PJ σ) {i : Nat} (hi : i < nT (gI σ 18)) : cy (aI σ 6) (aI σ 19 i) (aI σ 20 i) (aI σ 22 i) := by
  obtain ⟨E, E', s, s', p⟩ := h.pc hi
  exact p.hce.2.2.2.2.2.2.2.2.2.1
theorem PC.sp {σ : RS} {c : Int32} {E E' : List Nat} {s s' : SS} (h : JV σ (nT c) E s) (p : PC σ (nT c) E E' s s') (hPJ : PJ σ) (ho : 19 ≤ aI σ 19 (nT c)) : SP σ c := by
  obtain ⟨hth, htk⟩ := hPJ.th
  have on : 19 ≤ nT (aI σ 19 (nT c)) := nT_le (x := 19) (by decide) ho
  obtain ⟨hE', hE, hb22, ha48⟩ := eSt_s on p.es
  have hce := p.hce
  have w : ∀ {m : Int32} {n : Nat}, aI σ 19 (nT c) = m → nT m = n → nT (aI σ 19 (nT c)) = n := fun q1 q2 => by rw [q1, q2]
  have one : pop1 (nT (aI σ 19 (nT c))) (aI σ 20 (nT c)) (aI σ 21 (nT c)) → 1 ≤ gI σ 69 := by
    intro q
    have hE0 : E = [0] := hE.elim (fun z => z.1) (fun z => absurd q z.2)
    have hl := h.l
    rw [hE0] at hl
    apply t_le
    have a1 := t_nT hl.1
    have a2 : nT (gI σ 69) = 1 := hl.2
    show (1 : Int) ≤ _
    omega
  refine ⟨⟨ho, hce.1.2⟩, fun q => one (Or.inl ?_), fun q => ⟨hce.2.2.2.2.2.1 q, hb22 (w q (by decide)), fun hb => one (Or.inr (Or.inl ⟨w q (by decide), hb⟩))⟩, fun q hb => one (Or.inr (Or.inr (Or.inl ⟨w q (by decide), hb⟩))), fun q => ⟨ha48 (w q (by decide)), fun ha => one (Or.inr (Or.inr (Or.inr ⟨w q (by decide), ha⟩)))⟩, fun q => ?_, fun q => ?_, ?_, ?_⟩
  · have q : aI σ 19 (nT c) = 21 ∨ aI σ 19 (nT c) = 23 ∨ aI σ 19 (nT c) = 27 ∨ aI σ 19 (nT c) = 31 ∨ aI σ 19 (nT c) = 37 ∨ aI σ 19 (nT c) = 38 ∨ aI σ 19 (nT c) = 49 := q
    rcases q with q | q | q | q | q | q | q <;> rw [q] <;> decide
  · have q : aI σ 19 (nT c) = 37 ∨ aI σ 19 (nT c) = 38 ∨ aI σ 19 (nT c) = 39 ∨ aI σ 19 (nT c) = 41 := q
    have hk : kop (nT (aI σ 19 (nT c))) = true := by rcases q with q | q | q | q <;> rw [q] <;> rfl
    have h9 : 0 ≤ aI σ 20 (nT c) ∧ aI σ 20 (nT c) < gI σ 49 := hce.2.2.2.2.1 hk
    show 0 ≤ aI σ 20 (nT c) ∧ aI σ 20 (nT c) < 600
    exact ⟨h9.1, by lia⟩
  · have q : aI σ 19 (nT c) = 38 := q
    have hk : kop (nT (aI σ 19 (nT c))) = true := by rw [q]; rfl
    have h9 : 0 ≤ aI σ 20 (nT c) ∧ aI σ 20 (nT c) < gI σ 49 := hce.2.2.2.2.1 hk
    refine ⟨(htk (nT (aI σ 20 (nT c))) (nT_lt h9.1 h9.2)).1, fun he => ?_⟩
    exact (h.e he).2.2.1 _ ((sSt_sw p.ss).2 (w q (by decide))) rfl
  · have hb := h.b
    have h1 := nlab_le s.1
    have h2 := p.n1
    refine ⟨⟨hb.1, i32 (n := 40) hb.1 (by omega) 40 (by decide) (by decide)⟩, fun i hi => ?_⟩
    have h9 := hb.2.2 i hi
    have h8 := htk (nT (aI σ 90 i)) (nT_lt h9.1 h9.2)
    exact ⟨⟨h9.1, by lia⟩, h8.2⟩
  · have h2 := p.m1
    have hm := h.m
    exact ⟨hm.1, i32 (n := 10) hm.1 (by omega) 10 (by decide) (by decide)⟩

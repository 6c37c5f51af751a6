theorem MV.fr {σ τ : RS} {m n : Int32} (h : MV σ m n) (e36 : gI τ 36 = gI σ 36) (e39 : aI τ 39 = aI σ 39) : MV τ m n := by
  unfold MV
  rw [e36, e39]
  exact h
theorem RO.fr {σ τ : RS} {m n : Int32} (h : RO σ m n) (e38 : aI τ 38 = aI σ 38) : RO τ m n := by
  unfold RO
  rw [e38]
  exact h
/-- a code that was passed stays as it is -/
theorem EC.fr {σ τ : RS} {i : Nat} (h : EC σ i) (hf : Fj σ τ) (h83 : aI τ 83 i = aI σ 83 i) (h81 : ∀ q, q ≤ i → aI τ 81 q = aI σ 81 q) (h82 : aI τ 82 i = aI σ 82 i) (h80 : aI σ 19 i = 17 → 0 ≤ aI τ 80 (nT (aI σ 22 i)) ∧ aI τ 80 (nT (aI σ 22 i)) < gI σ 42) : EC τ i := by
  obtain ⟨a1, a2, a3, a4, a5⟩ := h
  have r19 := hf.2.2.1 19 rfl
  have r20 := hf.2.2.1 20 rfl
  have r21 := hf.2.2.1 21 rfl
  have r22 := hf.2.2.1 22 rfl
  have i42 := hf.1 42 rfl
  have hEt : Et (aI σ 19) (aI σ 20) (aI σ 21) (aI τ 81) i = Et (aI σ 19) (aI σ 20) (aI σ 21) (aI σ 81) i := Et_congr (fun q hq => ⟨rfl, rfl, rfl, h81 q (by omega)⟩)
  unfold EC
  rw [r19, r20, r21, r22, i42, h83, h82, h81 i (Nat.le_refl _), hEt]
  exact ⟨a1, h80, fun q => ⟨(a3 q).1.fr (hf.1 36 rfl) (hf.2.2.1 39 rfl), (a3 q).2.fr (hf.2.2.1 38 rfl)⟩, a4, a5⟩
theorem JV.lv {σ τ : RS} {c n : Int32} {F : Int32 → Prop} {E E' : List Nat} {s s' : SS} (h : JV σ (nT c) E s) (p : PC σ (nT c) E E' s s') (hLI : LI σ) (ho : nT (aI σ 19 (nT c)) ≤ 18) (hx : LV σ τ c n F) (hn : 0 ≤ n ∧ n ≤ gI σ 69) (hw : wl E' + nT n = wl E + 1)
    (hT : gI τ 66 = 0 → F (aI τ 70 (nT (gI σ 69 - n))) → ∀ z, er z = E → TV (aI σ 70) z (nT (gI σ 69)) → ∃ z', eT (nT (aI σ 19 (nT c))) (aI σ 20 (nT c)) (aI σ 21 (nT c)) (aI τ 81 (nT c)) z = some z' ∧ er z' = E' ∧ TV (aI τ 70) z' (nT (gI τ 69)))
    (hC : gI τ 66 = 0 → F (aI τ 70 (nT (gI σ 69 - n))) → aI τ 81 (nT c) = aI τ 70 (nT (gI σ 69 - n)) → EC τ (nT c))
    (h80 : gI τ 66 = 0 → F (aI τ 70 (nT (gI σ 69 - n))) → ∀ i, i < nT c → aI σ 19 i = 17 → 0 ≤ aI σ 80 (nT (aI σ 22 i)) ∧ aI σ 80 (nT (aI σ 22 i)) < gI σ 42 → 0 ≤ aI τ 80 (nT (aI σ 22 i)) ∧ aI τ 80 (nT (aI σ 22 i)) < gI σ 42) : JV τ (nT c + 1) E' s' := by
  obtain ⟨x1, ⟨x2, x3⟩, x4, ⟨x5, x6⟩, x7, x8, x9⟩ := hx
  have hs' : s = s' := Option.some.inj ((sSt_exp ho _ _ _).symm.trans p.ss)
  subst hs'
  have hl1 := hLI.1
  have hl2 := hLI.2.1
  obtain ⟨e1, e2⟩ := nT_subn hn.1 hn.2
  have hl : nT (gI τ 69) = nT (gI σ 69 - n) + 1 := by
    rw [x2]
    exact nT_add (by lia) (by lia)
  have h74 : nT (gI τ 74) = nT (gI σ 74) + 1 := by
    rw [x3]
    exact nT_add hl2.1 (by lia)
  have r19 := x1.2.2.1 19 rfl
  have r20 := x1.2.2.1 20 rfl
  have r21 := x1.2.2.1 21 rfl
  have r23 := x1.2.2.1 23 rfl
  have r59 := x1.2.2.1 59 rfl
  have r88 := x1.2.2.1 88 rfl
  have r90 := x1.2.2.1 90 rfl
  have i49 := x1.1 49 rfl
  have i89 := x1.1 89 rfl
  have i91 := x1.1 91 rfl
  have hwl := h.l.2
  refine ⟨⟨?_, ?_⟩, ⟨?_, ?_⟩, fun i hi => ?_, ?_, ?_, fun k hk => ?_, fun he => ?_⟩
  · rw [x2]; lia
  · omega
  · rw [x3]; lia
  · have : Ne (aI τ 19) (nT c + 1) = 1 + Ne (aI σ 19) (nT c) := by
      rw [r19]
      show (if nT (aI σ 19 (nT c)) ≤ 18 then 1 else 0) + _ = _
      rw [if_pos ho]
    have := h.x.2
    omega
  · by_cases q : i < nT (gI σ 69 - n)
    · obtain ⟨q1, q2, q3⟩ := x4 i q
      rw [q2, q3]
      exact h.i i (by omega)
    · have q2 : i = nT (gI σ 69 - n) := by omega
      rw [q2, x5]
      exact ⟨p.hce.2.2.1, x6⟩
  · rw [i89]; exact h.m
  · rw [i91, r90, i49]; exact h.b
  · rw [r59, r19, r20]
    rw [i49] at hk
    rcases h.d k hk with z | ⟨z1, z2, z3⟩
    · exact Or.inl z
    · exact Or.inr ⟨z1, by omega, z3⟩
  · obtain ⟨y1, y2, y3, y4⟩ := x9 he
    obtain ⟨j1, ⟨z, j2, j3, j4⟩, j5, j6⟩ := h.e y1
    obtain ⟨z', g1, g2, g3⟩ := hT he y4 z j3 j4
    refine ⟨fun i hi => ?_, ⟨z', ?_, g2, g3⟩, ?_, fun i hi => ?_⟩
    · by_cases q : i < nT (gI σ 69 - n)
      · rw [(x4 i q).1]
        exact j1 i (by omega)
      · have q2 : i = nT (gI σ 69 - n) := by omega
        rw [q2]
        exact y2
    · show (match Et (aI τ 19) (aI τ 20) (aI τ 21) (aI τ 81) (nT c) with | some z => eT (nT (aI τ 19 (nT c))) (aI τ 20 (nT c)) (aI τ 21 (nT c)) (aI τ 81 (nT c)) z | none => none) = some z'
      rw [r19, r20, r21, Et_congr (o := aI σ 19) (a := aI σ 20) (b := aI σ 21) (t := aI σ 81) (fun q hq => ⟨rfl, rfl, rfl, (x7 q (by show q ≠ nT c; omega)).1⟩), j2]
      exact g1
    · rw [r88]; exact j5
    · by_cases q : i = nT c
      · subst q
        exact hC he y4 y3
      · have hic : i < nT c := by omega
        have w := x7 i (by show i ≠ nT c; exact q)
        exact (j6 i hic).fr x1.j w.2.2 (fun u hu => (x7 u (by show u ≠ nT c; omega)).1) w.2.1 (fun o17 => h80 he y4 i hic o17 ((j6 i hic).2.1 o17))
/-- an exp's code that the judge passes over -/
theorem JV.idl {σ : RS} {c : Int32} {E E' : List Nat} {s s' : SS} (h : JV σ (nT c) E s) (p : PC σ (nT c) E E' s s') (ho : nT (aI σ 19 (nT c)) = 8 ∨ nT (aI σ 19 (nT c)) = 10 ∨ nT (aI σ 19 (nT c)) = 12 ∨ nT (aI σ 19 (nT c)) = 13 ∨ nT (aI σ 19 (nT c)) = 16) : JV σ (nT c + 1) E' s' := by
  have ho18 : nT (aI σ 19 (nT c)) ≤ 18 := by omega
  have hs' : s = s' := Option.some.inj ((sSt_exp ho18 _ _ _).symm.trans p.ss)
  subst hs'
  refine ⟨⟨h.l.1, by rw [eSt_wl0 p.es ho]; exact h.l.2⟩, ⟨h.x.1, Nat.le_trans h.x.2 (Ne_mono _ (Nat.le_succ _))⟩, h.i, h.m, h.b, fun k hk => ?_, fun he => ?_⟩
  · rcases h.d k hk with z | ⟨z1, z2, z3⟩
    · exact Or.inl z
    · exact Or.inr ⟨z1, by omega, z3⟩
  · obtain ⟨j1, ⟨z, j2, j3, j4⟩, j5, j6⟩ := h.e he
    obtain ⟨z', g1, g2, g3⟩ := TV.exp (g := aI σ 70) (t := aI σ 81 (nT c)) (n' := nT (gI σ 69)) j4 j3 p.es (Or.inr (Or.inr (Or.inr (Or.inr (Or.inr (Or.inr (Or.inr ⟨ho, rfl, fun _ _ => rfl⟩)))))))
    refine ⟨j1, ⟨z', ?_, g2, g3⟩, j5, fun i hi => ?_⟩
    · show (match Et (aI σ 19) (aI σ 20) (aI σ 21) (aI σ 81) (nT c) with | some z => eT (nT (aI σ 19 (nT c))) (aI σ 20 (nT c)) (aI σ 21 (nT c)) (aI σ 81 (nT c)) z | none => none) = some z'
      rw [j2]
      exact g1
    · by_cases q : i = nT c
      · subst q
        have hno : ∀ m : Int32, nT m ∉ [8, 10, 12, 13, 16] → ¬ aI σ 19 (nT c) = m := by
          intro m hm q
          rw [q] at ho
          apply hm
          rcases ho with z | z | z | z | z <;> rw [z] <;> decide
        exact ⟨fun q => (q.elim (hno 2 (by decide)) (fun q => q.elim (hno 3 (by decide)) (fun q => q.elim (hno 4 (by decide)) (hno 17 (by decide))))).elim, fun q => (hno 17 (by decide) q).elim, fun q => (hno 18 (by decide) q).elim, fun q => (q.elim (hno 46 (by decide)) (hno 47 (by decide))).elim, fun q => (hno 21 (by decide) q).elim⟩
      · exact j6 i (by omega)

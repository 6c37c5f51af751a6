theorem nTo {x : Int32} {n : Nat} (m : Int32) (h : x = m) (hm : nT m = n) : nT x = n := by rw [h, hm]
/-- over a code of an exp -/
theorem JV.exp {σ τ : RS} {c : Int32} {E E' : List Nat} {s s' : SS} (h : JV σ (nT c) E s) (p : PC σ (nT c) E E' s s') (hLI : LI σ) (hJP : JP σ c) (hce : ∀ i, i < nT c → cy (aI σ 6) (aI σ 19 i) (aI σ 20 i) (aI σ 22 i)) (hq : JQ σ τ c) : JV τ (nT c + 1) E' s' := by
  have hl1 := hLI.1
  have hcy := p.hce.2.2.2.2.2.2.2.2.2.1
  have hno : ∀ x y : Int32, aI σ 19 (nT c) = x → ¬ x = y → ¬ aI σ 19 (nT c) = y := fun x y q1 q2 q3 => q2 (q1.symm.trans q3)
  have sub1 : ∀ {n : Int32}, 0 ≤ n → n ≤ gI σ 69 → nT (gI σ 69 - n) = nT (gI σ 69) - nT n ∧ nT n ≤ nT (gI σ 69) := fun a b => nT_subn a b
  rcases hq with ⟨ho, hx⟩ | ⟨ho, hx⟩ | ⟨ho, hx⟩ | ⟨ho, hx⟩ | ⟨ho, hx⟩ | ⟨ho, hx⟩ | ⟨ho, hx⟩ | ⟨ho, hx⟩ | ⟨ho, hx⟩
  · -- LIT
    have ho : aI σ 19 (nT c) = 1 := ho
    have e0 : gI σ 69 - 0 = gI σ 69 := by lia
    have on : nT (aI σ 19 (nT c)) = 1 := nTo 1 ho (by decide)
    refine h.lv p hLI (by omega) hx ⟨by decide, hl1.1⟩ (eSt_wl p.es (nT 0) (Or.inl ⟨Or.inl on, by decide⟩)) (fun he f z hz hv => ?_) (fun he f f2 => ?_) (fun he f i hi o17 r => ?_)
    · have hl : nT (gI τ 69) = nT (gI σ 69) + 1 := by rw [hx.2.1.1, e0]; exact nT_add hl1.1 (by lia)
      refine TV.exp hv hz p.es (Or.inl ⟨Or.inl on, hl, fun i hi => (hx.2.2.1 i (by rw [e0]; exact hi)).1, ?_⟩)
      rw [← e0]; exact f.1
    · have r19 := hx.1.2.2.1 19 rfl
      have w := hno 1
      unfold EC
      rw [r19]
      exact ⟨fun q => (q.elim (w 2 ho (by decide)) (fun q => q.elim (w 3 ho (by decide)) (fun q => q.elim (w 4 ho (by decide)) (w 17 ho (by decide))))).elim, fun q => (w 17 ho (by decide) q).elim, fun q => (w 18 ho (by decide) q).elim, fun q => (q.elim (w 46 ho (by decide)) (w 47 ho (by decide))).elim, fun q => (w 21 ho (by decide) q).elim⟩
    · rw [f.2]; exact r
  · -- LOADV POST PRE
    have ho : aI σ 19 (nT c) = 2 ∨ aI σ 19 (nT c) = 3 ∨ aI σ 19 (nT c) = 4 := ho
    have e0 : gI σ 69 - 0 = gI σ 69 := by lia
    have on : nT (aI σ 19 (nT c)) = 2 ∨ nT (aI σ 19 (nT c)) = 3 ∨ nT (aI σ 19 (nT c)) = 4 := ho.imp (fun q => nTo 2 q (by decide)) (fun q => q.imp (fun q => nTo 3 q (by decide)) (fun q => nTo 4 q (by decide)))
    refine h.lv p hLI (by omega) hx ⟨by decide, hl1.1⟩ (eSt_wl p.es (nT 0) (Or.inl ⟨Or.inr on, by decide⟩)) (fun he f z hz hv => ?_) (fun he f f2 => ?_) (fun he f i hi o17 r => ?_)
    · have hl : nT (gI τ 69) = nT (gI σ 69) + 1 := by rw [hx.2.1.1, e0]; exact nT_add hl1.1 (by lia)
      refine TV.exp hv hz p.es (Or.inl ⟨Or.inr on, hl, fun i hi => (hx.2.2.1 i (by rw [e0]; exact hi)).1, ?_⟩)
      rw [← e0]; exact f.1
    · have r19 := hx.1.2.2.1 19 rfl
      have r22 := hx.1.2.2.1 22 rfl
      have i42 := hx.1.1 42 rfl
      have w : ∀ y : Int32, ¬ y = 2 → ¬ y = 3 → ¬ y = 4 → ¬ aI σ 19 (nT c) = y := fun y q1 q2 q3 q4 => by
        rcases ho with q | q | q
        · exact q1 (q4.symm.trans q)
        · exact q2 (q4.symm.trans q)
        · exact q3 (q4.symm.trans q)
      unfold EC
      rw [r19, r22, i42]
      exact ⟨fun _ => f.2.1, fun q => (w 17 (by decide) (by decide) (by decide) q).elim, fun q => (w 18 (by decide) (by decide) (by decide) q).elim, fun q => (q.elim (w 46 (by decide) (by decide) (by decide)) (w 47 (by decide) (by decide) (by decide))).elim, fun q => (w 21 (by decide) (by decide) (by decide) q).elim⟩
    · by_cases q : nT (aI σ 22 i) = nT (aI σ 22 (nT c))
      · rw [q]; exact f.2.2
      · rw [hx.2.2.2.2.2.1 (nT (aI σ 22 i)) q]; exact r
  · -- UN CAST
    have ho : aI σ 19 (nT c) = 5 ∨ aI σ 19 (nT c) = 6 := ho
    have hn1 : 1 ≤ gI σ 69 := hJP.2.2.1 (ho.elim Or.inl (fun q => Or.inr (Or.inl q)))
    obtain ⟨s1, s2⟩ := sub1 (n := 1) (by decide) hn1
    have n1 : nT (1 : Int32) = 1 := by decide
    rw [n1] at s1 s2
    have on : nT (aI σ 19 (nT c)) = 5 ∨ nT (aI σ 19 (nT c)) = 6 := ho.imp (fun q => nTo 5 q (by decide)) (fun q => nTo 6 q (by decide))
    refine h.lv p hLI (by omega) hx ⟨by decide, hn1⟩ (eSt_wl p.es (nT 1) (Or.inr (Or.inl ⟨by omega, by decide⟩))) (fun he f z hz hv => ?_) (fun he f f2 => ?_) (fun he f i hi o17 r => ?_)
    · have hl : nT (gI τ 69) = nT (gI σ 69) := by rw [hx.2.1.1, nT_add (by lia) (by lia), s1]; omega
      refine TV.exp hv hz p.es (Or.inr (Or.inl ⟨on, hl, fun i hi => (hx.2.2.1 i (by omega)).1, fun i h1 h2 => f.1 i (by omega) h2, ?_⟩))
      rw [← s1]; exact f.2.1
    · have r19 := hx.1.2.2.1 19 rfl
      have w : ∀ y : Int32, ¬ y = 5 → ¬ y = 6 → ¬ aI σ 19 (nT c) = y := fun y q1 q2 q4 => by
        rcases ho with q | q
        · exact q1 (q4.symm.trans q)
        · exact q2 (q4.symm.trans q)
      unfold EC
      rw [r19]
      exact ⟨fun q => (q.elim (w 2 (by decide) (by decide)) (fun q => q.elim (w 3 (by decide) (by decide)) (fun q => q.elim (w 4 (by decide) (by decide)) (w 17 (by decide) (by decide))))).elim, fun q => (w 17 (by decide) (by decide) q).elim, fun q => (w 18 (by decide) (by decide) q).elim, fun q => (q.elim (w 46 (by decide) (by decide)) (w 47 (by decide) (by decide))).elim, fun q => (w 21 (by decide) (by decide) q).elim⟩
    · rw [f.2.2]; exact r
  · -- BIN ANDE ORE
    have ho : aI σ 19 (nT c) = 7 ∨ aI σ 19 (nT c) = 9 ∨ aI σ 19 (nT c) = 11 := ho
    have hn2 : 2 ≤ gI σ 69 := hJP.2.2.2.1 ho
    obtain ⟨s1, s2⟩ := sub1 (n := 2) (by decide) hn2
    have n1 : nT (2 : Int32) = 2 := by decide
    rw [n1] at s1 s2
    have on : nT (aI σ 19 (nT c)) = 7 ∨ nT (aI σ 19 (nT c)) = 9 ∨ nT (aI σ 19 (nT c)) = 11 := ho.imp (fun q => nTo 7 q (by decide)) (fun q => q.imp (fun q => nTo 9 q (by decide)) (fun q => nTo 11 q (by decide)))
    refine h.lv p hLI (by omega) hx ⟨by decide, hn2⟩ (eSt_wl p.es (nT 2) (Or.inr (Or.inr (Or.inl ⟨on, by decide⟩)))) (fun he f z hz hv => ?_) (fun he f f2 => ?_) (fun he f i hi o17 r => ?_)
    · have hl : nT (gI τ 69) = nT (gI σ 69) - 1 := by rw [hx.2.1.1, nT_add (by lia) (by lia), s1]; omega
      refine TV.exp hv hz p.es (Or.inr (Or.inr (Or.inl ⟨on, hl, fun i hi => (hx.2.2.1 i (by omega)).1, fun i h1 h2 => f.1 i (by omega) h2, ?_⟩)))
      rw [← s1]; exact f.2.1
    · have r19 := hx.1.2.2.1 19 rfl
      have w : ∀ y : Int32, ¬ y = 7 → ¬ y = 9 → ¬ y = 11 → ¬ aI σ 19 (nT c) = y := fun y q1 q2 q3 q4 => by
        rcases ho with q | q | q
        · exact q1 (q4.symm.trans q)
        · exact q2 (q4.symm.trans q)
        · exact q3 (q4.symm.trans q)
      unfold EC
      rw [r19]
      exact ⟨fun q => (q.elim (w 2 (by decide) (by decide) (by decide)) (fun q => q.elim (w 3 (by decide) (by decide) (by decide)) (fun q => q.elim (w 4 (by decide) (by decide) (by decide)) (w 17 (by decide) (by decide) (by decide))))).elim, fun q => (w 17 (by decide) (by decide) (by decide) q).elim, fun q => (w 18 (by decide) (by decide) (by decide) q).elim, fun q => (q.elim (w 46 (by decide) (by decide) (by decide)) (w 47 (by decide) (by decide) (by decide))).elim, fun q => (w 21 (by decide) (by decide) (by decide) q).elim⟩
    · rw [f.2.2]; exact r
  · -- QX
    have ho : aI σ 19 (nT c) = 14 := ho
    have hn3 : 3 ≤ gI σ 69 := hJP.2.2.2.2.1 ho
    obtain ⟨s1, s2⟩ := sub1 (n := 3) (by decide) hn3
    have n1 : nT (3 : Int32) = 3 := by decide
    rw [n1] at s1 s2
    have on : nT (aI σ 19 (nT c)) = 14 := nTo 14 ho (by decide)
    refine h.lv p hLI (by omega) hx ⟨by decide, hn3⟩ (eSt_wl p.es (nT 3) (Or.inr (Or.inr (Or.inr (Or.inl ⟨on, by decide⟩))))) (fun he f z hz hv => ?_) (fun he f f2 => ?_) (fun he f i hi o17 r => ?_)
    · have hl : nT (gI τ 69) = nT (gI σ 69) - 2 := by rw [hx.2.1.1, nT_add (by lia) (by lia), s1]; omega
      refine TV.exp hv hz p.es (Or.inr (Or.inr (Or.inr (Or.inl ⟨on, hl, fun i hi => (hx.2.2.1 i (by omega)).1, fun i h1 h2 => f.1 i (by omega) h2, ?_⟩))))
      rw [← s1]; exact f.2.1
    · have r19 := hx.1.2.2.1 19 rfl
      have w := hno 14
      unfold EC
      rw [r19]
      exact ⟨fun q => (q.elim (w 2 ho (by decide)) (fun q => q.elim (w 3 ho (by decide)) (fun q => q.elim (w 4 ho (by decide)) (w 17 ho (by decide))))).elim, fun q => (w 17 ho (by decide) q).elim, fun q => (w 18 ho (by decide) q).elim, fun q => (q.elim (w 46 ho (by decide)) (w 47 ho (by decide))).elim, fun q => (w 21 ho (by decide) q).elim⟩
    · rw [f.2.2]; exact r
  · -- GROUP
    have ho : aI σ 19 (nT c) = 15 := ho
    have hn1 : 1 ≤ gI σ 69 := hJP.2.2.1 (Or.inr (Or.inr (Or.inl ho)))
    obtain ⟨s1, s2⟩ := sub1 (n := 1) (by decide) hn1
    have n1 : nT (1 : Int32) = 1 := by decide
    rw [n1] at s1 s2
    have on : nT (aI σ 19 (nT c)) = 15 := nTo 15 ho (by decide)
    refine h.lv p hLI (by omega) hx ⟨by decide, hn1⟩ (eSt_wl p.es (nT 1) (Or.inr (Or.inl ⟨by omega, by decide⟩))) (fun he f z hz hv => ?_) (fun he f f2 => ?_) (fun he f i hi o17 r => ?_)
    · have hl : nT (gI τ 69) = nT (gI σ 69) := by rw [hx.2.1.1, nT_add (by lia) (by lia), s1]; omega
      refine TV.exp hv hz p.es (Or.inr (Or.inr (Or.inr (Or.inr (Or.inl ⟨on, hl, fun i hi => ?_⟩)))))
      by_cases q : i < nT (gI σ 69 - 1)
      · exact (hx.2.2.1 i q).1
      · have q2 : i = nT (gI σ 69 - 1) := by omega
        rw [q2]; exact f.1
    · have r19 := hx.1.2.2.1 19 rfl
      have w := hno 15
      unfold EC
      rw [r19]
      exact ⟨fun q => (q.elim (w 2 ho (by decide)) (fun q => q.elim (w 3 ho (by decide)) (fun q => q.elim (w 4 ho (by decide)) (w 17 ho (by decide))))).elim, fun q => (w 17 ho (by decide) q).elim, fun q => (w 18 ho (by decide) q).elim, fun q => (q.elim (w 46 ho (by decide)) (w 47 ho (by decide))).elim, fun q => (w 21 ho (by decide) q).elim⟩
    · rw [f.2]; exact r
  · -- ASG
    have ho : aI σ 19 (nT c) = 17 := ho
    have hn1 : 1 ≤ gI σ 69 := hJP.2.2.1 (Or.inr (Or.inr (Or.inr ho)))
    obtain ⟨s1, s2⟩ := sub1 (n := 1) (by decide) hn1
    have n1 : nT (1 : Int32) = 1 := by decide
    rw [n1] at s1 s2
    have on : nT (aI σ 19 (nT c)) = 17 := nTo 17 ho (by decide)
    refine h.lv p hLI (by omega) hx ⟨by decide, hn1⟩ (eSt_wl p.es (nT 1) (Or.inr (Or.inl ⟨by omega, by decide⟩))) (fun he f z hz hv => ?_) (fun he f f2 => ?_) (fun he f i hi o17 r => ?_)
    · have hl : nT (gI τ 69) = nT (gI σ 69) := by rw [hx.2.1.1, nT_add (by lia) (by lia), s1]; omega
      refine TV.exp hv hz p.es (Or.inr (Or.inr (Or.inr (Or.inr (Or.inr (Or.inl ⟨on, hl, fun i hi => (hx.2.2.1 i (by omega)).1, fun i h1 h2 => f.1 i (by omega) h2, ?_⟩))))))
      rw [← s1]; exact f.2.1
    · have r19 := hx.1.2.2.1 19 rfl
      have r22 := hx.1.2.2.1 22 rfl
      have i42 := hx.1.1 42 rfl
      have w := hno 17
      unfold EC
      rw [r19, r22, i42]
      exact ⟨fun _ => f.2.2.1, fun _ => f.2.2.2, fun q => (w 18 ho (by decide) q).elim, fun q => (q.elim (w 46 ho (by decide)) (w 47 ho (by decide))).elim, fun q => (w 21 ho (by decide) q).elim⟩
    · by_cases q : nT (aI σ 22 i) = nT (aI σ 22 (nT c))
      · rw [q]; exact f.2.2.2
      · rw [hx.2.2.2.2.2.1 (nT (aI σ 22 i)) q]; exact r
  · -- CALL
    have ho : aI σ 19 (nT c) = 18 := ho
    have hna : 0 ≤ aI σ 20 (nT c) ∧ aI σ 20 (nT c) ≤ gI σ 69 := hJP.2.2.2.2.2 ho
    obtain ⟨s1, s2⟩ := sub1 hna.1 hna.2
    have on : nT (aI σ 19 (nT c)) = 18 := nTo 18 ho (by decide)
    refine h.lv p hLI (by omega) hx hna (eSt_wl p.es _ (Or.inr (Or.inr (Or.inr (Or.inr (Or.inl ⟨on, rfl⟩)))))) (fun he f z hz hv => ?_) (fun he f f2 => ?_) (fun he f i hi o17 r => ?_)
    · have hl : nT (gI τ 69) = nT (gI σ 69) - nT (aI σ 20 (nT c)) + 1 := by
        rw [hx.2.1.1]
        have e := nT_add (x := gI σ 69 - aI σ 20 (nT c)) (by lia) (by lia)
        rw [s1] at e
        exact e
      have f2 := (hx.2.2.2.2.2.2 he).2.2.1
      refine TV.exp hv hz p.es (Or.inr (Or.inr (Or.inr (Or.inr (Or.inr (Or.inr (Or.inl ⟨on, hl, fun i hi => (hx.2.2.1 i (by rw [show nT (gI σ 69 - aI σ 20 c.toNatClampNeg) = nT (gI σ 69) - nT (aI σ 20 (nT c)) from s1]; exact hi)).1, fun i h1 h2 => f.1 i (by rw [show nT (gI σ 69 - aI σ 20 c.toNatClampNeg) = nT (gI σ 69) - nT (aI σ 20 (nT c)) from s1]; exact h1) h2, ?_⟩)))))))
      rw [← s1]
      exact f2.symm
    · have r19 := hx.1.2.2.1 19 rfl
      have r20 := hx.1.2.2.1 20 rfl
      have w := hno 18
      have f3 := f.2.2
      rw [← f2] at f3
      unfold EC
      rw [r19, r20]
      exact ⟨fun q => (q.elim (w 2 ho (by decide)) (fun q => q.elim (w 3 ho (by decide)) (fun q => q.elim (w 4 ho (by decide)) (w 17 ho (by decide))))).elim, fun q => (w 17 ho (by decide) q).elim, fun _ => ⟨f.2.1.fr (hx.1.1 36 rfl) (hx.1.2.2.1 39 rfl), f3.fr (hx.1.2.2.1 38 rfl)⟩, fun q => (q.elim (w 46 ho (by decide)) (w 47 ho (by decide))).elim, fun q => (w 21 ho (by decide) q).elim⟩
    · have q : nT (aI σ 22 i) ≠ nT (aI σ 22 (nT c)) := by
        intro q
        have c1 := (hce i hi).1 (Or.inr o17)
        have c2 := (hcy.2.1 ho).1
        rw [q, c2] at c1
        exact absurd c1 (by decide)
      rw [hx.2.2.2.2.2.1 (nT (aI σ 22 i)) q]; exact r
  · have ho : aI σ 19 (nT c) = 8 ∨ aI σ 19 (nT c) = 10 ∨ aI σ 19 (nT c) = 12 ∨ aI σ 19 (nT c) = 13 ∨ aI σ 19 (nT c) = 16 := ho
    rw [hx]
    exact h.idl p (ho.imp (fun q => nTo 8 q (by decide)) (fun q => q.imp (fun q => nTo 10 q (by decide)) (fun q => q.imp (fun q => nTo 12 q (by decide)) (fun q => q.imp (fun q => nTo 13 q (by decide)) (fun q => nTo 16 q (by decide))))))

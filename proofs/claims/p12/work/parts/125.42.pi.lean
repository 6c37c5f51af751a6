theorem aI_ne {σ : RS} {k r : Nat} {f : Nat → Int32} (h : r ≠ k) : aI (sA σ k f) r = aI σ r := by
  rw [aI_sA, nb_ne h]
theorem aI_eq {σ : RS} {k : Nat} {f : Nat → Int32} : aI (sA σ k f) k = f := by
  rw [aI_sA, nb_eq]
/-- what a code of a statement needs beside: j falls by one at a jump -/
def OX (σ : RS) (s : SS) (o a t : Int32) (j j' : Int) : Prop := ((o = 41 → aI σ 6 (nT t + 1) = 58) ∧ ((o = 46 ∨ o = 47) → aI σ 3 (nT t) = 1 → aI σ 6 (nT t + 1) = 59)) ∧
  (((o = 26 ∨ o = 29 ∨ o = 50) → aI σ 51 (nT a) = gI σ 18) ∧ (o = 26 → aI σ 50 (nT a) = 4) ∧ (o = 29 → aI σ 50 (nT a) = 5) ∧ (o = 32 → aI σ 50 (nT a) = 6)) ∧
  ((o = 41 ∨ o = 50) → nl s.1 ≤ 39) ∧ (o = 54 → s.2 ≤ 9) ∧ ((o = 46 ∨ o = 47) → a = -2 ∨ ∃ q ∈ s.1, q.2 = nT a ∧ jo (nT o) q.1) ∧ ((o = 46 ∨ o = 47) → j' + 1 ≤ j) ∧ (0 ≤ j' ∧ j' ≤ j)
abbrev opl (o : Int32) : Prop := ¬ o = 41 ∧ ¬ o = 46 ∧ ¬ o = 47 ∧ ¬ o = 26 ∧ ¬ o = 29 ∧ ¬ o = 50 ∧ ¬ o = 32 ∧ ¬ o = 54
theorem OX.pl {σ : RS} {s : SS} {o a t : Int32} {j : Int} (h : opl o) (hj : 0 ≤ j) : OX σ s o a t j j := by
  obtain ⟨h1, h2, h3, h4, h5, h6, h7, h8⟩ := h
  exact ⟨⟨fun q => absurd q h1, fun q => absurd q (not_or.mpr ⟨h2, h3⟩)⟩, ⟨fun q => absurd q (not_or.mpr ⟨h4, not_or.mpr ⟨h5, h6⟩⟩), fun q => absurd q h4, fun q => absurd q h5, fun q => absurd q h7⟩, fun q => absurd q (not_or.mpr ⟨h1, h6⟩), fun q => absurd q h8, fun q => absurd q (not_or.mpr ⟨h2, h3⟩), fun q => absurd q (not_or.mpr ⟨h2, h3⟩), hj, Int.le_refl _⟩
/-- a code of a statement more; w: the place of the thing's number that it stands in from now on -/
theorem PI.appg {σ σ' : RS} {E E' : List Nat} {s s' : SS} {k j : Int} (h : PI σ E s k j) (o a b t f l : Int32) (ho : 19 ≤ o ∧ o ≤ 54) (ht : 0 ≤ t ∧ t ≤ 500) (hf : 0 ≤ f ∧ f ≤ 500) (hl : 0 ≤ l ∧ l ≤ 500)
    (hka : kop (nT o) = true → 0 ≤ a ∧ a < gI σ 49) (h22 : o = 22 → 0 ≤ a ∧ a < 60) (h54 : o = 54 → 0 ≤ a ∧ a ≤ 9) (h46 : (o = 46 ∨ o = 47) → a = -2 ∨ (0 ≤ a ∧ a < gI σ 49))
    (hup : kpu (nT o) = true → ∀ c, c < nT (gI σ 18) → kpu (nT (aI σ 19 c)) = true → aI σ 20 c ≠ a) (he : eSt (nT o) a b E = some E') (hs : sSt (nT o) a (nT (gI σ 18)) s = some s') (hk20 : k + 1 ≤ 20) (j' : Int) (hox : OX σ s o a t j j')
    (hks : ∀ r, 50 ≤ r → r ≤ 61 → (aI σ' r = aI σ r ∧ ksl (nT o) ≠ r) ∨ (r = ksl (nT o) ∧ (r = 57 → 0 ≤ aI σ 61 (nT a)) ∧ kop (nT o) = true ∧ aI σ' r = upd (aI σ r) (nT a) (gI σ 18))) (f14 : gI σ' 14 = gI σ 14 := by rfl) (f17 : gI σ' 17 = gI σ 17 := by rfl) (f32 : gI σ' 32 = gI σ 32 := by rfl) (f49 : gI σ' 49 = gI σ 49 := by rfl) (f62 : gI σ' 62 = gI σ 62 := by rfl) (f42 : gI σ' 42 = gI σ 42 := by rfl) (f36 : gI σ' 36 = gI σ 36 := by rfl) (f63 : aI σ' 63 = aI σ 63 := by rfl) (f64 : aI σ' 64 = aI σ 64 := by rfl) (f65 : aI σ' 65 = aI σ 65 := by rfl) (f43 : aI σ' 43 = aI σ 43 := by rfl) (f37 : aI σ' 37 = aI σ 37 := by rfl) (f39 : aI σ' 39 = aI σ 39 := by rfl) (f40 : aI σ' 40 = aI σ 40 := by rfl) (f41 : aI σ' 41 = aI σ 41 := by rfl) (f3 : aI σ' 3 = aI σ 3 := by rfl) (f6 : aI σ' 6 = aI σ 6 := by rfl) (e18 : gI σ' 18 = gI σ 18 + 1 := by rfl) (e19 : aI σ' 19 = upd (aI σ 19) (nT (gI σ 18)) o := by first | rfl | exact upd_upd) (e20 : aI σ' 20 = upd (aI σ 20) (nT (gI σ 18)) a := by first | rfl | exact upd_upd) (e21 : aI σ' 21 = upd (aI σ 21) (nT (gI σ 18)) b := by first | rfl | exact upd_upd) (e22 : aI σ' 22 = upd (aI σ 22) (nT (gI σ 18)) t := by first | rfl | exact upd_upd) (e23 : aI σ' 23 = upd (aI σ 23) (nT (gI σ 18)) f := by first | rfl | exact upd_upd) (e24 : aI σ' 24 = upd (aI σ 24) (nT (gI σ 18)) l := by first | rfl | exact upd_upd) (hgz : GZ σ → GZ σ' := by exact fun h => h) (hzh : zh s.1 → o = 21 ∨ o = 31 ∨ o = 35 := by first | exact fun _ => Or.inl rfl | exact fun _ => Or.inr (Or.inl rfl) | exact fun _ => Or.inr (Or.inr rfl) | (intro z; simp [zh] at z; done)) : PI σ' E' s' (k + 1) j' := by
  have hz := h.numz
  have hn := h.nums
  obtain ⟨⟨h1, h2, h3, h4, h5⟩, hE, hS, hC, hT, hU, hF, hV, hM, hZ, hJ⟩ := h
  have hN : nT (gI σ 18 + 1) = nT (gI σ 18) + 1 := nT_add hn.2.1.1 (by lia)
  have u18 : (gI σ 18 + 1).toInt = (gI σ 18).toInt + 1 := t_add1 (by omega)
  have ho19 : 19 ≤ nT o := nT_le (x := 19) (by decide) ho.1
  have hksl : ∀ n, ksl n = 0 ∨ (52 ≤ ksl n ∧ ksl n ≤ 58) := by
    intro n
    unfold ksl
    split <;> simp
  have k51 : aI σ' 51 = aI σ 51 := by
    rcases hks 51 (by omega) (by omega) with ⟨e, -⟩ | ⟨er, -⟩
    · exact e
    · rcases hksl (nT o) with z | z <;> omega
  have k60 : aI σ' 60 = aI σ 60 := by
    rcases hks 60 (by omega) (by omega) with ⟨e, -⟩ | ⟨er, -⟩
    · exact e
    · rcases hksl (nT o) with z | z <;> omega
  have k61 : aI σ' 61 = aI σ 61 := by
    rcases hks 61 (by omega) (by omega) with ⟨e, -⟩ | ⟨er, -⟩
    · exact e
    · rcases hksl (nT o) with z | z <;> omega
  have k50 : aI σ' 50 = aI σ 50 := by
    rcases hks 50 (by omega) (by omega) with ⟨e, -⟩ | ⟨er, -⟩
    · exact e
    · rcases hksl (nT o) with z | z <;> omega
  have k59 : aI σ' 59 = aI σ 59 := by
    rcases hks 59 (by omega) (by omega) with ⟨e, -⟩ | ⟨er, -⟩
    · exact e
    · rcases hksl (nT o) with z | z <;> omega
  have hAG : AG σ' := by
    intro i hi hoi
    rw [e18, hN] at hi
    rw [e19] at hoi
    have hi2 : i ≠ nT (gI σ 18) := by
      intro q
      subst q
      rw [upd_eq] at hoi
      rw [hoi] at ho
      exact absurd ho.1 (by decide)
    rw [upd_ne hi2] at hoi
    obtain ⟨i', y1, y2, y3⟩ := h4.1 i (by omega) hoi
    rw [e18, hN, e19, e22]
    exact ⟨i', by omega, by rw [upd_ne (by omega)]; exact y2, by rw [upd_ne (by omega), upd_ne hi2]; exact y3⟩
  have hmono : ∀ r, 50 ≤ r → r ≤ 61 → ∀ q, 0 ≤ aI σ r q → 0 ≤ aI σ' r q := by
    intro r z1 z2 q hq
    rcases hks r z1 z2 with ⟨e, -⟩ | ⟨-, -, -, e⟩
    · rw [e]; exact hq
    · rw [e]
      by_cases z : q = nT a
      · subst z; rw [upd_eq]; exact hn.2.1.1
      · rw [upd_ne z]; exact hq
  have hnj : (((if nT o = 46 ∨ nT o = 47 then 1 else 0 : Nat) : Int)) + j' ≤ j := by
    split
    · rename_i q
      have q2 : o = 46 ∨ o = 47 := q.imp (fun q => nT_eq (by lia) (by decide) (q.trans (by decide))) (fun q => nT_eq (by lia) (by decide) (q.trans (by decide)))
      have q3 := hox.2.2.2.2.2.1 q2
      omega
    · have q3 := hox.2.2.2.2.2.2.2
      omega
  have hE' := eSt_stm ho19 he
  have hnl := sSt_nl hs
  have hZc := (hZ.2 _ (Nat.le_refl _)).2 _ hS
  refine ⟨⟨by rw [f14]; exact h1, by rw [e18, f62, f14]; omega, by rw [f17, f62]; exact h3, ⟨hAG, hgz h4.2⟩, ⟨by rw [f49]; exact h5.1, ?_, hox.2.2.2.2.2.2.1⟩⟩, ?_, ?_, ?_, ?_, ?_, ?_, ?_, ?_, ⟨?_, fun i hi => ⟨fun z hz => ?_, fun z hz => ?_⟩⟩, fun c hc hoc => ?_, fun c hc z hz hzz => ?_⟩
  · rw [e18, e19, f49, f14, hN, Nj_emit]
    omega
  · rw [e18, e19, e20, e21, hN]; exact Es_emit hE he
  · rw [e18, e19, e20, hN]; exact Ss_emit hS hs
  · intro c hc
    rw [e18, hN] at hc
    rw [e19, e20, e22, e23, e24, f49]
    by_cases hq : c = nT (gI σ 18)
    · subst hq
      rw [upd_eq, upd_eq, upd_eq, upd_eq, upd_eq]
      refine ⟨⟨by lia, ho.2⟩, ht, hf, ⟨True.intro, True.intro⟩, hka, h22, h54, h46, fun hk => ?_, ⟨fun q => by lia, fun q => by lia, fun q => by lia⟩, ?_, ?_⟩
      · rcases hksl (nT o) with z | z
        · exact absurd z hk
        · rcases hks (ksl (nT o)) (by omega) (by omega) with ⟨-, e⟩ | ⟨-, -, -, e⟩
          · exact absurd rfl e
          · rw [e, upd_eq]; exact hn.2.1.1
      · unfold ty
        rw [f6, f3]
        exact hox.1
      · unfold tz
        rw [k51, k50]
        exact ⟨fun q => by rw [hox.2.1.1 q], hox.2.1.2⟩
    · rw [upd_ne hq, upd_ne hq, upd_ne hq, upd_ne hq, upd_ne hq]
      obtain ⟨z1, z2, z3, z4, z5, z6, z7, z8, z9, za, zb, zc⟩ := hC c (by omega)
      refine ⟨z1, z2, z3, z4, z5, z6, z7, z8, fun hk => ?_, by rw [f6]; exact za, by rw [f6, f3]; exact zb, by unfold tz; rw [k51, k50]; exact zc⟩
      rcases hksl (nT (aI σ 19 c)) with z | z
      · exact absurd z hk
      · exact hmono _ (by omega) (by omega) _ (z9 hk)
  · refine ⟨fun r z1 z2 q hq => ?_, fun q hq => ?_⟩
    · rw [f49] at hq
      have old : aI σ r q = -2 ∨ (0 ≤ aI σ r q ∧ aI σ r q < gI σ' 18 ∧ ksl (nT (aI σ' 19 (nT (aI σ r q)))) = r ∧ nT (aI σ' 20 (nT (aI σ r q))) = q) := by
        rcases hT.1 r z1 z2 q hq with z | ⟨y1, y2, y3, y4⟩
        · exact Or.inl z
        · have hlt := nT_lt y1 y2
          rw [e18, e19, e20, upd_ne (by omega), upd_ne (by omega)]
          exact Or.inr ⟨y1, by lia, y3, y4⟩
      rcases hks r (by omega) (by omega) with ⟨e, -⟩ | ⟨er, -, ek, e⟩
      · rw [e]; exact old
      · by_cases z : q = nT a
        · subst z
          rw [e, upd_eq, e18, e19, e20, upd_eq, upd_eq]
          exact Or.inr ⟨hn.2.1.1, by lia, er.symm, rfl⟩
        · rw [e, upd_ne z]; exact old
    · rw [f49] at hq
      obtain ⟨y1, y2, y3, y4, y5, y6⟩ := hT.2 q hq
      have yle := nT_le y1.1 y1.2
      have k57 : 0 ≤ aI σ' 57 q → 0 ≤ aI σ 61 q := by
        rcases hks 57 (by omega) (by omega) with ⟨e, -⟩ | ⟨-, er, -, e⟩
        · rw [e]; exact y4
        · by_cases z : q = nT a
          · subst z; exact fun _ => er rfl
          · rw [e, upd_ne z]; exact y4
      rw [k51, k60, k61, k50, k59, e18, e19, e20, e21, Es_congr (o := aI σ 19) (a := aI σ 20) (b := aI σ 21) (fun i hi => ⟨upd_ne (by omega), upd_ne (by omega), upd_ne (by omega)⟩)]
      exact ⟨⟨y1.1, by lia⟩, y2, y3, k57, y5, y6⟩
  · intro c d hcd hd k1 k2
    rw [e18, hN] at hd
    rw [e19, upd_ne (by omega)] at k1
    rw [e20, upd_ne (by omega)]
    by_cases hq : d = nT (gI σ 18)
    · subst hq
      rw [e19, upd_eq] at k2
      rw [upd_eq]
      exact hup k2 c hcd k1
    · rw [e19, upd_ne hq] at k2
      rw [upd_ne hq]
      exact hU c d hcd (by omega) k1 k2
  · refine ⟨by rw [f62]; exact hF.1, fun i hi => ?_⟩
    rw [f62] at hi
    obtain ⟨z1, z2, z3⟩ := hF.2 i hi
    rw [f63, f64, f65, f49, e18]
    exact ⟨z1, z2, fun q => ⟨(z3 q).1, by have := (z3 q).2; lia⟩⟩
  · refine ⟨by rw [f42]; exact hV.1, fun v hv => ?_⟩
    rw [f42] at hv
    rw [f43]
    exact hV.2 v hv
  · refine ⟨by rw [f36]; exact hM.1, fun m hm => ?_⟩
    rw [f36] at hm
    obtain ⟨z1, z2, z3, z4, z5, z6⟩ := hM.2 m hm
    have hm4 := nT_le z4.1 z4.2
    rw [f37, f39, f40, f41, f42, e18, e19, e20, e21, Es_congr (fun i hi => ⟨upd_ne (by omega), upd_ne (by omega), upd_ne (by omega)⟩), Ss_congr (fun i hi => ⟨upd_ne (by omega), upd_ne (by omega)⟩)]
    exact ⟨z1, z2, z3, ⟨z4.1, by lia⟩, z5, z6⟩
  · rw [e18, e19, f14, hN, Ne_emit, if_neg (by omega)]
    have := hZ.1
    omega
  · rw [e18, hN] at hi
    rw [e19, e20, e21] at hz
    by_cases hq : i = nT (gI σ 18) + 1
    · subst hq
      rw [Es_emit hE he] at hz
      obtain rfl := Option.some.inj hz
      rw [hE']
      exact Nat.zero_le _
    · rw [Es_congr (o := aI σ 19) (a := aI σ 20) (b := aI σ 21) (fun q hq2 => ⟨upd_ne (by omega), upd_ne (by omega), upd_ne (by omega)⟩)] at hz
      exact (hZ.2 i (by omega)).1 z hz
  · rw [e18, hN] at hi
    rw [e19, e20] at hz
    by_cases hq : i = nT (gI σ 18) + 1
    · subst hq
      rw [Ss_emit hS hs] at hz
      obtain rfl := Option.some.inj hz
      have q46 : ∀ m : Nat, ∀ x : Int32, nT x = m → 0 ≤ x → (nT o = m ↔ o = x) := fun m x q1 q2 => ⟨fun q => nT_eq (by lia) q2 (q.trans q1.symm), fun q => by rw [q, q1]⟩
      have r41 := q46 41 41 (by decide) (by decide)
      have r50 := q46 50 50 (by decide) (by decide)
      have r54 := q46 54 54 (by decide) (by decide)
      constructor
      · by_cases w : o = 41 ∨ o = 50
        · have := hox.2.2.1 w
          have := hnl.2.1
          omega
        · have := hnl.1 (fun q => w (Or.inl (r41.mp q))) (fun q => w (Or.inr (r50.mp q)))
          omega
      · by_cases w : o = 54
        · have := hox.2.2.2.1 w
          have := hnl.2.2.2
          omega
        · have := hnl.2.2.1 (fun q => w (r54.mp q))
          omega
    · rw [Ss_congr (o := aI σ 19) (a := aI σ 20) (fun q hq2 => ⟨upd_ne (by omega), upd_ne (by omega)⟩)] at hz
      exact (hZ.2 i (by omega)).2 z hz
  · rw [e18, hN] at hc
    rw [e19] at hoc
    rw [e19, e20]
    by_cases hq : c = nT (gI σ 18)
    · subst hq
      rw [upd_eq] at hoc
      rw [upd_eq, upd_eq]
      rcases hox.2.2.2.2.1 hoc with z | z
      · exact Or.inl z
      · refine Or.inr ⟨s, ?_, z⟩
        rw [Ss_congr (o := aI σ 19) (a := aI σ 20) (fun q hq2 => ⟨upd_ne (by omega), upd_ne (by omega)⟩)]
        exact hS
    · rw [upd_ne hq] at hoc
      rw [upd_ne hq, upd_ne hq, Ss_congr (o := aI σ 19) (a := aI σ 20) (fun q hq2 => ⟨upd_ne (by omega), upd_ne (by omega)⟩)]
      exact hJ.1 c (by omega) hoc
  · rw [e18, hN] at hc
    rw [e19, e20] at hz
    rw [e19]
    by_cases hq : c = nT (gI σ 18)
    · subst hq
      rw [Ss_congr (o := aI σ 19) (a := aI σ 20) (fun q hq2 => ⟨upd_ne (by omega), upd_ne (by omega)⟩), hS] at hz
      obtain rfl := Option.some.inj hz
      rw [upd_eq]
      exact Or.inr (hzh hzz)
    · rw [Ss_congr (o := aI σ 19) (a := aI σ 20) (fun q hq2 => ⟨upd_ne (by omega), upd_ne (by omega)⟩)] at hz
      rw [upd_ne hq]
      exact hJ.2 c (by omega) z hz hzz
theorem PI.app {σ σ' : RS} {E E' : List Nat} {s s' : SS} {k j : Int} (h : PI σ E s k j) (o a b t f l : Int32) (ho : 19 ≤ o ∧ o ≤ 54) (ht : 0 ≤ t ∧ t ≤ 500) (hf : 0 ≤ f ∧ f ≤ 500) (hl : 0 ≤ l ∧ l ≤ 500)
    (hka : kop (nT o) = true → 0 ≤ a ∧ a < gI σ 49) (h22 : o = 22 → 0 ≤ a ∧ a < 60) (h54 : o = 54 → 0 ≤ a ∧ a ≤ 9) (h46 : (o = 46 ∨ o = 47) → a = -2 ∨ (0 ≤ a ∧ a < gI σ 49))
    (hup : kpu (nT o) = true → ∀ c, c < nT (gI σ 18) → kpu (nT (aI σ 19 c)) = true → aI σ 20 c ≠ a) (he : eSt (nT o) a b E = some E') (hs : sSt (nT o) a (nT (gI σ 18)) s = some s') (hk20 : k + 1 ≤ 20)
    (hks : ∀ r, 50 ≤ r → r ≤ 61 → (aI σ' r = aI σ r ∧ ksl (nT o) ≠ r) ∨ (r = ksl (nT o) ∧ (r = 57 → 0 ≤ aI σ 61 (nT a)) ∧ kop (nT o) = true ∧ aI σ' r = upd (aI σ r) (nT a) (gI σ 18))) (hpl : opl o) (f14 : gI σ' 14 = gI σ 14 := by rfl) (f17 : gI σ' 17 = gI σ 17 := by rfl) (f32 : gI σ' 32 = gI σ 32 := by rfl) (f49 : gI σ' 49 = gI σ 49 := by rfl) (f62 : gI σ' 62 = gI σ 62 := by rfl) (f42 : gI σ' 42 = gI σ 42 := by rfl) (f36 : gI σ' 36 = gI σ 36 := by rfl) (f63 : aI σ' 63 = aI σ 63 := by rfl) (f64 : aI σ' 64 = aI σ 64 := by rfl) (f65 : aI σ' 65 = aI σ 65 := by rfl) (f43 : aI σ' 43 = aI σ 43 := by rfl) (f37 : aI σ' 37 = aI σ 37 := by rfl) (f39 : aI σ' 39 = aI σ 39 := by rfl) (f40 : aI σ' 40 = aI σ 40 := by rfl) (f41 : aI σ' 41 = aI σ 41 := by rfl) (f3 : aI σ' 3 = aI σ 3 := by rfl) (f6 : aI σ' 6 = aI σ 6 := by rfl) (e18 : gI σ' 18 = gI σ 18 + 1 := by rfl) (e19 : aI σ' 19 = upd (aI σ 19) (nT (gI σ 18)) o := by first | rfl | exact upd_upd) (e20 : aI σ' 20 = upd (aI σ 20) (nT (gI σ 18)) a := by first | rfl | exact upd_upd) (e21 : aI σ' 21 = upd (aI σ 21) (nT (gI σ 18)) b := by first | rfl | exact upd_upd) (e22 : aI σ' 22 = upd (aI σ 22) (nT (gI σ 18)) t := by first | rfl | exact upd_upd) (e23 : aI σ' 23 = upd (aI σ 23) (nT (gI σ 18)) f := by first | rfl | exact upd_upd) (e24 : aI σ' 24 = upd (aI σ 24) (nT (gI σ 18)) l := by first | rfl | exact upd_upd) (hgz : GZ σ → GZ σ' := by exact fun h => h) (hzh : zh s.1 → o = 21 ∨ o = 31 ∨ o = 35 := by first | exact fun _ => Or.inl rfl | exact fun _ => Or.inr (Or.inl rfl) | exact fun _ => Or.inr (Or.inr rfl) | (intro z; simp [zh] at z; done)) : PI σ' E' s' (k + 1) j :=
  h.appg o a b t f l ho ht hf hl hka h22 h54 h46 hup he hs hk20 j (OX.pl hpl h.1.2.2.2.2.2.2) hks f14 f17 f32 f49 f62 f42 f36 f63 f64 f65 f43 f37 f39 f40 f41 f3 f6 e18 e19 e20 e21 e22 e23 e24 hgz hzh
/-- other numbers: pos may grow (and with it the room), what is not looked at may change -/
theorem PI.mv {σ σ' : RS} {E : List Nat} {s : SS} {k j : Int} (h : PI σ E s k j) (k' j' : Int) (hp : (gI σ 14).toInt ≤ (gI σ' 14).toInt ∧ (gI σ' 14).toInt ≤ 500) (hk : k' ≤ 20 ∧ k ≤ k' + 6 * ((gI σ' 14).toInt - (gI σ 14).toInt)) (hj : 0 ≤ j' ∧ j' ≤ j + ((gI σ' 14).toInt - (gI σ 14).toInt)) (hl : lk (gI σ' 32)) (f17 : gI σ' 17 = gI σ 17 := by rfl) (f49 : gI σ' 49 = gI σ 49 := by rfl) (f62 : gI σ' 62 = gI σ 62 := by rfl) (f42 : gI σ' 42 = gI σ 42 := by rfl) (f36 : gI σ' 36 = gI σ 36 := by rfl) (f63 : aI σ' 63 = aI σ 63 := by rfl) (f64 : aI σ' 64 = aI σ 64 := by rfl) (f65 : aI σ' 65 = aI σ 65 := by rfl) (f43 : aI σ' 43 = aI σ 43 := by rfl) (f37 : aI σ' 37 = aI σ 37 := by rfl) (f39 : aI σ' 39 = aI σ 39 := by rfl) (f40 : aI σ' 40 = aI σ 40 := by rfl) (f41 : aI σ' 41 = aI σ 41 := by rfl) (e18 : gI σ' 18 = gI σ 18 := by rfl) (e19 : aI σ' 19 = aI σ 19 := by rfl) (e20 : aI σ' 20 = aI σ 20 := by rfl) (e21 : aI σ' 21 = aI σ 21 := by rfl) (e22 : aI σ' 22 = aI σ 22 := by rfl) (e23 : aI σ' 23 = aI σ 23 := by rfl) (e24 : aI σ' 24 = aI σ 24 := by rfl) (f50 : aI σ' 50 = aI σ 50 := by rfl) (f51 : aI σ' 51 = aI σ 51 := by rfl) (f52 : aI σ' 52 = aI σ 52 := by rfl) (f53 : aI σ' 53 = aI σ 53 := by rfl) (f54 : aI σ' 54 = aI σ 54 := by rfl) (f55 : aI σ' 55 = aI σ 55 := by rfl) (f56 : aI σ' 56 = aI σ 56 := by rfl) (f57 : aI σ' 57 = aI σ 57 := by rfl) (f58 : aI σ' 58 = aI σ 58 := by rfl) (f59 : aI σ' 59 = aI σ 59 := by rfl) (f60 : aI σ' 60 = aI σ 60 := by rfl) (f61 : aI σ' 61 = aI σ 61 := by rfl) (f3 : aI σ' 3 = aI σ 3 := by rfl) (f6 : aI σ' 6 = aI σ 6 := by rfl) (hgz : GZ σ → GZ σ' := by exact fun h => h) : PI σ' E s k' j' := by
  obtain ⟨⟨h1, h2, h3, h4, h5⟩, hE, hS, hC, hT, hU, hF, hV, hM, hZ, hJ⟩ := h
  have hks : ∀ r, 50 ≤ r → r ≤ 61 → aI σ' r = aI σ r := by
    intro r a b
    have h9 : r = 50 ∨ r = 51 ∨ r = 52 ∨ r = 53 ∨ r = 54 ∨ r = 55 ∨ r = 56 ∨ r = 57 ∨ r = 58 ∨ r = 59 ∨ r = 60 ∨ r = 61 := by omega
    rcases h9 with rfl | rfl | rfl | rfl | rfl | rfl | rfl | rfl | rfl | rfl | rfl | rfl <;> assumption
  have hksl : ∀ n, ksl n = 0 ∨ (52 ≤ ksl n ∧ ksl n ≤ 58) := by
    intro n
    unfold ksl
    split <;> simp
  refine ⟨⟨⟨by omega, hp.2⟩, by rw [e18, f62]; omega, by rw [f17, f62]; exact h3, ⟨by unfold AG; rw [e18, e19, e22]; exact h4.1, hgz h4.2⟩, by rw [f49, e18, e19]; omega⟩, by rw [e18, e19, e20, e21]; exact hE, by rw [e18, e19, e20]; exact hS, ?_, ?_, ?_, ?_, ?_, ?_, ⟨by rw [e18, e19]; have := hZ.1; omega, by rw [e18, e19, e20, e21]; exact hZ.2⟩, by rw [e18, e19, e20]; exact hJ⟩
  · intro c hc
    rw [e18] at hc
    rw [e19, e20, e22, e23, e24, f49]
    obtain ⟨z1, z2, z3, z4, z5, z6, z7, z8, z9, za, zb, zc⟩ := hC c hc
    refine ⟨z1, z2, z3, z4, z5, z6, z7, z8, fun hk => ?_, by rw [f6]; exact za, by rw [f6, f3]; exact zb, by unfold tz; rw [hks 51 (by omega) (by omega), hks 50 (by omega) (by omega)]; exact zc⟩
    rcases hksl (nT (aI σ 19 c)) with z | z
    · exact absurd z hk
    · rw [hks _ (by omega) (by omega)]; exact z9 hk
  · unfold TI
    rw [f49, e18, e19, e20, e21, hks 51 (by omega) (by omega), hks 60 (by omega) (by omega), hks 61 (by omega) (by omega), hks 57 (by omega) (by omega), hks 50 (by omega) (by omega), hks 59 (by omega) (by omega)]
    exact ⟨fun r a b => by rw [hks r (by omega) (by omega)]; exact hT.1 r a b, hT.2⟩
  · unfold UP; rw [e18, e19, e20]; exact hU
  · unfold FI; rw [f62, f63, f64, f65, f49, e18]; exact hF
  · unfold VT; rw [f42, f43]; exact hV
  · unfold MT; rw [f36, f37, f39, f40, f41, f42, e18, e19, e20, e21]; exact hM
theorem PI.take {σ σ' : RS} {E : List Nat} {s : SS} {k j : Int} (h : PI σ E s k j) (hp5 : gI σ 14 < 500) (hs : σ' = sI σ 14 (gI σ 14 + 1)) (k' j' : Int) (hk : k' ≤ 20 ∧ k ≤ k' + 6) (hj : 0 ≤ j' ∧ j' ≤ j + 1) : PI σ' E s k' j' := by
  subst hs
  have hz := h.numz
  have hp6 : (gI σ 14).toInt < 500 := Int32.lt_iff_toInt_lt.mp hp5
  have u14 : (gI (sI σ 14 (gI σ 14 + 1)) 14).toInt = (gI σ 14).toInt + 1 := t_add1 (by omega)
  exact h.mv k' j' ⟨by omega, by omega⟩ ⟨hk.1, by omega⟩ ⟨hj.1, by omega⟩ hz.2.2.2.1

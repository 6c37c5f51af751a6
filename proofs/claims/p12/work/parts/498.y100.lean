/-! a program that was read and judged, in the reference -/
abbrev V1R (σ : RS) : Nat → Int := fun M => (aI σ 40 M).toInt
abbrev kdR (σ : RS) : Nat → Int := fun t => (aI σ 3 t).toInt
abbrev bmR (σ : RS) (z : ZS) : Nat → Int := fun q => (vnR σ (mtfR (sA σ 80 (clrR σ (gI σ 2).toInt.toNat)) (nT (gI σ 36))) (vnW z) q).toInt
/-- nothing is told of the program -/
def OkW (N : Int → Int) (z : ZS) (V1 : Nat → Int) (L : List Nat) (T : TbT) : Prop := ((∀ k, k < (zMs z.1).length → m1T (msM N koY kiY z.1) k 12) ∧ ∀ v, v < vnW z → ¬ clW z v = 1) ∧ tbT (CxR N z) (fun i => xth z i) (xnM z) = some T ∧ (∀ y l, (.inr y :: l) <:+ z.2.1 → okS (CxR N z) N T l y) ∧ FlO N z T (msM N koY kiY z.1) V1 (2 * snM z) L 0
/-- what stands where nothing is told -/
def JgS (N : Int → Int) (σ τ : RS) (z : ZS) (L : List Nat) (T : TbT) (σ1 : RS) : Prop := JR (bmR σ z) (kdR σ) (sI σ 68 1) σ1 (CxR N z) (tnM z) z.2.1 T [] ∧ FfR σ1 τ ∧ LgF z 0 (snM z) (fl0 σ1) τ (FlG N z T (msM N koY kiY z.1) (V1R σ) (2 * snM z) L 0)
theorem ff_flt {σ0 : RS} : ∀ (n : Nat) (Y : RS) (c m : Int32), FlT σ0 n Y c m → FfR σ0 Y := by
  intro n
  induction n with
  | zero =>
    intro Y c m h
    rw [h.1]
    exact FfR.rf
  | succ n ih =>
    intro Y c m ⟨X, d, k, h1, _, h2⟩
    exact (ih X d k h1).tr (ff_st h2)
theorem xg_ex : ∀ {L : List ItZ} {i : Nat}, i < xcZ L → ∃ x l, (.inl x :: l) <:+ L ∧ xcZ l = i ∧ xgZ L i = x := by
  intro L
  induction L with
  | nil => exact fun h => absurd h (Nat.not_lt_zero _)
  | cons w L ih =>
    intro i h
    cases w with
    | inl x =>
      have h : i < xcZ L + 1 := h
      by_cases e : i = xcZ L
      · exact ⟨x, L, List.suffix_rfl, e.symm, by rw [e]; exact xg_at List.suffix_rfl⟩
      · obtain ⟨y, l, h1, h2, h3⟩ := ih (i := i) (by omega)
        exact ⟨y, l, h1.trans (List.suffix_cons _ _), h2, by rw [xgZ, if_neg e]; exact h3⟩
    | inr y =>
      obtain ⟨x, l, h1, h2, h3⟩ := ih (i := i) h
      exact ⟨x, l, h1.trans (List.suffix_cons _ _), h2, h3⟩
section
variable {N : Int → Int} {σ τ : RS} {s : SpC} {z : ZS} {L : List Nat}
theorem RdA.sg (h : RdA N σ s z) {i : Nat} (hi : i < xnM z) : SgX (xth z i) := by
  obtain ⟨x, l, h1, _, h3⟩ := xg_ex (L := z.2.1) hi
  rw [show xth z i = x from h3]
  exact (h.rp.1 x (h1.subset List.mem_cons_self)).1
theorem RdA.va (h : RdA N σ s z) {i : Nat} (hi : i < xnM z) (k : (xth z i).1.1 = 1) : VaT ((t0T N (fun i => xth z i)).1 i) := by
  obtain ⟨x, l, h1, h2, h3⟩ := xg_ex (L := z.2.1) hi
  have e : xth z i = x := h3
  rw [e] at k
  have q := vt_1 h.2.1 h.2.2.2.1 h1 (h.rp.1 x (h1.subset List.mem_cons_self)) k
  rw [h2] at q
  exact q
/-- judged: with an ERROR, or without one and all as it is told -/
theorem rj_of (h : RdA N σ s z) (h91 : gI σ 91 = 0) (ev : EvM 82 [] σ none τ) (hL : L.length = (zMs z.1).length) (P : PrD N z L 0 (0, 0, []) (psM z)) : (¬ gI τ 66 = 0 ∧ ∀ T, ¬ OkW N z (V1R σ) L T) ∨ (gI τ 66 = 0 ∧ ∃ T σ1, OkW N z (V1R σ) L T ∧ JgS N σ τ z L T σ1) := by
  have J := w_judgeAllB [] σ trivial none τ ev _ _ _ _ _ _ _ _ _ (stj_of h h91)
  have rg := h.rg
  have nm := h.nm
  have sg := fun i hi => h.sg (i := i) hi
  have va := fun i hi k => h.va (i := i) hi k
  obtain ⟨⟨hs, hz, hft⟩, R, ⟨V, b18⟩, W, O⟩ := h
  have g18 := g18_of R
  subst hz
  generalize hzz : prM N 11 (z0S s) = z at *
  have okj := okJ_iff (C := CxR N z) (N := N) (L := z.2.1) (nm := nT (gI σ 36)) (nv := vnW z) (cl := fun v => clW z v = 1) rg
  rcases J with ⟨_, ⟨n, e⟩ | ⟨o, σ1, T, hT, _, J, ef⟩⟩
  · refine Or.inl ⟨e, fun T ⟨⟨a, b⟩, c, d, _⟩ => n (okj.mpr ⟨⟨fun k hk => a k (by omega), b⟩, T, c, d⟩)⟩
  · obtain ⟨_, n, Y, c, m, hF, hc, rfl⟩ := w_flow [] σ1 trivial none τ ef trivial
    obtain ⟨⟨a, b⟩, T', c1, c2⟩ := okj.mp o
    have ht := okl_tb (C := CxR N z) (L := z.2.1) List.suffix_rfl hT
    have eT : T' = T := Option.some.inj (c1.symm.trans ht)
    subst eT
    have D := dfx_of (N := N) (σ := σ) (s := s) (g := 11) (T := T') (L := L) (Ko := koY) (Ki := kiY) hs (by rw [hzz]; exact hft) (by rw [hzz]; exact R) (by rw [hzz]; exact P) (by rw [hzz]; exact hL) (by rw [hzz]; exact sg) (by rw [hzz]; exact va) (by rw [hzz]; exact c1) (by rw [hzz]; exact c2)
    have F := rf_fl (N := N) (σ := σ) (s := s) (g := 11) (T := T') (L := L) (Ko := koY) (Ki := kiY) (f := 2 * snM z) hs (by rw [hzz]; exact hft) (by rw [hzz]; exact R) V (by rw [hzz]; omega) (by rw [hzz]; exact J) D (by rw [hzz]; exact c2) (by rw [hzz]; exact P) (by rw [hzz]; exact hL) (by rw [hzz]; exact Nat.le_refl _) hF hc
    rw [hzz] at F
    obtain ⟨F1, F2⟩ := F
    have ff : FfR σ1 Y := ff_fl0.tr (ff_flt n Y c m hF)
    have un : ∀ U, OkW N z (V1R σ) L U → FlO N z T' (msM N koY kiY z.1) (V1R σ) (2 * snM z) L 0 := fun U ⟨_, u1, _, u2⟩ => by
      have e : U = T' := Option.some.inj (u1.symm.trans c1)
      rw [e] at u2
      exact u2
    by_cases bd : BdF Y
    · refine Or.inl ⟨?_, fun U hU => F1.mp bd (un U hU)⟩
      unfold flE
      by_cases e1 : gI Y 112 = 0
      · rw [if_pos e1]
        by_cases e2 : gI Y 114 = 0
        · exact absurd bd (fun q => q.elim (fun z => z e1) (fun z => z e2))
        · rw [if_neg e2]
          show ¬ (15 : Int32) = 0
          decide
      · rw [if_neg e1]
        exact e1
    · have fo := Classical.byContradiction (fun q => bd (F1.mpr q))
      have e1 : gI Y 112 = 0 := Classical.byContradiction (fun q => bd (Or.inl q))
      have e2 : gI Y 114 = 0 := Classical.byContradiction (fun q => bd (Or.inr q))
      have eY : flE Y = Y := by unfold flE; rw [if_pos e1, if_pos e2]
      rw [eY]
      refine Or.inr ⟨(ff.1 66 rfl).trans J.1.2.1, T', σ1, ⟨⟨fun k hk => a k (by omega), b⟩, c1, c2, fo⟩, J, ff, F2 fo⟩
end

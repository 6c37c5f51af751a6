/-! the reference's flow of a whole exp: from its first code behind its last one -/
/-- what exps leave alone -/
def XfR (σ τ : RS) : Prop := (∀ k, k ≠ 100 → k ≠ 114 → k ≠ 115 → gI τ k = gI σ k) ∧ (∀ k, k ≠ 93 → k ≠ 94 → gL τ k = gL σ k) ∧ aI τ = aI σ ∧ ∀ k, k ≠ 101 → k ≠ 102 → aL τ k = aL σ k
section
variable {σ τ υ : RS} {k : Nat}
theorem XfR.rf : XfR σ σ := ⟨fun _ _ _ _ => rfl, fun _ _ _ => rfl, rfl, fun _ _ _ => rfl⟩
theorem XfR.tr (h : XfR σ τ) (g : XfR τ υ) : XfR σ υ := ⟨fun k a b c => (g.1 k a b c).trans (h.1 k a b c), fun k a b => (g.2.1 k a b).trans (h.2.1 k a b), g.2.2.1.trans h.2.2.1, fun k a b => (g.2.2.2 k a b).trans (h.2.2.2 k a b)⟩
theorem XfR.I {v : Int32} (hk : k = 100 ∨ k = 114 ∨ k = 115) (h : XfR σ τ) : XfR σ (sI τ k v) := ⟨fun i a b c => by
  rw [gI_sI, nb_ne (by omega)]
  exact h.1 i a b c, h.2.1, h.2.2.1, h.2.2.2⟩
theorem XfR.L {v : Int64} (hk : k = 93 ∨ k = 94) (h : XfR σ τ) : XfR σ (sL τ k v) := ⟨h.1, fun i a b => by
  rw [gL_sL, nb_ne (by omega)]
  exact h.2.1 i a b, h.2.2.1, h.2.2.2⟩
theorem XfR.M {v : Nat → Int64} (hk : k = 101 ∨ k = 102) (h : XfR σ τ) : XfR σ (sM τ k v) := ⟨h.1, h.2.1, h.2.2.1, fun i a b => by
  rw [aL_sM, nb_ne (by omega)]
  exact h.2.2.2 i a b⟩
theorem XfR.be {b : Int64} (h : XfR σ τ) : XfR σ (beS τ b) := XfR.L (by omega) (XfR.L (by omega) h)
theorem XfR.un {u p : Int32} (h : XfR σ τ) : XfR σ (unS τ u p) := XfR.I (by omega) (XfR.I (by omega) h)
theorem xf_if {a b : RS} {p : Prop} [Decidable p] (h1 : XfR σ a) (h2 : XfR σ b) : XfR σ (if p then a else b) := by
  split
  · exact h1
  · exact h2
theorem xf_x {c : Int32} : XfR σ (fxS σ c) := by
  unfold fxS
  refine xf_if XfR.rf.be (xf_if (XfR.rf.L (by omega) |>.L (by omega)) (xf_if XfR.rf (xf_if ((XfR.rf.M (by omega)).I (by omega)).be (xf_if ((XfR.rf.I (by omega)).L (by omega)) (xf_if ((XfR.rf.M (by omega)).I (by omega)).be (xf_if ((XfR.rf.I (by omega)).L (by omega)) (xf_if ((XfR.rf.M (by omega)).M (by omega)).be (xf_if ?_ (xf_if XfR.rf.be ?_)))))))))
  · have e := ((XfR.rf (σ := σ)).I (k := 100) (v := gI σ 100 - 1) (by omega)).L (k := 93) (v := gL σ 93 &&& aL σ 101 (gI σ 100 - 1).toNatClampNeg) (by omega) |>.L (k := 94) (v := gL σ 94 &&& aL σ 102 (gI σ 100 - 1).toNatClampNeg) (by omega)
    exact xf_if e e.be
  · unfold sidS
    exact xf_if XfR.rf.be (xf_if (XfR.rf.be.L (by omega)) (XfR.rf.be.L (by omega)))
theorem XfR.ff (h : XfR σ τ) : FfR σ τ := ⟨fun k q => h.1 k (fun e => by rw [e] at q; cases q) (fun e => by rw [e] at q; cases q) (fun e => by rw [e] at q; cases q), fun k q => h.2.1 k (fun e => by rw [e] at q; cases q) (fun e => by rw [e] at q; cases q), fun k _ => by rw [h.2.2.1], fun k q => h.2.2.2 k (fun e => by rw [e] at q; cases q) (fun e => by rw [e] at q; cases q)⟩
end
theorem pa_er {x : XrZ} {t : TvT} {w : WzS} (h : w.2.2.2 = true) : (paW x t w).2.2.2 = true := by
  have fr : (frA w).2.2.2.2 = true := by
    unfold frA
    split
    · exact h
    · exact h
  have to : ∀ (m : Int64) (w : WzS), w.2.2.2 = true → (toA m w).2.2.2 = true := fun m w h => by
    unfold toA
    split
    · exact h
    · exact h
  have aF : ∀ w : WzS, w.2.2.2 = true → (andF w).2.2.2 = true := fun w h => by
    unfold andF frA
    split
    · exact h
    · exact h
  have aT : ∀ w : WzS, w.2.2.2 = true → (andT w).2.2.2 = true := fun w h => by
    unfold andT frA
    split
    · exact h
    · exact h
  unfold paW
  split
  · exact h
  split
  · split
    · exact to _ _ h
    · exact to _ _ h
  split
  · exact to _ _ h
  split
  · exact to _ _ (to _ _ fr)
  split
  · exact aT _ (aF _ h)
  split
  · unfold chW
    split
    · exact aF _ h
    split
    · exact aT _ h
    · exact h
  split
  · split
    · exact h
    · exact h
  split
  · show (if t.2.1 = 0 ∧ 0 ≤ x.2.1.2.1 ∧ hasQ (w.1 &&& w.2.1) x.2.1.2.1 = false then erW w else w).2.2.2 = true
    split
    · rfl
    · exact h
  split
  · exact h
  · exact h
section
variable {σ : RS} {C : CxT} {z : ZS} {T : TbT}
theorem i32_nat {n : Nat} (h : n ≤ 4000) : (Int32.ofInt (n : Int)).toInt = (n : Int) := Int32.toInt_ofInt_of_le (by omega) (by omega)
theorem i32_suc {n : Nat} (h : n ≤ 4000) : Int32.ofInt (n : Int) + 1 = Int32.ofInt ((n + 1 : Nat) : Int) := Int32.toInt_inj.mp (by
  have e := i32_nat h
  rw [i32_add (by omega) (by omega), e, Int32.toInt_ofInt_of_le (by omega) (by omega)]
  omega)
/-- the place of what comes next -/
def plI (l : List ItZ) : Int32 := Int32.ofInt (l.length : Int)
theorem op_le {x : XrZ} (h : x.1.1 ≤ 14) : opkZ x ≤ 18 := by
  unfold opkZ
  repeat' split
  all_goals omega
theorem ltJ {a b : Int32} (h : a.toInt < b.toInt) : a < b := Int32.lt_iff_toInt_lt.mpr h
theorem leJ {a b : Int32} (h : a.toInt ≤ b.toInt) : a ≤ b := Int32.le_iff_toInt_le.mpr h
/-- a code is there -/
theorem pl_lt (E : FxE σ C z T) {x : ItZ} {l : List ItZ} (hs : (x :: l) <:+ z.2.1) : plI l < gI σ 18 ∧ (plI l).toInt = (l.length : Int) ∧ (plI l).toNatClampNeg = l.length := by
  have n := hs.length_le
  rw [List.length_cons] at n
  have b := E.1.2.2
  have e : (plI l).toInt = (l.length : Int) := i32_nat (by omega)
  refine ⟨ltJ ?_, e, nT_x e⟩
  rw [e, E.1.2.1]
  omega
theorem pl_s (E : FxE σ C z T) {x : ItZ} {l : List ItZ} (hs : (x :: l) <:+ z.2.1) : plI l + 1 = plI (x :: l) := by
  have n := hs.length_le
  rw [List.length_cons] at n
  have b := E.1.2.2
  exact i32_suc (by omega)
theorem XvR.u {F : MkF} {t f : Int64} {A : List Int64} {u p : Int32} (h : XvR σ F t f A) : XvR (unS σ u p) F t f A := ⟨h.1, h.2.1, h.2.2.1, OpR.fr (σ := σ) (fun _ _ => ⟨rfl, rfl⟩) h.2.2.2⟩
theorem fx_run {τ : RS} {k : Int32} (H : ZjD C z T) (P : PuE C z T) (E : FxE σ C z T) {l : List ItZ} {mm : Int64} (hn : ¬ LsO l) (hl : MkP 100 l []) (hx : XvR σ [] mm mm []) (hb : ¬ BdF σ) (hr : RnR τ σ (plI l) k) : ∀ (t : List XrZ), (∀ x ∈ t, x.1.1 ≤ 14) → (t.map Sum.inl ++ l) <:+ z.2.1 → (BdF τ ∧ (bxL z T t.length (xcZ l) (mm, mm, [], false)).2.2.2 = true) ∨ ∃ σ', RnR τ σ' (plI (t.map Sum.inl ++ l)) k ∧ ¬ BdF σ' ∧ XfR σ σ' ∧ (bxL z T t.length (xcZ l) (mm, mm, [], false)).2.2.2 = false ∧ ∃ F, MkP 100 (t.map Sum.inl ++ l) F ∧ XvR σ' F (bxL z T t.length (xcZ l) (mm, mm, [], false)).1 (bxL z T t.length (xcZ l) (mm, mm, [], false)).2.1 (bxL z T t.length (xcZ l) (mm, mm, [], false)).2.2.1 := by
  intro t
  induction t with
  | nil => exact fun _ _ => Or.inr ⟨σ, hr, hb, XfR.rf, rfl, [], hl, hx⟩
  | cons x t ih =>
    intro hk hs
    have hs : (.inl x :: (t.map Sum.inl ++ l)) <:+ z.2.1 := hs
    have hs' : (t.map Sum.inl ++ l) <:+ z.2.1 := (List.suffix_cons _ _).trans hs
    have xe : xth z (xcZ (t.map Sum.inl ++ l)) = x := xg_at hs
    have eb : bxL z T (t.length + 1) (xcZ l) (mm, mm, [], false) = paW x (T.1 (xcZ (t.map Sum.inl ++ l))) (bxL z T t.length (xcZ l) (mm, mm, [], false)) := by
      rw [bxl_sn, ← xc_mp, xe]
    have h14 := hk x List.mem_cons_self
    obtain ⟨F', f1', f2', f3'⟩ := ex_run H (mm := mm) (er := false) hn hl (x :: t) hs
    obtain ⟨G', g1', g2', _⟩ := ex_run H (mm := mm) (er := false) hn hl t hs'
    rw [List.length_cons] at f2' f3' ⊢
    rcases ih (fun y hy => hk y (List.mem_cons_of_mem _ hy)) hs' with ⟨b, er⟩ | ⟨σ1, r1, b1, x1, er, G, g1, v1⟩
    · refine Or.inl ⟨b, ?_⟩
      rw [eb]
      exact pa_er er
    · have E1 := E.fr x1.ff
      obtain ⟨p1, p2, p3⟩ := pl_lt E1 hs
      have eG := mkp_un g1' g1
      subst eG
      obtain ⟨f2, G2, f3, f4⟩ := id f1'
      have eG := mkp_un f3 g1
      subst eG
      have op : ccZ σ1 (t.map Sum.inl ++ l).length x := E1.1.1.at (itN_at hs)
      have o18 : aI σ1 19 (plI (t.map Sum.inl ++ l)).toNatClampNeg ≤ 18 := by
        rw [p3]
        refine leJ ?_
        have := op.1
        rw [this]
        exact op_le h14
      have hcn : x.1.1 ≤ 10 → CnD T (xcZ (t.map Sum.inl ++ l) : Int) (paW x (T.1 (xcZ (t.map Sum.inl ++ l))) (bxL z T t.length (xcZ l) (mm, mm, [], false))).1 (paW x (T.1 (xcZ (t.map Sum.inl ++ l))) (bxL z T t.length (xcZ l) (mm, mm, [], false))).2.1 := fun k10 => by
        have hi : xcZ (t.map Sum.inl ++ l) < xnM z := xc_sf hs
        have k0 := (H.2.2.1 _ hi).1
        rw [xe] at k0
        have q := f3' ⟨x, _, rfl, k0, k10⟩
        rw [eb] at q
        have q : CnD T (((xcZ (t.map Sum.inl ++ l) + 1 : Nat) : Int) - 1) _ _ := q
        rw [show ((xcZ (t.map Sum.inl ++ l) + 1 : Nat) : Int) - 1 = ((xcZ (t.map Sum.inl ++ l) : Nat) : Int) by omega] at q
        exact q
      have al := aw_len g2'
      have gl := mkp_le g1
      obtain ⟨Y, c1, m1, st, r2⟩ := r1.st p1
      have step : ∀ p : Int32, XvR (fxS (unS σ1 0 p) (plI (t.map Sum.inl ++ l))) F' (paW x (T.1 (xcZ (t.map Sum.inl ++ l))) (bxL z T t.length (xcZ l) (mm, mm, [], false))).1 (paW x (T.1 (xcZ (t.map Sum.inl ++ l))) (bxL z T t.length (xcZ l) (mm, mm, [], false))).2.1 (paW x (T.1 (xcZ (t.map Sum.inl ++ l))) (bxL z T t.length (xcZ l) (mm, mm, [], false))).2.2.1 := fun p => (xe_st H P (E1.fr (FfR.rf.un (u := 0) (p := p))) hs p2 h14 f4 gl (by omega) hcn v1.u er).1
      have uv := (xe_st H P E1 hs p2 h14 f4 gl (by omega) hcn v1 er).2
      rw [← eb] at uv step
      by_cases bY : BdF Y
      · refine Or.inl ⟨r2.bd bY, ?_⟩
        refine uv.mp ?_
        rcases st with ⟨_, u, p, hu, rfl, _⟩ | ⟨q, _⟩
        · rcases bY with bY | bY
          · rw [fk_x.1] at bY
            exact absurd (Or.inl bY) b1
          · rw [fk_x.2] at bY
            rcases hu.mp bY with q | q
            · exact absurd (Or.inr q) b1
            · exact q
        · exact absurd o18 q
      · obtain ⟨_, nu, rfl, rfl, p, rfl⟩ := sx_st st bY o18
        refine Or.inr ⟨_, ?_, bY, x1.tr ((XfR.rf.un (u := 0) (p := p)).tr xf_x), Bool.eq_false_iff.mpr (fun q => nu (uv.mpr q)), F', f1', step p⟩
        have e : plI (List.map Sum.inl (x :: t) ++ l) = plI (t.map Sum.inl ++ l) + 1 := (pl_s E1 hs).symm
        rw [e]
        exact r2
/-- a whole exp -/
theorem fx_ex {τ : RS} {k : Int32} (H : ZjD C z T) (P : PuE C z T) (E : FxE σ C z T) {lv : Int} {l m : List ItZ} {r : XrZ} {mm : Int64} (hX : ExX lv l m r) (hl0 : 0 ≤ lv) (hh : HdR l) (hm : m <:+ z.2.1) (hx : XvR σ [] mm mm []) (hb : ¬ BdF σ) (hr : RnR τ σ (plI l) k) : (BdF τ ∧ exD z T ((xcZ m : Int) - 1) mm = none) ∨ ∃ σ' e, exD z T ((xcZ m : Int) - 1) mm = some e ∧ RnR τ σ' (plI m) k ∧ ¬ BdF σ' ∧ XfR σ σ' ∧ XvR σ' [] e.1 e.2 [] := by
  obtain ⟨t, ht⟩ := hX.xs
  obtain ⟨m1, e1, e2, ⟨e3, e4⟩, hk, xd⟩ := id hX
  have hl : l <:+ z.2.1 := hX.sf.trans hm
  obtain ⟨G, hG⟩ := mkp_sf H.2.2.2 hl
  have G0 : G = [] := by
    rcases hh with h | ⟨y, l', h⟩
    · rw [h] at hG; exact hG
    · rw [h] at hG; exact hG.1
  subst G0
  have k14 : ∀ x ∈ t, x.1.1 ≤ 14 := xd.1 t ht
  have bw := bxw_run (w := (mm, mm, [], false)) (T := T) (mm := mm) hX hm ht
  have bw : bxW z T ((xcZ m : Int) - 1) mm (mm, mm, [], false) = bxL z T t.length (xcZ l) (mm, mm, [], false) := bw
  have kF := hk 100 [] hG (by show 0 + 4 * (21 - lv).toNat ≤ 100; omega)
  unfold exD
  rw [bw]
  rcases fx_run H P E hh.n hG hx hb hr t k14 (by rw [← ht]; exact hm) with ⟨b, er⟩ | ⟨σ', r1, b1, x1, er, F, f1, v1⟩
  · exact Or.inl ⟨b, by rw [if_pos er]⟩
  · rw [← ht] at r1 f1
    have F0 := mkp_un f1 kF
    subst F0
    obtain ⟨F', f1', f2', _⟩ := ex_run H (mm := mm) (er := false) hh.n hG t (by rw [← ht]; exact hm)
    rw [← ht] at f1'
    have F0 := mkp_un f1' kF
    subst F0
    refine Or.inr ⟨σ', _, if_neg (by rw [er]; decide), r1, b1, x1, ?_⟩
    rw [f2'.1] at v1
    exact v1
end

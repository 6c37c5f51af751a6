/-! SURELY assigned, as the class goes, is what the function of y20 says: rows, loops, switch, try -/
section
variable {N : Int → Int} {z : ZS} {T : TbT} {a lv t : Int} {j k : Nat} {l : List ItZ} {q : Ps} {St : SsT} {Rw : RsT}
/-- an S, out of its inside -/
theorem as_S {hi : Nat} (h : AsI N z T a j hi) (hl : lvS z j ≤ 20) (hj : j < hi) {f f' : Nat} {g : GzA} {m : Int64} {R : ReG} (hf : 2 * (hi - j) ≤ f + 1) (hf' : 2 * (hi - j) ≤ f' + 1) (K : KrD z a j hi) (hF : FrAd j hi g) (hd : (dF N z T f).2.2 j true m = some R) : AsO z a j hi g R ((asF N z T f').2.2 j m g) ∧ ((asF N z T f').2.2 j m g).2.2.1 j = R.2.1 := by
  obtain ⟨f, rfl⟩ : ∃ k, f = k + 1 := ⟨f - 1, by omega⟩
  obtain ⟨f', rfl⟩ : ∃ k, f' = k + 1 := ⟨f' - 1, by omega⟩
  rw [d_st, d_t] at hd
  obtain ⟨R1, d, rfl⟩ := omap hd
  obtain ⟨c1, c2, c3, c4⟩ := h f f' g m R1 (by omega) (by omega) K hF d
  rw [as_st]
  unfold stA
  rw [if_pos hl]
  refine ⟨⟨c1, ?_, ?_⟩, ?_⟩
  · show UaD z a j hi g (gaH j (inA (asF N z T f') N z T j m (gaB j m g)).1 (inA (asF N z T f') N z T j m (gaB j m g)).2) R1.2.2.1
    rw [c1]
    exact c2
  · exact LgA.co c3 hj c4
  · show upN (inA (asF N z T f') N z T j m (gaB j m g)).2.2.1 j (inA (asF N z T f') N z T j m (gaB j m g)).1 j = R1.2.1
    unfold upN
    rw [if_pos rfl]
    exact c1
/-- one more in front of a row -/
theorem as_cons {p1 hi : Nat} {L : List Nat} (e2 : njS z j = hdI L) (s1 : j < p1) (i1 : p1 ≤ hi) (K : KrW z a j hi) {f f' : Nat} {g : GzA} {al : Bool} {m : Int64} {R : ReG} (hf : 2 * (hi - j) ≤ f) (hf' : 2 * (hi - j) ≤ f') (h : (dF N z T f).1 ((j : Nat) : Int) al m = some R)
    (hS : ∀ (f f' : Nat) (R1 : ReG), 2 * (p1 - j) ≤ f + 1 → 2 * (p1 - j) ≤ f' + 1 → (dF N z T f).2.2 j true m = some R1 → AsO z a j p1 g R1 ((asF N z T f').2.2 j m g))
    (hL : ∀ (f f' : Nat) (g' : GzA) (al : Bool) (m' : Int64) (R2 : ReG) (J : List JmZ), UaD z a j p1 g g' J → 2 * (hi - p1) ≤ f → 2 * (hi - p1) ≤ f' → (dF N z T f).1 (hdI L) al m' = some R2 → AsO z a p1 hi g' R2 ((asF N z T f').1 (hdI L) m' g')) : AsO z a j hi g R ((asF N z T f').1 ((j : Nat) : Int) m g) := by
  obtain ⟨f, rfl⟩ : ∃ k, f = k + 1 := ⟨f - 1, by omega⟩
  obtain ⟨f', rfl⟩ : ∃ k, f' = k + 1 := ⟨f' - 1, by omega⟩
  rw [d_r1, e2] at h
  obtain ⟨R1, g1, h⟩ := obind h
  obtain ⟨R2, g2, rfl⟩ := omap h
  have alt : al = true := by
    cases al
    · rw [d_fa (by omega)] at g1
      cases g1
    · rfl
  subst alt
  obtain ⟨u1, u2, u3⟩ := hS f f' R1 (by omega) (by omega) g1
  rw [as_r1, e2, u1]
  generalize (asF N z T f').2.2 j m g = o1 at u1 u2 u3 ⊢
  obtain ⟨v1, v2, v3⟩ := hL f f' o1.2 R1.1 R1.2.1 R2 _ u2 (by omega) (by omega) g2
  refine ⟨v1, ?_, ?_⟩
  · exact (u2.wd (Nat.le_refl _) i1).tr (v2.wd (Nat.le_of_lt s1) (Nat.le_refl _)) K.2.2.1
  · exact ((u3.fr (fun i a b => (v2.1 i (by omega)).1)).wd (Nat.le_refl _) i1).ap (v3.wd (Nat.le_of_lt s1) (Nat.le_refl _))
theorem as_nil {lo hi : Nat} {f f' : Nat} {g : GzA} {al : Bool} {m : Int64} {R : ReG} (h : (dF N z T f).1 (-1) al m = some R) : AsO z a lo hi g R ((asF N z T f').1 (-1) m g) := by
  rw [d_r0 (by decide)] at h
  cases h
  rw [as_r0 (by decide)]
  exact ⟨rfl, UaD.rf, LgA.nil⟩
/-- rows -/
theorem as_row (hS : AsSo N z T St) : AsRo N z T (RwD St z lv) := by
  intro a L
  induction L with
  | nil =>
    intro p q h
    rw [show q = p from h]
    exact ⟨Nat.le_refl _, fun f f' g al m R _ _ _ _ h => as_nil h⟩
  | cons j L ih =>
    intro p q ⟨e1, e2, p1, h1, h2⟩
    obtain ⟨i1, i2⟩ := ih p1 q h2
    rcases h1 with ⟨e, _⟩ | h1
    · exact absurd e (by decide)
    · obtain ⟨s1, s2⟩ := hS _ _ _ h1
      subst e1
      exact ⟨by omega, fun f f' g al m R hf hf' K hF h => as_cons e2 s1 i1 K hf hf' h (fun f f' R1 c c' d => s2 f f' g m R1 c c' (K.hd i1 s1) (hF.wd (Nat.le_refl _) i1) d) (fun f f' g' al m' R2 J u c c' d => i2 f f' g' al m' R2 c c' (K.nx (Nat.le_of_lt s1)) (hF.nx u (Nat.le_of_lt s1)) d)⟩
/-- exps of for -/
theorem as_fx (hl : lv ≤ 20) : ∀ (L : List Nat) (p q : Ps), FxD z lv a L p q → p.1 ≤ q.1 ∧ ∀ (f f' : Nat) (g : GzA) (al : Bool) (m : Int64) (R : ReG), 2 * (q.1 - p.1) ≤ f → 2 * (q.1 - p.1) ≤ f' → KrW z a p.1 q.1 → FrAd p.1 q.1 g → (dF N z T f).1 (hdI L) al m = some R → AsO z a p.1 q.1 g R ((asF N z T f').1 (hdI L) m g) ∧ R.2.2.1 = [] := by
  intro L
  induction L with
  | nil =>
    intro p q h
    rw [show q = p from h]
    refine ⟨Nat.le_refl _, fun f f' g al m R _ _ _ _ h => ⟨as_nil h, ?_⟩⟩
    rw [show hdI [] = -1 from rfl, d_r0 (by decide)] at h
    cases h
    rfl
  | cons j L ih =>
    intro p q ⟨e1, e2, t, m0, r0, D, _, h2⟩
    obtain ⟨i1, i2⟩ := ih _ q h2
    have i1 : p.1 + 1 ≤ q.1 := i1
    subst e1
    have ek := D.kj
    refine ⟨by omega, fun f f' g al m R hf hf' K hF h => ?_⟩
    have jt : ∀ (f : Nat) (R1 : ReG), 1 ≤ f → (dF N z T f).2.2 p.1 true m = some R1 → R1.2.2.1 = [] := fun f R1 c d => by
      obtain ⟨f, rfl⟩ : ∃ k, f = k + 1 := ⟨f - 1, by omega⟩
      rw [d_st, d_t] at d
      obtain ⟨R3, d2, rfl⟩ := omap d
      rw [i_90 (Or.inr ek)] at d2
      obtain ⟨e, _, rfl⟩ := omap d2
      rfl
    refine ⟨as_cons e2 (Nat.lt_succ_self _) i1 K hf hf' h (fun f f' R1 c c' d => ((as_S (as_lf (by omega)) (by rw [D.lev]; exact hl) (Nat.lt_succ_self _) c c' (K.hd i1 (Nat.lt_succ_self _)) (hF.wd (Nat.le_refl _) i1) d).1)) (fun f f' g' al m' R2 J u c c' d => (i2 f f' g' al m' R2 c c' (K.nx (Nat.le_succ _)) (hF.nx u (Nat.le_succ _)) d).1), ?_⟩
    obtain ⟨f, rfl⟩ : ∃ k, f = k + 1 := ⟨f - 1, by omega⟩
    rw [show hdI (p.1 :: L) = (p.1 : Int) from rfl, d_r1, e2] at h
    obtain ⟨R1, g1, h⟩ := obind h
    obtain ⟨R2, g2, rfl⟩ := omap h
    have alt : al = true := by
      cases al
      · rw [d_fa (by omega)] at g1
        cases g1
      · rfl
    subst alt
    -- jumps: none
    have j2 : R2.2.2.1 = [] := by
      by_cases c : 2 * (q.1 - (p.1 + 1)) ≤ f
      · exact (i2 f f' ((asF N z T f').2.2 p.1 m g).2 R1.1 R1.2.1 R2 c (by omega) (K.nx (Nat.le_succ _)) (hF.nx ((as_S (as_lf (a := a) (N := N) (T := T) (by omega)) (by rw [D.lev]; exact hl) (Nat.lt_succ_self _) (by omega) (by omega) (K.hd i1 (Nat.lt_succ_self _)) (hF.wd (Nat.le_refl _) i1) g1).1.2.1) (Nat.le_succ _)) g2).2
      · omega
    show R1.2.2.1 ++ R2.2.2.1 = []
    rw [jt f R1 (by omega) g1, j2]
    rfl
/-- what stands ahead in for -/
theorem as_fi (hl : lv ≤ 20) {o : Int} {p q : Ps} (h : FiD z lv j o p q) {f f' : Nat} {g : GzA} {m : Int64} {R : ReG} (hf : 2 * (q.1 - p.1) ≤ f) (hf' : 2 * (q.1 - p.1) ≤ f') (K : KrW z (j : Int) p.1 q.1) (hF : FrAd p.1 q.1 g) (hd : (dF N z T f).1 o true m = some R) : AsO z (j : Int) p.1 q.1 g R ((asF N z T f').1 o m g) ∧ R.2.2.1 = [] := by
  rcases h with ⟨rfl, rfl⟩ | ⟨rfl, t, m0, ⟨v, t2, _, hv⟩, hn, rfl⟩ | ⟨L, rfl, _, h⟩
  · refine ⟨as_nil hd, ?_⟩
    rw [d_r0 (by decide)] at hd
    cases hd
    rfl
  · have D : kjS z p.1 = 93 ∧ lvS z p.1 = lv := by
      rcases hv with ⟨D, _⟩ | ⟨_, _, _, _, D, _⟩
      · exact ⟨D.kj, D.lev⟩
      · exact ⟨D.kj, D.lev⟩
    have K : KrW z (j : Int) p.1 (p.1 + 1) := K
    have hF : FrAd p.1 (p.1 + 1) g := hF
    have hf : 2 * (p.1 + 1 - p.1) ≤ f := hf
    have hf' : 2 * (p.1 + 1 - p.1) ≤ f' := hf'
    refine ⟨as_cons (L := []) hn (Nat.lt_succ_self _) (Nat.le_refl _) K hf hf' hd (fun f f' R1 c c' d => ((as_S (as_lf (by omega)) (by rw [D.2]; exact hl) (Nat.lt_succ_self _) c c' (K.hd (Nat.le_refl _) (Nat.lt_succ_self _)) hF d).1)) (fun f f' g' al m' R2 J u c c' d => as_nil d), ?_⟩
    obtain ⟨f, rfl⟩ : ∃ k, f = k + 1 := ⟨f - 1, by omega⟩
    rw [d_r1, hn] at hd
    obtain ⟨R1, g1, hd⟩ := obind hd
    obtain ⟨R2, g2, rfl⟩ := omap hd
    rw [d_r0 (by decide)] at g2
    cases g2
    obtain ⟨f, rfl⟩ : ∃ k, f = k + 1 := ⟨f - 1, by omega⟩
    rw [d_st, d_t] at g1
    obtain ⟨R3, d, rfl⟩ := omap g1
    rw [i_91 (Or.inr D.1)] at d
    unfold tdD at d
    split at d
    · cases d; rfl
    · obtain ⟨e, _, rfl⟩ := omap d
      rfl
  · exact (as_fx hl L p q h).2 f f' g true m R hf hf' K hF hd
theorem as_wh (hS : AsSo N z T St) {p : Nat × List ItZ} {q1 : Ps} (hs : St j (j + 1, p) q1) (hk : kjS z j = 58) (hpa : paS z j = a) (hb : bjS z j = ((j + 1 : Nat) : Int)) : AsI N z T a j q1.1 := by
  intro f f' g m R hf hf' K hF h
  obtain ⟨s1, s2⟩ := hS _ _ _ hs
  have s1 : j + 1 < q1.1 := s1
  rw [i_58 (Or.inl hk)] at h
  rw [ia_58 (Or.inl hk)]
  unfold whD' at h
  rw [if_neg (by omega)] at h
  have h : (exD z T (xjS z j) m).bind (fun e => (bdD (dF N z T f) z j (!(alwT z T j 0)) e.1).bind (fun r => (if kjS z j = 60 then (dF N z T f).1 (gjS z j) true (r.2.1 &&& cmB j true r.2.2.1) else some (true, m, [], [])).map (fun u => (!(alwT z T j 1) || cmA j false r.2.2.1, (if xjS z j < 0 then allB else e.2) &&& cmB j false r.2.2.1, cmR j false (cmR j true r.2.2.1), r.2.2.2)))) = some R := h
  obtain ⟨e, he, h⟩ := obind h
  rw [bdD_e hb] at h
  obtain ⟨R1, h1, h⟩ := obind h
  obtain ⟨u, _, rfl⟩ := omap h
  have al : alwT z T j 0 = false := by
    cases g : alwT z T j 0
    · rfl
    · rw [g] at h1
      have h1 : (dF N z T f).2.2 (j + 1) false e.1 = some R1 := h1
      rw [d_fa (by omega)] at h1
      cases h1
  rw [al] at h1
  have fj := fac_in (z := z) (j := j) (by omega) hpa K.2.2.2.1
  obtain ⟨g0, x1, x2, x3, x4, x5, x6, x7⟩ := as_ex (g := gaB j m g) he
  unfold whA
  rw [if_neg (show ¬ kjS z j = 60 by omega)]
  dsimp only
  rw [x1]
  dsimp only
  rw [x2, bdA_e hb, if_neg (show ¬ kjS z j = 60 by omega), x3]
  obtain ⟨g1, g2, g3⟩ := s2 f f' g0 e.1 R1 (by show 2 * (q1.1 - (j + 1)) ≤ f + 1; omega) (by show 2 * (q1.1 - (j + 1)) ≤ f' + 1; omega) (K.in_ (by omega) hpa (Nat.lt_succ_self _) (Nat.le_refl _) s1) ((hF.wd (Nat.le_succ _) (Nat.le_refl _)).c x6 x7) h1
  have g2 : UaD z (j : Int) (j + 1) q1.1 (gaB j m g) ((asF N z T f').2.2 (j + 1) e.1 g0).2 R1.2.2.1 := (x4 _ _ _).tr g2 fj
  have jj := ua_j g2 (Nat.lt_succ_self _) (hF j (Nat.le_refl _) (by omega))
  refine ⟨?_, ?_, g3, (g2.1 j (by omega)).1.trans ga_bj⟩
  · rw [jj.1]
  · exact g2.up K.2.2.2.2 (Nat.lt_succ_self _) (Nat.le_of_lt s1) (by have := K.1; omega) (by omega) hpa (fun i o hi => (cmP_ne (fun q => by have := q.1; omega)).trans (cmP_ne (fun q => by have := q.1; omega)))
theorem fx_kd : ∀ {L : List Nat} {p q : Ps}, FxD z lv a L p q → ∀ i, p.1 ≤ i → i < q.1 → kjS z i = 94 := by
  intro L
  induction L with
  | nil => intro p q h i c1 c2; rw [show q = p from h] at c2; omega
  | cons j L ih =>
    intro p q ⟨e1, _, t, m, r, D, _, h⟩ i c1 c2
    by_cases c : i = p.1
    · rw [c]; exact e1 ▸ D.kj
    · exact ih h i (by show p.1 + 1 ≤ i; omega) c2
theorem as_fo (hp : ∀ i, i < snM z → paS z i < (i : Int)) (hS : AsSo N z T St) (hT : JtSo N z T St) (hl : lv ≤ 20) {p1 : Nat × List ItZ} {q1 q3 q4 : Ps} {p3 p4 : Nat × List ItZ} {o gg : Int} {L : List Nat} (h1 : FiD z lv j o (j + 1, p1) q1) (h3 : FxD z lv (j : Int) L (q1.1, p3) q3) (hs : St j (q3.1, p4) q4) (hgL : gg = hdI L) (hk : kjS z j = 60) (hpa : paS z j = a) (hb : bjS z j = (q3.1 : Int)) (ho : ojS z j = o) (hg : gjS z j = gg) : AsI N z T a j q4.1 := by
  intro f f' g m R hf hf' K hF h
  obtain ⟨s1, s2⟩ := hS _ _ _ hs
  have s1 : q3.1 < q4.1 := s1
  have l1 : j + 1 ≤ q1.1 := fi_le h1
  have l3 := fx_le h3
  have l3 : q1.1 ≤ q3.1 := l3
  rw [i_58 (Or.inr hk)] at h
  rw [ia_58 (Or.inr hk)]
  unfold whD' at h
  rw [if_pos hk, ho, hg, hgL] at h
  obtain ⟨I, hi, h⟩ := obind h
  obtain ⟨e, he, h⟩ := obind h
  rw [bdD_e hb] at h
  obtain ⟨R1, h1', h⟩ := obind h
  rw [if_pos hk] at h
  obtain ⟨u, hu, rfl⟩ := omap h
  have al : alwT z T j 0 = false := by
    cases g : alwT z T j 0
    · rfl
    · rw [g] at h1'
      have h1' : (dF N z T f).2.2 q3.1 false e.1 = some R1 := h1'
      rw [d_fa (by omega)] at h1'
      cases h1'
  rw [al] at h1'
  have fj := fac_in (z := z) (j := j) (by omega) hpa K.2.2.2.1
  have KW : ∀ lo hi', j < lo → hi' ≤ q4.1 → KrW z (j : Int) lo hi' := fun lo hi' c1 c2 => K.iw (by omega) hpa c1 c2
  obtain ⟨⟨a1, a2, a3⟩, a4⟩ := as_fi (N := N) (T := T) (g := gaB j m g) hl h1 (by show 2 * (q1.1 - (j + 1)) ≤ f; omega) (by show 2 * (q1.1 - (j + 1)) ≤ f'; omega) (KW _ _ (Nat.lt_succ_self _) (by omega)) (hF.wd (Nat.le_succ _) (by omega)) hi
  have a2 : UaD z (j : Int) (j + 1) q1.1 (gaB j m g) ((asF N z T f').1 o m (gaB j m g)).2 I.2.2.1 := a2
  unfold whA
  rw [if_pos hk, ho, hg, hgL]
  dsimp only
  generalize (asF N z T f').1 o m (gaB j m g) = oi at a1 a2 a3 ⊢
  rw [a1]
  obtain ⟨g0, x1, x2, x3, x4, x5, x6, x7⟩ := as_ex (g := oi.2) he
  rw [x1]
  dsimp only
  rw [x2, bdA_e hb, if_pos hk, x3]
  have fr1 : FrAd q1.1 q4.1 oi.2 := ((hF.wd (Nat.le_succ _) (Nat.le_refl _)).b (j := j) (m := m)).nx a2 l1
  obtain ⟨g1, g2, g3⟩ := s2 f f' g0 e.1 R1 (by show 2 * (q4.1 - q3.1) ≤ f + 1; omega) (by show 2 * (q4.1 - q3.1) ≤ f' + 1; omega) (K.in_ (by omega) hpa (by show j < q3.1; omega) (Nat.le_refl _) s1) ((fr1.wd l3 (Nat.le_refl _)).c x6 x7) h1'
  have g1 : ((asF N z T f').2.2 q3.1 e.1 g0).1 = R1.2.1 := g1
  have g2 : UaD z (j : Int) q3.1 q4.1 g0 ((asF N z T f').2.2 q3.1 e.1 g0).2 R1.2.2.1 := g2
  have g3 : LgA z q3.1 q4.1 ((asF N z T f').2.2 q3.1 e.1 g0).2 R1.2.2.2 := g3
  rw [a4] at a2
  have t1 : UaD z (j : Int) (j + 1) q4.1 (gaB j m g) ((asF N z T f').2.2 q3.1 e.1 g0).2 (([] ++ []) ++ R1.2.2.1) := ((a2.wd (Nat.le_refl _) (by omega)).tr (x4 _ _ _) fj).tr (g2.wd (by omega) (Nat.le_refl _)) fj
  have t1 : UaD z (j : Int) (j + 1) q4.1 (gaB j m g) ((asF N z T f').2.2 q3.1 e.1 g0).2 R1.2.2.1 := t1
  have jj := ua_j t1 (Nat.lt_succ_self _) (hF j (Nat.le_refl _) (by omega))
  have nx : ∀ i, q1.1 ≤ i → i < q3.1 → ((asF N z T f').2.2 q3.1 e.1 g0).2.2.2.1 i = allB ∧ ((asF N z T f').2.2 q3.1 e.1 g0).2.2.2.2.1 i = allB := fun i c1 c2 => by
    have w := g2.2.2.1 i c2
    have ek := fx_kd h3 i c1 c2
    have jt := (((hT _ _ _ hs).2 f e.1 R1 (by show 2 * (q4.1 - q3.1) ≤ f + 1; omega) (by show (j : Int) < ((q3.1 : Nat) : Int); omega) K.1 h1')).1
    have n : ∀ x ∈ R1.2.2.1, ¬ x.1 = (i : Int) := fun x hx ex => by
      rcases jt x hx with c | ⟨k, c⟩
      · omega
      · have kz := K.1
        have r := ch_le hp c (by omega)
        have e5 : (i : Int) = (j : Int) + 1 := by omega
        have lp := r.2 (by omega)
        rw [Int.toNat_natCast, show j + 1 = i by omega] at lp
        unfold LpK at lp
        omega
    rw [w.1, w.2, cmP_0 n, cmP_0 n, an_al, an_al, x6, x7]
    exact fr1 i c1 (by omega)
  generalize (asF N z T f').2.2 q3.1 e.1 g0 = o1 at g1 g2 g3 t1 jj nx ⊢
  rw [g1, jj.2]
  obtain ⟨⟨b1, b2, b3⟩, b4⟩ := (as_fx (N := N) (T := T) hl L _ _ h3).2 f f' o1.2 true (R1.2.1 &&& cmB j true R1.2.2.1) u (by show 2 * (q3.1 - q1.1) ≤ f; omega) (by show 2 * (q3.1 - q1.1) ≤ f'; omega) (KW _ _ (by show j < q1.1; omega) (by omega)) nx hu
  have b2 : UaD z (j : Int) q1.1 q3.1 o1.2 ((asF N z T f').1 (hdI L) (R1.2.1 &&& cmB j true R1.2.2.1) o1.2).2 u.2.2.1 := b2
  rw [b4] at b2
  generalize (asF N z T f').1 (hdI L) (R1.2.1 &&& cmB j true R1.2.2.1) o1.2 = o2 at b1 b2 b3 ⊢
  have t2 : UaD z (j : Int) (j + 1) q4.1 (gaB j m g) o2.2 (R1.2.2.1 ++ []) := t1.tr (b2.wd (by omega) (by omega)) fj
  rw [List.append_nil] at t2
  have jj2 := ua_j t2 (Nat.lt_succ_self _) (hF j (Nat.le_refl _) (by omega))
  refine ⟨?_, ?_, ((g3.fr (fun i c1 c2 => (b2.1 i (by omega)).1)).wd (by omega) (Nat.le_refl _)), (t2.1 j (by omega)).1.trans ga_bj⟩
  · rw [jj2.1]
  · exact t2.up K.2.2.2.2 (Nat.lt_succ_self _) (by omega) (by have := K.1; omega) (by omega) hpa (fun i o hi => (cmP_ne (fun q => by have := q.1; omega)).trans (cmP_ne (fun q => by have := q.1; omega)))
end

/-! SURELY assigned, as the class goes, is what the function of y20 says: by kinds -/
def AsO (z : ZS) (a : Int) (lo hi : Nat) (g : GzA) (R : ReG) (o : Int64 × GzA) : Prop := o.1 = R.2.1 ∧ UaD z a lo hi g o.2 R.2.2.1 ∧ LgA z lo hi o.2 R.2.2.2
abbrev AsSo (N : Int → Int) (z : ZS) (T : TbT) (St : SsT) : Prop := ∀ a p q, St a p q → p.1 < q.1 ∧ ∀ (f f' : Nat) (g : GzA) (m : Int64) (R : ReG), 2 * (q.1 - p.1) ≤ f + 1 → 2 * (q.1 - p.1) ≤ f' + 1 → KrD z a p.1 q.1 → FrAd p.1 q.1 g → (dF N z T f).2.2 p.1 true m = some R → AsO z a p.1 q.1 g R ((asF N z T f').2.2 p.1 m g)
abbrev AsRo (N : Int → Int) (z : ZS) (T : TbT) (Rw : RsT) : Prop := ∀ a L p q, Rw 0 0 a L p q → p.1 ≤ q.1 ∧ ∀ (f f' : Nat) (g : GzA) (al : Bool) (m : Int64) (R : ReG), 2 * (q.1 - p.1) ≤ f → 2 * (q.1 - p.1) ≤ f' → KrW z a p.1 q.1 → FrAd p.1 q.1 g → (dF N z T f).1 (hdI L) al m = some R → AsO z a p.1 q.1 g R ((asF N z T f').1 (hdI L) m g)
def AsI (N : Int → Int) (z : ZS) (T : TbT) (a : Int) (j hi : Nat) : Prop := ∀ (f f' : Nat) (g : GzA) (m : Int64) (R : ReG), 2 * (hi - j) ≤ f + 2 → 2 * (hi - j) ≤ f' + 2 → KrD z a j hi → FrAd j hi g → inD' (dF N z T f) N z T j m = some R → (inA (asF N z T f') N z T j m (gaB j m g)).1 = R.2.1 ∧ UaD z a j hi g (gaH j R.2.1 (inA (asF N z T f') N z T j m (gaB j m g)).2) R.2.2.1 ∧ LgA z (j + 1) hi (inA (asF N z T f') N z T j m (gaB j m g)).2 R.2.2.2 ∧ (inA (asF N z T f') N z T j m (gaB j m g)).2.1 j = m
section
variable {N : Int → Int} {z : ZS} {T : TbT} {F : AsT} {j : Nat} {m : Int64} {g : GzA}
theorem ia_2 (h : kjS z j = 2 ∨ kjS z j = 92) : inA F N z T j m g = F.1 (bjS z j) m g := by unfold inA; rw [if_pos h]
theorem ia_91 (h : kjS z j = 91 ∨ kjS z j = 93) : inA F N z T j m g = tdA z T j m g := by unfold inA; rw [if_neg (by omega), if_pos h]
theorem ia_90 (h : kjS z j = 90 ∨ kjS z j = 94) : inA F N z T j m g = exB z T (xjS z j) m g := by unfold inA; rw [if_neg (by omega), if_neg (by omega), if_pos h]
theorem ia_66 (h : kjS z j = 66 ∨ kjS z j = 67) : inA F N z T j m g = (allB, (exB z T (xjS z j) m g).2) := by unfold inA; rw [if_neg (by omega), if_neg (by omega), if_neg (by omega), if_pos h]
theorem ia_64 (h : kjS z j = 64 ∨ kjS z j = 65) : inA F N z T j m g = (allB, ldT N z j m g) := by unfold inA; rw [if_neg (by omega), if_neg (by omega), if_neg (by omega), if_neg (by omega), if_pos h]
theorem ia_6 (h : kjS z j = 6) : inA F N z T j m g = laA F z j m g := by unfold inA; rw [if_neg (by omega), if_neg (by omega), if_neg (by omega), if_neg (by omega), if_neg (by omega), if_pos h]
theorem ia_56 (h : kjS z j = 56) : inA F N z T j m g = ifA F z T j m g := by unfold inA; rw [if_neg (by omega), if_neg (by omega), if_neg (by omega), if_neg (by omega), if_neg (by omega), if_neg (by omega), if_pos h]
theorem ia_59 (h : kjS z j = 59) : inA F N z T j m g = doA F z T j m g := by unfold inA; rw [if_neg (by omega), if_neg (by omega), if_neg (by omega), if_neg (by omega), if_neg (by omega), if_neg (by omega), if_neg (by omega), if_pos h]
theorem ia_58 (h : kjS z j = 58 ∨ kjS z j = 60) : inA F N z T j m g = whA F z T j m g := by unfold inA; rw [if_neg (by omega), if_neg (by omega), if_neg (by omega), if_neg (by omega), if_neg (by omega), if_neg (by omega), if_neg (by omega), if_neg (by omega), if_pos h]
theorem ia_61 (h : kjS z j = 61) : inA F N z T j m g = swA F z T j m g := by unfold inA; rw [if_neg (by omega), if_neg (by omega), if_neg (by omega), if_neg (by omega), if_neg (by omega), if_neg (by omega), if_neg (by omega), if_neg (by omega), if_neg (by omega), if_pos h]
theorem ia_68 (h : kjS z j = 68) : inA F N z T j m g = tyA F z j m g := by unfold inA; rw [if_neg (by omega), if_neg (by omega), if_neg (by omega), if_neg (by omega), if_neg (by omega), if_neg (by omega), if_neg (by omega), if_neg (by omega), if_neg (by omega), if_neg (by omega), if_pos h]
theorem ia_4 (h : kjS z j = 4) : inA F N z T j m g = (m, g) := by unfold inA; rw [if_neg (by omega), if_neg (by omega), if_neg (by omega), if_neg (by omega), if_neg (by omega), if_neg (by omega), if_neg (by omega), if_neg (by omega), if_neg (by omega), if_neg (by omega), if_neg (by omega)]
/-- an exp -/
theorem exb_s {x : Int} {e : Int64 × Int64} (h : exD z T x m = some e) : (exB z T x m g).1 = e.1 &&& e.2 ∧ (exB z T x m g).2.2.2.2.2.1 = e.1 ∧ (exB z T x m g).2.2.2.2.2.2.1 = e.2 ∧ (exB z T x m g).2 = gaW (bxW z T x m g.2.2.2.2) g ∧ (bxW z T x m g.2.2.2.2).2.2.2 = g.2.2.2.2.2.2.2 := by
  obtain ⟨h1, h2, h3⟩ := ex_some (w := g.2.2.2.2) h
  refine ⟨?_, h1, h2, rfl, h3⟩
  show (bxW z T x m g.2.2.2.2).1 &&& (bxW z T x m g.2.2.2.2).2.1 = _
  rw [h1, h2]
theorem ga_bj : (gaB j m g).1 j = m := if_pos rfl
end
section
variable {N : Int → Int} {z : ZS} {T : TbT} {a lv t : Int} {j k : Nat} {l : List ItZ} {q : Ps} {St : SsT} {Rw : RsT}
theorem ua_leaf {g : GzA} {m e : Int64} {w : WzS} (hw : w.2.2.2 = g.2.2.2.2.2.2.2) : UaD z a j (j + 1) g (gaH j e (gaW w (gaB j m g))) [] := ((UaD.rf.b (Nat.le_refl _) (Nat.lt_succ_self _)).w hw).h (Nat.le_refl _) (Nat.lt_succ_self _)
theorem ua_leaf0 {g : GzA} {m e : Int64} : UaD z a j (j + 1) g (gaH j e (gaB j m g)) [] := (UaD.rf.b (Nat.le_refl _) (Nat.lt_succ_self _)).h (Nat.le_refl _) (Nat.lt_succ_self _)
theorem as_lf (hk : kjS z j = 90 ∨ kjS z j = 94 ∨ kjS z j = 91 ∨ kjS z j = 93 ∨ kjS z j = 4 ∨ kjS z j = 66 ∨ kjS z j = 67) : AsI N z T a j (j + 1) := by
  intro f f' g m R hf hf' K hF h
  by_cases c1 : kjS z j = 90 ∨ kjS z j = 94
  · rw [i_90 c1] at h
    rw [ia_90 c1]
    obtain ⟨e, he, rfl⟩ := omap h
    obtain ⟨x1, x2, x3, x4, x5⟩ := exb_s (g := gaB j m g) he
    rw [x4]
    exact ⟨x1, ua_leaf x5, LgA.nil, ga_bj⟩
  · by_cases c2 : kjS z j = 91 ∨ kjS z j = 93
    · rw [i_91 c2] at h
      rw [ia_91 c2]
      unfold tdD at h
      unfold tdA
      by_cases c : xjS z j < 0
      · rw [if_pos c] at h ⊢
        cases h
        exact ⟨rfl, ua_leaf0, LgA.nil, ga_bj⟩
      · rw [if_neg c] at h ⊢
        obtain ⟨e, he, rfl⟩ := omap h
        obtain ⟨x1, x2, x3, x4, x5⟩ := exb_s (g := gaB j m g) he
        dsimp only
        rw [x4, x1]
        exact ⟨rfl, ua_leaf x5, LgA.nil, ga_bj⟩
    · by_cases c3 : kjS z j = 4
      · rw [i_4 c3] at h
        rw [ia_4 c3]
        cases h
        exact ⟨rfl, ua_leaf0, LgA.nil, ga_bj⟩
      · have c4 : kjS z j = 66 ∨ kjS z j = 67 := by omega
        rw [i_66 c4] at h
        rw [ia_66 c4]
        obtain ⟨e, he, rfl⟩ := omap h
        obtain ⟨x1, x2, x3, x4, x5⟩ := exb_s (g := gaB j m g) he
        rw [x4]
        exact ⟨rfl, ua_leaf x5, LgA.nil, ga_bj⟩
theorem as_ju (hk : kjS z j = 64 ∨ kjS z j = 65) (hpa : paS z j = a) (ht : tjT N z j ≤ (j : Int)) : AsI N z T a j (j + 1) := by
  intro f f' g m R hf hf' K hF h
  rw [i_64 hk] at h
  cases h
  rw [ia_64 hk]
  have bf : (ldT N z j m (gaB j m g)).1 = (gaB j m g).1 ∧ (ldT N z j m (gaB j m g)).2.1 = g.2.1 ∧ (ldT N z j m (gaB j m g)).2.2.2.2 = g.2.2.2.2 := by
    unfold ldT
    repeat' split
    all_goals exact ⟨rfl, rfl, rfl⟩
  refine ⟨rfl, ⟨fun i q => ⟨?_, ?_⟩, fun i q => ?_, fun i q => ?_, ?_⟩, LgA.nil, ?_⟩
  · show (ldT N z j m (gaB j m g)).1 i = _
    rw [bf.1]
    exact if_neg (by omega)
  · show upN (ldT N z j m (gaB j m g)).2.1 j allB i = _
    unfold upN
    rw [if_neg (by omega), bf.2.1]
  · show (ldT N z j m (gaB j m g)).2.2.1 i = g.2.2.1 i ∧ (ldT N z j m (gaB j m g)).2.2.2.1 i = g.2.2.2.1 i
    unfold ldT
    split
    · exact ⟨rfl, rfl⟩
    split
    · exact ⟨if_neg (by omega), rfl⟩
    · exact ⟨rfl, if_neg (by omega)⟩
  · show (ldT N z j m (gaB j m g)).2.2.1 i = g.2.2.1 i &&& (if tjT N z j = (i : Int) ∧ decide (kjS z j = 65) = false then ltP z g.2.1 i a m &&& allB else allB) ∧ (ldT N z j m (gaB j m g)).2.2.2.1 i = g.2.2.2.1 i &&& (if tjT N z j = (i : Int) ∧ decide (kjS z j = 65) = true then ltP z g.2.1 i a m &&& allB else allB)
    by_cases e : tjT N z j = (i : Int)
    · have mm : ltM z (gaB j m g).2.1 (i : Int) (snM z) (j : Int) m = ltP z g.2.1 i a m := by
        have r := ltp_in (z := z) (bh := g.2.1) (tg := (i : Int)) (m := m) K.2.2.2.2 (j := j) (by have := K.1; omega) (by omega) (by omega)
        rw [hpa] at r
        exact r
      unfold ldT
      rw [e, Int.toNat_natCast, if_neg (show ¬ ((i : Int) < 0) by omega), mm]
      rcases hk with hk | hk <;> rw [hk] <;> simp [gaK, gaC, upN, gaB, an_al]
    · rw [if_neg (fun z => e z.1), if_neg (fun z => e z.1), an_al, an_al]
      unfold ldT
      split
      · exact ⟨rfl, rfl⟩
      split
      · exact ⟨if_neg (by omega), rfl⟩
      · exact ⟨rfl, if_neg (by omega)⟩
  · show (ldT N z j m (gaB j m g)).2.2.2.2.2.2.2 = _
    rw [bf.2.2]
  · show (ldT N z j m (gaB j m g)).1 j = m
    rw [bf.1]
    exact ga_bj
theorem as_bl (hR : AsRo N z T Rw) {L : List Nat} {p : Nat × List ItZ} (hr : Rw 0 0 j L (j + 1, p) q) (hk : kjS z j = 2) (hpa : paS z j = a) (hb : bjS z j = hdI L) : AsI N z T a j q.1 := by
  intro f f' g m R hf hf' K hF h
  obtain ⟨s1, s2⟩ := hR _ _ _ _ hr
  have s1 : j + 1 ≤ q.1 := s1
  rw [i_2 hk] at h
  rw [ia_2 (Or.inl hk)]
  have h : (dF N z T f).1 (bjS z j) true m = some R := h
  rw [hb] at h
  obtain ⟨g1, g2, g3⟩ := s2 f f' (gaB j m g) true m R (by show 2 * (q.1 - (j + 1)) ≤ f; omega) (by show 2 * (q.1 - (j + 1)) ≤ f'; omega) (K.iw (by omega) hpa (Nat.lt_succ_self _) (Nat.le_refl _)) (hF.wd (Nat.le_succ _) (Nat.le_refl _)) h
  have g2 : UaD z (j : Int) (j + 1) q.1 (gaB j m g) ((asF N z T f').1 (hdI L) m (gaB j m g)).2 R.2.2.1 := g2
  rw [hb]
  exact ⟨g1, g2.up K.2.2.2.2 (Nat.lt_succ_self _) s1 (by have := K.1; omega) (by omega) hpa (fun _ _ _ => rfl), g3, (g2.1 j (by omega)).1.trans ga_bj⟩
theorem bdA_e {F : AsT} {b : Nat} {m : Int64} {g : GzA} (h : bjS z j = (b : Int)) : bdA F z j m g = F.2.2 b m g := by
  unfold bdA
  rw [h, if_neg (by omega), Int.toNat_natCast]
theorem as_la (hS : AsSo N z T St) {p : Nat × List ItZ} {q1 : Ps} (hs : St j (j + 1, p) q1) (hk : kjS z j = 6) (hpa : paS z j = a) (hb : bjS z j = ((j + 1 : Nat) : Int)) : AsI N z T a j q1.1 := by
  intro f f' g m R hf hf' K hF h
  obtain ⟨s1, s2⟩ := hS _ _ _ hs
  have s1 : j + 1 < q1.1 := s1
  rw [i_6 hk] at h
  rw [ia_6 hk]
  unfold laD' at h
  rw [bdD_e hb] at h
  obtain ⟨R1, h1, rfl⟩ := omap h
  obtain ⟨g1, g2, g3⟩ := s2 f f' (gaB j m g) m R1 (by show 2 * (q1.1 - (j + 1)) ≤ f + 1; omega) (by show 2 * (q1.1 - (j + 1)) ≤ f' + 1; omega) (K.in_ (by omega) hpa (Nat.lt_succ_self _) (Nat.le_refl _) s1) (hF.wd (Nat.le_succ _) (Nat.le_refl _)) h1
  have g2 : UaD z (j : Int) (j + 1) q1.1 (gaB j m g) ((asF N z T f').2.2 (j + 1) m (gaB j m g)).2 R1.2.2.1 := g2
  have jj := ua_j g2 (Nat.lt_succ_self _) (hF j (Nat.le_refl _) (by omega))
  unfold laA
  rw [bdA_e hb]
  refine ⟨?_, ?_, g3, (g2.1 j (by omega)).1.trans ga_bj⟩
  · show _ &&& _ = _ &&& _
    rw [g1, jj.1]
  · exact g2.up K.2.2.2.2 (Nat.lt_succ_self _) (Nat.le_of_lt s1) (by have := K.1; omega) (by omega) hpa (fun i o hi => cmP_ne (fun q => by have := q.1; omega))
/-- an exp first -/
theorem as_ex {g : GzA} {m : Int64} {x : Int} {e : Int64 × Int64} (h : exD z T x m = some e) : ∃ g0, exB z T x m g = (e.1 &&& e.2, g0) ∧ g0.2.2.2.2.1 = e.1 ∧ g0.2.2.2.2.2.1 = e.2 ∧ (∀ (a : Int) (lo hi : Nat), UaD z a lo hi g g0 []) ∧ g0.1 = g.1 ∧ g0.2.2.1 = g.2.2.1 ∧ g0.2.2.2.1 = g.2.2.2.1 := by
  obtain ⟨x1, x2, x3, x4, x5⟩ := exb_s (g := g) h
  refine ⟨(exB z T x m g).2, by rw [← x1], x2, x3, fun a lo hi => ?_, ?_, ?_, ?_⟩
  · rw [x4]
    exact UaD.rf.w x5
  · rw [x4]; rfl
  · rw [x4]; rfl
  · rw [x4]; rfl
theorem FrAd.c {lo hi : Nat} {g g0 : GzA} (h : FrAd lo hi g) (e1 : g0.2.2.1 = g.2.2.1) (e2 : g0.2.2.2.1 = g.2.2.2.1) : FrAd lo hi g0 := fun i a b => by rw [e1, e2]; exact h i a b
theorem as_if1 (hS : AsSo N z T St) {p : Nat × List ItZ} {q1 : Ps} (hs : St j (j + 1, p) q1) (hk : kjS z j = 56) (hpa : paS z j = a) (hb : bjS z j = ((j + 1 : Nat) : Int)) (ho : ojS z j = -1) : AsI N z T a j q1.1 := by
  intro f f' g m R hf hf' K hF h
  obtain ⟨s1, s2⟩ := hS _ _ _ hs
  have s1 : j + 1 < q1.1 := s1
  rw [i_56 hk] at h
  rw [ia_56 hk]
  unfold ifD' at h
  obtain ⟨e, he, h⟩ := obind h
  rw [bdD_e hb, ho] at h
  obtain ⟨R1, h1, h⟩ := obind h
  rw [if_pos (by decide)] at h
  cases h
  have fj := fac_in (z := z) (j := j) (by omega) hpa K.2.2.2.1
  obtain ⟨g0, x1, x2, x3, x4, x5, x6, x7⟩ := as_ex (g := gaB j m g) he
  unfold ifA
  rw [x1]
  dsimp only
  rw [x2, x3, bdA_e hb, ho, if_pos (by decide)]
  obtain ⟨g1, g2, g3⟩ := s2 f f' g0 e.1 R1 (by show 2 * (q1.1 - (j + 1)) ≤ f + 1; omega) (by show 2 * (q1.1 - (j + 1)) ≤ f' + 1; omega) (K.in_ (by omega) hpa (Nat.lt_succ_self _) (Nat.le_refl _) s1) ((hF.wd (Nat.le_succ _) (Nat.le_refl _)).c x6 x7) h1
  have g2 : UaD z (j : Int) (j + 1) q1.1 (gaB j m g) ((asF N z T f').2.2 (j + 1) e.1 g0).2 R1.2.2.1 := (x4 _ _ _).tr g2 fj
  have g1 : ((asF N z T f').2.2 (j + 1) e.1 g0).1 = R1.2.1 := g1
  refine ⟨?_, ?_, g3, (g2.1 j (by omega)).1.trans ga_bj⟩
  · show _ &&& _ = _ &&& _
    rw [g1]
  · exact g2.up K.2.2.2.2 (Nat.lt_succ_self _) (Nat.le_of_lt s1) (by have := K.1; omega) (by omega) hpa (fun _ _ _ => rfl)
theorem as_if2 (hS : AsSo N z T St) {p : Nat × List ItZ} {q1 q2 : Ps} {p2 : Nat × List ItZ} (hs : St j (j + 1, p) q1) (hs2 : St j (q1.1, p2) q2) (hk : kjS z j = 56) (hpa : paS z j = a) (hb : bjS z j = ((j + 1 : Nat) : Int)) (ho : ojS z j = (q1.1 : Int)) : AsI N z T a j q2.1 := by
  intro f f' g m R hf hf' K hF h
  obtain ⟨s1, s2⟩ := hS _ _ _ hs
  have s1 : j + 1 < q1.1 := s1
  obtain ⟨u1, u2⟩ := hS _ _ _ hs2
  have u1 : q1.1 < q2.1 := u1
  rw [i_56 hk] at h
  rw [ia_56 hk]
  unfold ifD' at h
  obtain ⟨e, he, h⟩ := obind h
  rw [bdD_e hb, ho] at h
  obtain ⟨R1, h1, h⟩ := obind h
  rw [if_neg (by omega), Int.toNat_natCast] at h
  obtain ⟨R2, h2, rfl⟩ := omap h
  have fj := fac_in (z := z) (j := j) (by omega) hpa K.2.2.2.1
  obtain ⟨g0, x1, x2, x3, x4, x5, x6, x7⟩ := as_ex (g := gaB j m g) he
  unfold ifA
  rw [x1]
  dsimp only
  rw [x2, x3, bdA_e hb, ho, if_neg (by omega), Int.toNat_natCast]
  obtain ⟨g1, g2, g3⟩ := s2 f f' g0 e.1 R1 (by show 2 * (q1.1 - (j + 1)) ≤ f + 1; omega) (by show 2 * (q1.1 - (j + 1)) ≤ f' + 1; omega) (K.in_ (by omega) hpa (Nat.lt_succ_self _) (Nat.le_of_lt u1) s1) ((hF.wd (Nat.le_succ _) (Nat.le_of_lt u1)).c x6 x7) h1
  have g1 : ((asF N z T f').2.2 (j + 1) e.1 g0).1 = R1.2.1 := g1
  have g2' : UaD z (j : Int) (j + 1) q1.1 g0 ((asF N z T f').2.2 (j + 1) e.1 g0).2 R1.2.2.1 := g2
  have g3 : LgA z (j + 1) q1.1 ((asF N z T f').2.2 (j + 1) e.1 g0).2 R1.2.2.2 := g3
  generalize (asF N z T f').2.2 (j + 1) e.1 g0 = o1 at g1 g2' g3 ⊢
  obtain ⟨w1, w2, w3⟩ := u2 f f' o1.2 e.2 R2 (by show 2 * (q2.1 - q1.1) ≤ f + 1; omega) (by show 2 * (q2.1 - q1.1) ≤ f' + 1; omega) (K.in_ (by omega) hpa (by show j < q1.1; omega) (Nat.le_refl _) u1) (((hF.wd (Nat.le_succ _) (Nat.le_refl _)).c x6 x7).nx g2' (by omega)) h2
  have w1 : ((asF N z T f').2.2 q1.1 e.2 o1.2).1 = R2.2.1 := w1
  have w2 : UaD z (j : Int) q1.1 q2.1 o1.2 ((asF N z T f').2.2 q1.1 e.2 o1.2).2 R2.2.2.1 := w2
  have w3 : LgA z q1.1 q2.1 ((asF N z T f').2.2 q1.1 e.2 o1.2).2 R2.2.2.2 := w3
  generalize (asF N z T f').2.2 q1.1 e.2 o1.2 = o2 at w1 w2 w3 ⊢
  have tot : UaD z (j : Int) (j + 1) q2.1 (gaB j m g) o2.2 (R1.2.2.1 ++ R2.2.2.1) := ((x4 _ _ _).tr (g2'.wd (Nat.le_refl _) (Nat.le_of_lt u1)) fj).tr (w2.wd (by omega) (Nat.le_refl _)) fj
  refine ⟨?_, ?_, ?_, (tot.1 j (by omega)).1.trans ga_bj⟩
  · show o1.1 &&& o2.1 = _ &&& _
    rw [g1, w1]
  · exact tot.up K.2.2.2.2 (Nat.lt_succ_self _) (by omega) (by have := K.1; omega) (by omega) hpa (fun _ _ _ => rfl)
  · exact ((g3.fr (fun i a b => (w2.1 i (by omega)).1)).wd (Nat.le_refl _) (Nat.le_of_lt u1)).ap (w3.wd (by omega) (Nat.le_refl _))
theorem as_do (hS : AsSo N z T St) {p : Nat × List ItZ} {q1 : Ps} (hs : St j (j + 1, p) q1) (hk : kjS z j = 59) (hpa : paS z j = a) (hb : bjS z j = ((j + 1 : Nat) : Int)) : AsI N z T a j q1.1 := by
  intro f f' g m R hf hf' K hF h
  obtain ⟨s1, s2⟩ := hS _ _ _ hs
  have s1 : j + 1 < q1.1 := s1
  rw [i_59 hk] at h
  rw [ia_59 hk]
  unfold doD' at h
  rw [bdD_e hb] at h
  obtain ⟨R1, h1, h⟩ := obind h
  obtain ⟨e, he, rfl⟩ := omap h
  have fj := fac_in (z := z) (j := j) (by omega) hpa K.2.2.2.1
  obtain ⟨g1, g2, g3⟩ := s2 f f' (gaB j m g) m R1 (by show 2 * (q1.1 - (j + 1)) ≤ f + 1; omega) (by show 2 * (q1.1 - (j + 1)) ≤ f' + 1; omega) (K.in_ (by omega) hpa (Nat.lt_succ_self _) (Nat.le_refl _) s1) (hF.wd (Nat.le_succ _) (Nat.le_refl _)) h1
  have g1 : ((asF N z T f').2.2 (j + 1) m (gaB j m g)).1 = R1.2.1 := g1
  have g2 : UaD z (j : Int) (j + 1) q1.1 (gaB j m g) ((asF N z T f').2.2 (j + 1) m (gaB j m g)).2 R1.2.2.1 := g2
  have g3 : LgA z (j + 1) q1.1 ((asF N z T f').2.2 (j + 1) m (gaB j m g)).2 R1.2.2.2 := g3
  have jj := ua_j g2 (Nat.lt_succ_self _) (hF j (Nat.le_refl _) (by omega))
  unfold doA
  rw [bdA_e hb]
  dsimp only
  generalize (asF N z T f').2.2 (j + 1) m (gaB j m g) = o1 at g1 g2 g3 jj ⊢
  rw [g1, jj.2]
  obtain ⟨g0, x1, x2, x3, x4, x5, x6, x7⟩ := as_ex (g := o1.2) he
  rw [x1]
  dsimp only
  have tot : UaD z (j : Int) (j + 1) q1.1 (gaB j m g) g0 (R1.2.2.1 ++ []) := g2.tr (x4 _ _ _) fj
  rw [List.append_nil] at tot
  refine ⟨?_, ?_, g3.fr (fun i _ _ => by rw [x5]), (tot.1 j (by omega)).1.trans ga_bj⟩
  · rw [x3, x6, jj.1]
  · exact tot.up K.2.2.2.2 (Nat.lt_succ_self _) (Nat.le_of_lt s1) (by have := K.1; omega) (by omega) hpa (fun i o hi => (cmP_ne (fun q => by have := q.1; omega)).trans (cmP_ne (fun q => by have := q.1; omega)))
end

/-! no ERROR of flow, as the class goes: then the function of y20 tells it -/
abbrev NcSo (N : Int → Int) (z : ZS) (T : TbT) (St : SsT) : Prop := ∀ a p q, St a p q → ∀ (f f' : Nat) (r : RR) (g : GzA) (m : Int64), 2 * (q.1 - p.1) ≤ f + 1 → 2 * (q.1 - p.1) ≤ f' + 1 → KrD z a p.1 q.1 → FrR p.1 q.1 r → FrAd p.1 q.1 g → ((rcF N z T f).2.2 p.1 true r).2.2.2.2 = false → geA ((asF N z T f').2.2 p.1 m g).2 = false → ∃ R, (dF N z T f).2.2 p.1 true m = some R
abbrev NcRo (N : Int → Int) (z : ZS) (T : TbT) (Rw : RsT) : Prop := ∀ a L p q, Rw 0 0 a L p q → ∀ (f f' : Nat) (r : RR) (g : GzA) (al : Bool) (m : Int64), 2 * (q.1 - p.1) ≤ f → 2 * (q.1 - p.1) ≤ f' → KrW z a p.1 q.1 → FrR p.1 q.1 r → FrAd p.1 q.1 g → ((rcF N z T f).1 (hdI L) al r).2.2.2.2 = false → geA ((asF N z T f').1 (hdI L) m g).2 = false → ∃ R, (dF N z T f).1 (hdI L) al m = some R
def NcI (N : Int → Int) (z : ZS) (T : TbT) (a : Int) (j hi : Nat) : Prop := ∀ (f f' : Nat) (r : RR) (g : GzA) (m : Int64), 2 * (hi - j) ≤ f + 2 → 2 * (hi - j) ≤ f' + 2 → KrD z a j hi → FrR j hi r → FrAd j hi g → (inR (rcF N z T f) N z T j r).2.2.2.2 = false → geA (inA (asF N z T f') N z T j m (gaB j m g)).2 = false → ∃ R, inD' (dF N z T f) N z T j m = some R
section
variable {N : Int → Int} {z : ZS} {T : TbT} {a lv t : Int} {j k : Nat} {l : List ItZ} {q : Ps} {St : SsT} {Rw : RsT}
theorem nb_S (hN : NcSo N z T St) (hC : RcSo N z T St) (hA : AsSo N z T St) {p q : Ps} (hs : St a p q) {f f' : Nat} {r : RR} {g : GzA} {m : Int64} (hf : 2 * (q.1 - p.1) ≤ f + 1) (hf' : 2 * (q.1 - p.1) ≤ f' + 1) (K : KrD z a p.1 q.1) (hr : FrR p.1 q.1 r) (hg : FrAd p.1 q.1 g) (q1 : ((rcF N z T f).2.2 p.1 true r).2.2.2.2 = false) (q2 : geA ((asF N z T f').2.2 p.1 m g).2 = false) : ∃ R, (dF N z T f).2.2 p.1 true m = some R ∧ RcO N z T a p.1 q.1 r R ((rcF N z T f).2.2 p.1 true r) ∧ AsO z a p.1 q.1 g R ((asF N z T f').2.2 p.1 m g) := by
  obtain ⟨R, h⟩ := hN _ _ _ hs f f' r g m hf hf' K hr hg q1 q2
  exact ⟨R, h, (hC _ _ _ hs).2 f r m R hf K hr h, (hA _ _ _ hs).2 f f' g m R hf hf' K hg h⟩
theorem nc_lf (hk : kjS z j = 90 ∨ kjS z j = 94 ∨ kjS z j = 91 ∨ kjS z j = 93 ∨ kjS z j = 4 ∨ kjS z j = 66 ∨ kjS z j = 67) {f f' : Nat} {g : GzA} {m : Int64} (q2 : geA (inA (asF N z T f') N z T j m (gaB j m g)).2 = false) : ∃ R, inD' (dF N z T f) N z T j m = some R := by
  by_cases c1 : kjS z j = 90 ∨ kjS z j = 94
  · rw [ia_90 c1] at q2
    obtain ⟨e, he⟩ := ex_get q2
    rw [i_90 c1]
    unfold xsD'
    rw [he]
    exact ⟨_, rfl⟩
  by_cases c2 : kjS z j = 91 ∨ kjS z j = 93
  · rw [ia_91 c2] at q2
    unfold tdA at q2
    rw [i_91 c2]
    unfold tdD
    by_cases c : xjS z j < 0
    · rw [if_pos c]
      exact ⟨_, rfl⟩
    · rw [if_neg c] at q2 ⊢
      obtain ⟨e, he⟩ := ex_get (g := gaB j m g) q2
      rw [he]
      exact ⟨_, rfl⟩
  by_cases c3 : kjS z j = 4
  · rw [i_4 c3]
    exact ⟨_, rfl⟩
  · have c4 : kjS z j = 66 ∨ kjS z j = 67 := by omega
    rw [ia_66 c4] at q2
    obtain ⟨e, he⟩ := ex_get (g := gaB j m g) q2
    rw [i_66 c4]
    unfold giD'
    rw [he]
    exact ⟨_, rfl⟩
theorem nc_ju (hk : kjS z j = 64 ∨ kjS z j = 65) : NcI N z T a j (j + 1) := by
  intro f f' r g m _ _ _ _ _ _ _
  rw [i_64 hk]
  exact ⟨_, rfl⟩
theorem nc_bl (hR : NcRo N z T Rw) (hle : ∀ a L p q, Rw 0 0 a L p q → p.1 ≤ q.1) {L : List Nat} {p : Nat × List ItZ} (hr : Rw 0 0 j L (j + 1, p) q) (hk : kjS z j = 2) (hpa : paS z j = a) (hb : bjS z j = hdI L) : NcI N z T a j q.1 := by
  intro f f' r g m hf hf' K hF hG q1 q2
  have le : j + 1 ≤ q.1 := hle _ _ _ _ hr
  rw [in_b hk] at q1
  rw [ia_2 (Or.inl hk), hb] at q2
  unfold rwR at q1
  rw [hb] at q1
  rw [i_2 hk]
  unfold rwD'
  rw [hb]
  exact hR _ _ _ _ hr f f' r (gaB j m g) true m (by show 2 * (q.1 - (j + 1)) ≤ f; omega) (by show 2 * (q.1 - (j + 1)) ≤ f'; omega) (K.iw (by omega) hpa (Nat.lt_succ_self _) (Nat.le_refl _)) (hF.wd (Nat.le_succ _) (Nat.le_refl _)) (hG.wd (Nat.le_succ _) (Nat.le_refl _)) q1 q2
theorem nc_la (hS : NcSo N z T St) (hC : RcSo N z T St) {p : Nat × List ItZ} {q1 : Ps} (hs : St j (j + 1, p) q1) (hk : kjS z j = 6) (hpa : paS z j = a) (hb : bjS z j = ((j + 1 : Nat) : Int)) : NcI N z T a j q1.1 := by
  intro f f' r g m hf hf' K hF hG e1 e2
  have s1 : j + 1 < q1.1 := (hC _ _ _ hs).1
  rw [in_l hk] at e1
  unfold laR at e1
  rw [bdR_e hb] at e1
  rw [ia_6 hk] at e2
  unfold laA at e2
  rw [bdA_e hb] at e2
  obtain ⟨R, h⟩ := hS _ _ _ hs f f' r (gaB j m g) m (by show 2 * (q1.1 - (j + 1)) ≤ f + 1; omega) (by show 2 * (q1.1 - (j + 1)) ≤ f' + 1; omega) (K.in_ (by omega) hpa (Nat.lt_succ_self _) (Nat.le_refl _) s1) (hF.wd (Nat.le_succ _) (Nat.le_refl _)) (hG.wd (Nat.le_succ _) (Nat.le_refl _)) e1 e2
  have h : (dF N z T f).2.2 (j + 1) true m = some R := h
  rw [i_6 hk]
  unfold laD'
  rw [bdD_e hb, h]
  exact ⟨_, rfl⟩
theorem nc_if1 (hS : NcSo N z T St) (hC : RcSo N z T St) {p : Nat × List ItZ} {q1 : Ps} (hs : St j (j + 1, p) q1) (hk : kjS z j = 56) (hpa : paS z j = a) (hb : bjS z j = ((j + 1 : Nat) : Int)) (ho : ojS z j = -1) : NcI N z T a j q1.1 := by
  intro f f' r g m hf hf' K hF hG e1 e2
  have s1 : j + 1 < q1.1 := (hC _ _ _ hs).1
  rw [in_i hk] at e1
  unfold ifR at e1
  rw [bdR_e hb, ho] at e1
  dsimp only at e1
  rw [if_pos (by decide)] at e1
  rw [ia_56 hk] at e2
  unfold ifA at e2
  rw [ho] at e2
  dsimp only at e2
  rw [if_pos (by decide)] at e2
  obtain ⟨e, he⟩ := ex_get (ask_bd (ask_F _) e2)
  obtain ⟨g0, x1, x2, x3, x4, x5, x6, x7⟩ := as_ex (g := gaB j m g) he
  rw [x1] at e2
  dsimp only at e2
  rw [x2, bdA_e hb] at e2
  obtain ⟨R, h⟩ := hS _ _ _ hs f f' r g0 e.1 (by show 2 * (q1.1 - (j + 1)) ≤ f + 1; omega) (by show 2 * (q1.1 - (j + 1)) ≤ f' + 1; omega) (K.in_ (by omega) hpa (Nat.lt_succ_self _) (Nat.le_refl _) s1) (hF.wd (Nat.le_succ _) (Nat.le_refl _)) ((hG.wd (Nat.le_succ _) (Nat.le_refl _)).c x6 x7) e1 e2
  have h : (dF N z T f).2.2 (j + 1) true e.1 = some R := h
  rw [i_56 hk]
  unfold ifD'
  rw [he, Option.bind_some, bdD_e hb, h, Option.bind_some, ho, if_pos (by decide)]
  exact ⟨_, rfl⟩
theorem nc_if2 (hS : NcSo N z T St) (hC : RcSo N z T St) (hA : AsSo N z T St) {p : Nat × List ItZ} {q1 q2 : Ps} {p2 : Nat × List ItZ} (hs : St j (j + 1, p) q1) (hs2 : St j (q1.1, p2) q2) (hk : kjS z j = 56) (hpa : paS z j = a) (hb : bjS z j = ((j + 1 : Nat) : Int)) (ho : ojS z j = (q1.1 : Int)) : NcI N z T a j q2.1 := by
  intro f f' r g m hf hf' K hF hG e1 e2
  have s1 : j + 1 < q1.1 := (hC _ _ _ hs).1
  have u1 : q1.1 < q2.1 := (hC _ _ _ hs2).1
  rw [in_i hk] at e1
  unfold ifR at e1
  rw [bdR_e hb, ho] at e1
  dsimp only at e1
  rw [if_neg (by omega), Int.toNat_natCast] at e1
  rw [ia_56 hk] at e2
  unfold ifA at e2
  rw [ho] at e2
  dsimp only at e2
  rw [if_neg (by omega), Int.toNat_natCast] at e2
  obtain ⟨e, he⟩ := ex_get (ask_bd (ask_F _) ((ask_F _).2.2 _ _ _ e2))
  obtain ⟨g0, x1, x2, x3, x4, x5, x6, x7⟩ := as_ex (g := gaB j m g) he
  rw [x1] at e2
  dsimp only at e2
  rw [x2, x3, bdA_e hb] at e2
  obtain ⟨R1, h1, ⟨a1, a2, _⟩, ⟨b1, b2, _⟩⟩ := nb_S hS hC hA hs (f := f) (f' := f') (r := r) (g := g0) (m := e.1) (by show 2 * (q1.1 - (j + 1)) ≤ f + 1; omega) (by show 2 * (q1.1 - (j + 1)) ≤ f' + 1; omega) (K.in_ (by omega) hpa (Nat.lt_succ_self _) (Nat.le_of_lt u1) s1) (hF.wd (Nat.le_succ _) (Nat.le_of_lt u1)) ((hG.wd (Nat.le_succ _) (Nat.le_of_lt u1)).c x6 x7) ((rsk_F _).2.2 _ _ _ e1) ((ask_F _).2.2 _ _ _ e2)
  have h1 : (dF N z T f).2.2 (j + 1) true e.1 = some R1 := h1
  obtain ⟨R2, h2⟩ := hS _ _ _ hs2 f f' _ _ e.2 (by show 2 * (q2.1 - q1.1) ≤ f + 1; omega) (by show 2 * (q2.1 - q1.1) ≤ f' + 1; omega) (K.in_ (by omega) hpa (by show j < q1.1; omega) (Nat.le_refl _) u1) ((hF.wd (Nat.le_succ _) (Nat.le_refl _)).nx a2 (by show j + 1 ≤ q1.1; omega)) (((hG.wd (Nat.le_succ _) (Nat.le_refl _)).c x6 x7).nx b2 (by show j + 1 ≤ q1.1; omega)) e1 e2
  have h2 : (dF N z T f).2.2 q1.1 true e.2 = some R2 := h2
  rw [i_56 hk]
  unfold ifD'
  rw [he, Option.bind_some, bdD_e hb, h1, Option.bind_some, ho, if_neg (by omega), Int.toNat_natCast, h2]
  exact ⟨_, rfl⟩
theorem nc_do (hS : NcSo N z T St) (hC : RcSo N z T St) (hA : AsSo N z T St) {p : Nat × List ItZ} {q1 : Ps} (hs : St j (j + 1, p) q1) (hk : kjS z j = 59) (hpa : paS z j = a) (hb : bjS z j = ((j + 1 : Nat) : Int)) : NcI N z T a j q1.1 := by
  intro f f' r g m hf hf' K hF hG e1 e2
  have s1 : j + 1 < q1.1 := (hC _ _ _ hs).1
  rw [in_d hk] at e1
  unfold doR at e1
  rw [bdR_e hb] at e1
  rw [ia_59 hk] at e2
  unfold doA at e2
  rw [bdA_e hb] at e2
  dsimp only at e2
  obtain ⟨R1, h1, _, ⟨b1, b2, _⟩⟩ := nb_S hS hC hA hs (f := f) (f' := f') (r := r) (g := gaB j m g) (m := m) (by show 2 * (q1.1 - (j + 1)) ≤ f + 1; omega) (by show 2 * (q1.1 - (j + 1)) ≤ f' + 1; omega) (K.in_ (by omega) hpa (Nat.lt_succ_self _) (Nat.le_refl _) s1) (hF.wd (Nat.le_succ _) (Nat.le_refl _)) (hG.wd (Nat.le_succ _) (Nat.le_refl _)) e1 (ask_ex e2)
  have h1 : (dF N z T f).2.2 (j + 1) true m = some R1 := h1
  have b1 : ((asF N z T f').2.2 (j + 1) m (gaB j m g)).1 = R1.2.1 := b1
  have jj := ua_j b2 (Nat.lt_succ_self _) (hG j (Nat.le_refl _) (by omega))
  have jj2 : ((asF N z T f').2.2 (j + 1) m (gaB j m g)).2.2.2.2.1 j = cmB j true R1.2.2.1 := jj.2
  obtain ⟨e, he⟩ := ex_get e2
  rw [b1, jj2] at he
  rw [i_59 hk]
  unfold doD'
  rw [bdD_e hb, h1, Option.bind_some, he]
  exact ⟨_, rfl⟩
theorem nc_wh (hS : NcSo N z T St) (hC : RcSo N z T St) {p : Nat × List ItZ} {q1 : Ps} (hs : St j (j + 1, p) q1) (hk : kjS z j = 58) (hpa : paS z j = a) (hb : bjS z j = ((j + 1 : Nat) : Int)) : NcI N z T a j q1.1 := by
  intro f f' r g m hf hf' K hF hG e1 e2
  have s1 : j + 1 < q1.1 := (hC _ _ _ hs).1
  rw [in_w (Or.inl hk)] at e1
  unfold whR at e1
  rw [bdR_e hb] at e1
  have e1 : ((rcF N z T f).2.2 (j + 1) (!(alwT z T j 0)) r).2.2.2.2 = false := e1
  have al := rc_al (by omega) e1
  rw [al] at e1
  rw [ia_58 (Or.inl hk)] at e2
  unfold whA at e2
  dsimp only at e2
  rw [if_neg (show ¬ kjS z j = 60 by omega), if_neg (show ¬ kjS z j = 60 by omega)] at e2
  obtain ⟨e, he⟩ := ex_get (ask_bd (ask_F _) e2)
  obtain ⟨g0, x1, x2, x3, x4, x5, x6, x7⟩ := as_ex (g := gaB j m g) he
  rw [x1] at e2
  dsimp only at e2
  rw [x2, bdA_e hb] at e2
  obtain ⟨R, h⟩ := hS _ _ _ hs f f' r g0 e.1 (by show 2 * (q1.1 - (j + 1)) ≤ f + 1; omega) (by show 2 * (q1.1 - (j + 1)) ≤ f' + 1; omega) (K.in_ (by omega) hpa (Nat.lt_succ_self _) (Nat.le_refl _) s1) (hF.wd (Nat.le_succ _) (Nat.le_refl _)) ((hG.wd (Nat.le_succ _) (Nat.le_refl _)).c x6 x7) e1 e2
  have h : (dF N z T f).2.2 (j + 1) true e.1 = some R := h
  rw [i_58 (Or.inl hk)]
  unfold whD'
  rw [if_neg (show ¬ kjS z j = 60 by omega), Option.bind_some, he, Option.bind_some, bdD_e hb, al, h, Option.bind_some, if_neg (show ¬ kjS z j = 60 by omega)]
  exact ⟨_, rfl⟩
/-- exps of for -/
theorem nc_S1 (hk : kjS z j = 94 ∨ kjS z j = 93) (hl : lvS z j ≤ 20) {f f' : Nat} {g : GzA} {m : Int64} (hf : 1 ≤ f) (hf' : 1 ≤ f') (q2 : geA ((asF N z T f').2.2 j m g).2 = false) : ∃ R, (dF N z T f).2.2 j true m = some R ∧ R.1 = true := by
  obtain ⟨f, rfl⟩ : ∃ k, f = k + 1 := ⟨f - 1, by omega⟩
  obtain ⟨f', rfl⟩ : ∃ k, f' = k + 1 := ⟨f' - 1, by omega⟩
  rw [as_st] at q2
  have q2 : geA (if lvS z j ≤ 20 then inA (asF N z T f') N z T j m (gaB j m g) else (m, gaB j m g)).2 = false := q2
  rw [if_pos hl] at q2
  obtain ⟨R, h⟩ := nc_lf (f := f) (by omega) q2
  rw [d_st, d_t, h]
  refine ⟨_, rfl, ?_⟩
  rcases hk with hk | hk
  · rw [i_90 (Or.inr hk)] at h
    obtain ⟨e, _, rfl⟩ := omap h
    rfl
  · rw [i_91 (Or.inr hk)] at h
    unfold tdD at h
    split at h
    · cases h; rfl
    · obtain ⟨e, _, rfl⟩ := omap h
      rfl
theorem nc_fx (hl : lv ≤ 20) : ∀ (L : List Nat) (p q : Ps), FxD z lv a L p q → ∀ (f f' : Nat) (g : GzA) (m : Int64), 2 * (q.1 - p.1) ≤ f → 2 * (q.1 - p.1) ≤ f' → KrW z a p.1 q.1 → FrAd p.1 q.1 g → geA ((asF N z T f').1 (hdI L) m g).2 = false → ∃ R, (dF N z T f).1 (hdI L) true m = some R := by
  intro L
  induction L with
  | nil =>
    intro p q h f f' g m _ _ _ _ _
    rw [show hdI [] = -1 from rfl, d_r0 (by decide)]
    exact ⟨_, rfl⟩
  | cons j L ih =>
    intro p q h f f' g m hf hf' K hG e2
    have le := fx_le h
    obtain ⟨e1, en, t, m0, r0, D, _, h2⟩ := h
    have le2 : p.1 + 1 ≤ q.1 := fx_le h2
    subst e1
    have ek := D.kj
    obtain ⟨f, rfl⟩ : ∃ k, f = k + 1 := ⟨f - 1, by omega⟩
    obtain ⟨f', rfl⟩ : ∃ k, f' = k + 1 := ⟨f' - 1, by omega⟩
    rw [show hdI (p.1 :: L) = (p.1 : Int) from rfl, as_r1, en] at e2
    rw [show hdI (p.1 :: L) = (p.1 : Int) from rfl, d_r1, en]
    have hl' : lvS z p.1 ≤ 20 := by rw [D.lev]; exact hl
    obtain ⟨R1, h1, hr1⟩ := nc_S1 (f := f) (Or.inl ek) hl' (by omega) (by omega) ((ask_F _).1 _ _ _ e2)
    have o1 := (as_S (f := f) (f' := f') (as_lf (a := a) (N := N) (T := T) (j := p.1) (by omega)) hl' (Nat.lt_succ_self _) (by omega) (by omega) (K.hd le2 (Nat.lt_succ_self _)) (hG.wd (Nat.le_refl _) le2) h1).1
    rw [o1.1] at e2
    obtain ⟨R2, h2⟩ := ih _ _ h2 f f' _ _ (by show 2 * (q.1 - (p.1 + 1)) ≤ f; omega) (by show 2 * (q.1 - (p.1 + 1)) ≤ f'; omega) (K.nx (Nat.le_succ _)) (hG.nx o1.2.1 (Nat.le_succ _)) e2
    rw [h1, Option.bind_some, hr1, h2]
    exact ⟨_, rfl⟩
theorem nc_fi (hl : lv ≤ 20) {o : Int} {p q : Ps} (h : FiD z lv j o p q) {f f' : Nat} {g : GzA} {m : Int64} (hf : 2 * (q.1 - p.1) ≤ f) (hf' : 2 * (q.1 - p.1) ≤ f') (K : KrW z (j : Int) p.1 q.1) (hG : FrAd p.1 q.1 g) (e2 : geA ((asF N z T f').1 o m g).2 = false) : ∃ R, (dF N z T f).1 o true m = some R := by
  rcases h with ⟨rfl, rfl⟩ | ⟨rfl, t, m0, ⟨v, t2, _, hv⟩, hn, rfl⟩ | ⟨L, rfl, _, h⟩
  · rw [d_r0 (by decide)]
    exact ⟨_, rfl⟩
  · have D : kjS z p.1 = 93 ∧ lvS z p.1 = lv := by
      rcases hv with ⟨D, _⟩ | ⟨_, _, _, _, D, _⟩
      · exact ⟨D.kj, D.lev⟩
      · exact ⟨D.kj, D.lev⟩
    have hf : 2 * (p.1 + 1 - p.1) ≤ f := hf
    have hf' : 2 * (p.1 + 1 - p.1) ≤ f' := hf'
    obtain ⟨f, rfl⟩ : ∃ k, f = k + 1 := ⟨f - 1, by omega⟩
    obtain ⟨f', rfl⟩ : ∃ k, f' = k + 1 := ⟨f' - 1, by omega⟩
    rw [as_r1] at e2
    obtain ⟨R1, h1, hr1⟩ := nc_S1 (f := f) (Or.inr D.1) (by rw [D.2]; exact hl) (by omega) (by omega) ((ask_F _).1 _ _ _ e2)
    rw [d_r1, h1, Option.bind_some, hn, d_r0 (by decide)]
    exact ⟨_, rfl⟩
  · exact nc_fx hl L p q h f f' g m hf hf' K hG e2
theorem nc_fo (hp : ∀ i, i < snM z → paS z i < (i : Int)) (hS : NcSo N z T St) (hC : RcSo N z T St) (hA : AsSo N z T St) (hT : JtSo N z T St) (hl : lv ≤ 20) {p1 : Nat × List ItZ} {q1 q3 q4 : Ps} {p3 p4 : Nat × List ItZ} {o gg : Int} {L : List Nat} (h1 : FiD z lv j o (j + 1, p1) q1) (h3 : FxD z lv (j : Int) L (q1.1, p3) q3) (hs : St j (q3.1, p4) q4) (hgL : gg = hdI L) (hk : kjS z j = 60) (hpa : paS z j = a) (hb : bjS z j = (q3.1 : Int)) (ho : ojS z j = o) (hg : gjS z j = gg) : NcI N z T a j q4.1 := by
  intro f f' r g m hf hf' K hF hG e1 e2
  have s1 : q3.1 < q4.1 := (hC _ _ _ hs).1
  have l1 : j + 1 ≤ q1.1 := fi_le h1
  have l3 := fx_le h3
  have l3 : q1.1 ≤ q3.1 := l3
  rw [in_w (Or.inr hk)] at e1
  unfold whR at e1
  rw [bdR_e hb] at e1
  have e1 : ((rcF N z T f).2.2 q3.1 (!(alwT z T j 0)) r).2.2.2.2 = false := e1
  have al := rc_al (by omega) e1
  rw [al] at e1
  rw [ia_58 (Or.inr hk)] at e2
  unfold whA at e2
  rw [if_pos hk, ho, hg, hgL] at e2
  dsimp only at e2
  rw [if_pos hk] at e2
  have KW : ∀ lo hi', j < lo → hi' ≤ q4.1 → KrW z (j : Int) lo hi' := fun lo hi' c1 c2 => K.iw (by omega) hpa c1 c2
  have i0 := (ask_F (N := N) (z := z) (T := T) f').1 _ _ _ e2
  have i1 := ask_ex (ask_bd (ask_F _) i0)
  obtain ⟨I, hi⟩ := nc_fi (N := N) (T := T) (f := f) (g := gaB j m g) hl h1 (by show 2 * (q1.1 - (j + 1)) ≤ f; omega) (by show 2 * (q1.1 - (j + 1)) ≤ f'; omega) (KW _ _ (Nat.lt_succ_self _) (by omega)) (hG.wd (Nat.le_succ _) (by omega)) i1
  obtain ⟨⟨a1, a2, a3⟩, a4⟩ := as_fi (N := N) (T := T) (g := gaB j m g) hl h1 (by show 2 * (q1.1 - (j + 1)) ≤ f; omega) (by show 2 * (q1.1 - (j + 1)) ≤ f'; omega) (KW _ _ (Nat.lt_succ_self _) (by omega)) (hG.wd (Nat.le_succ _) (by omega)) hi
  have a2 : UaD z (j : Int) (j + 1) q1.1 (gaB j m g) ((asF N z T f').1 o m (gaB j m g)).2 I.2.2.1 := a2
  clear i1
  generalize (asF N z T f').1 o m (gaB j m g) = oi at a1 a2 a3 e2 i0
  rw [a1] at e2 i0
  obtain ⟨e, he⟩ := ex_get (ask_bd (ask_F _) i0)
  obtain ⟨g0, x1, x2, x3, x4, x5, x6, x7⟩ := as_ex (g := oi.2) he
  rw [x1] at e2 i0
  dsimp only at e2 i0
  rw [x2, bdA_e hb] at e2 i0
  have fr1 : FrAd q1.1 q4.1 oi.2 := ((hG.wd (Nat.le_succ _) (Nat.le_refl _)).b (j := j) (m := m)).nx a2 l1
  obtain ⟨R1, h1', _, ⟨g1, g2, g3⟩⟩ := nb_S hS hC hA hs (f := f) (f' := f') (r := r) (g := g0) (m := e.1) (by show 2 * (q4.1 - q3.1) ≤ f + 1; omega) (by show 2 * (q4.1 - q3.1) ≤ f' + 1; omega) (K.in_ (by omega) hpa (by show j < q3.1; omega) (Nat.le_refl _) s1) (hF.wd (by show j ≤ q3.1; omega) (Nat.le_refl _)) ((fr1.wd l3 (Nat.le_refl _)).c x6 x7) e1 i0
  have h1' : (dF N z T f).2.2 q3.1 true e.1 = some R1 := h1'
  have fj := fac_in (z := z) (j := j) (by omega) hpa K.2.2.2.1
  have g1 : ((asF N z T f').2.2 q3.1 e.1 g0).1 = R1.2.1 := g1
  have g2 : UaD z (j : Int) q3.1 q4.1 g0 ((asF N z T f').2.2 q3.1 e.1 g0).2 R1.2.2.1 := g2
  rw [a4] at a2
  have t1 : UaD z (j : Int) (j + 1) q4.1 (gaB j m g) ((asF N z T f').2.2 q3.1 e.1 g0).2 (([] ++ []) ++ R1.2.2.1) := ((a2.wd (Nat.le_refl _) (by omega)).tr (x4 _ _ _) fj).tr (g2.wd (by omega) (Nat.le_refl _)) fj
  have t1 : UaD z (j : Int) (j + 1) q4.1 (gaB j m g) ((asF N z T f').2.2 q3.1 e.1 g0).2 R1.2.2.1 := t1
  have jj := ua_j t1 (Nat.lt_succ_self _) (hG j (Nat.le_refl _) (by omega))
  have nx : ∀ i, q1.1 ≤ i → i < q3.1 → ((asF N z T f').2.2 q3.1 e.1 g0).2.2.2.1 i = allB ∧ ((asF N z T f').2.2 q3.1 e.1 g0).2.2.2.2.1 i = allB := fun i c1 c2 => by
    have w := g2.2.2.1 i c2
    have ek := fx_kd h3 i c1 c2
    have jt := (((hT _ _ _ hs).2 f e.1 R1 (by show 2 * (q4.1 - q3.1) ≤ f + 1; omega) (by show (j : Int) < ((q3.1 : Nat) : Int); omega) K.1 h1')).1
    have n : ∀ x ∈ R1.2.2.1, ¬ x.1 = (i : Int) := fun x hx ex => by
      rcases jt x hx with c | ⟨k, c⟩
      · omega
      · have kz := K.1
        have r := ch_le hp c (by omega)
        have e5 : (i : Int) = (j : Int) + 1 := by omega
        have lp := r.2 (by omega)
        rw [Int.toNat_natCast, show j + 1 = i by omega] at lp
        unfold LpK at lp
        omega
    rw [w.1, w.2, cmP_0 n, cmP_0 n, an_al, an_al, x6, x7]
    exact fr1 i c1 (by omega)
  generalize (asF N z T f').2.2 q3.1 e.1 g0 = o1 at g1 g2 g3 t1 jj nx e2 i0
  rw [g1, jj.2] at e2
  obtain ⟨u, hu⟩ := nc_fx (N := N) (T := T) hl L _ _ h3 f f' o1.2 (R1.2.1 &&& cmB j true R1.2.2.1) (by show 2 * (q3.1 - q1.1) ≤ f; omega) (by show 2 * (q3.1 - q1.1) ≤ f'; omega) (KW _ _ (by show j < q1.1; omega) (by omega)) nx e2
  rw [i_58 (Or.inr hk)]
  unfold whD'
  rw [if_pos hk, ho, hi, Option.bind_some, he, Option.bind_some, bdD_e hb, al, h1', Option.bind_some, if_pos hk, hg, hgL, hu]
  exact ⟨_, rfl⟩
end

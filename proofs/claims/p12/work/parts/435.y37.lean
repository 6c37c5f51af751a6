/-! no ERROR of flow, as the class goes: switch, try, every S -/
section
variable {N : Int → Int} {z : ZS} {T : TbT} {a lv t : Int} {j k : Nat} {l : List ItZ} {q : Ps} {St : SsT} {Rw : RsT}
/-- rows -/
theorem nc_row (hS : NcSo N z T St) (hC : RcSo N z T St) (hA : AsSo N z T St) : NcRo N z T (RwD St z lv) := by
  intro a L
  induction L with
  | nil =>
    intro p q h f f' r g al m _ _ _ _ _ _ _
    rw [show hdI [] = -1 from rfl, d_r0 (by decide)]
    exact ⟨_, rfl⟩
  | cons j L ih =>
    intro p q h f f' r g al m hf hf' K hF hG e1 e2
    have le := (rc_row (lv := lv) hC _ _ _ _ h).1
    obtain ⟨ej, en, p1, h1, h2⟩ := h
    have le2 := (rc_row (lv := lv) hC _ _ _ _ h2).1
    rcases h1 with ⟨e, _⟩ | h1
    · exact absurd e (by decide)
    have s1 := (hC _ _ _ h1).1
    subst ej
    obtain ⟨f, rfl⟩ : ∃ k, f = k + 1 := ⟨f - 1, by omega⟩
    obtain ⟨f', rfl⟩ : ∃ k, f' = k + 1 := ⟨f' - 1, by omega⟩
    rw [show hdI (p.1 :: L) = (p.1 : Int) from rfl, rc_r1, en] at e1
    rw [show hdI (p.1 :: L) = (p.1 : Int) from rfl, as_r1, en] at e2
    rw [show hdI (p.1 :: L) = (p.1 : Int) from rfl, d_r1, en]
    have f1 := (rsk_F (N := N) (z := z) (T := T) f).1 _ _ _ e1
    have alt := rc_al (by omega) f1
    subst alt
    obtain ⟨R1, g1, ⟨a1, a2, _⟩, ⟨b1, b2, _⟩⟩ := nb_S hS hC hA h1 (f := f) (f' := f') (r := r) (g := g) (m := m) (by omega) (by omega) (K.hd le2 s1) (hF.wd (Nat.le_refl _) le2) (hG.wd (Nat.le_refl _) le2) f1 ((ask_F _).1 _ _ _ e2)
    rw [a1] at e1
    rw [b1] at e2
    obtain ⟨R2, g2⟩ := ih _ _ h2 f f' _ _ R1.1 R1.2.1 (by omega) (by omega) (K.nx (Nat.le_of_lt s1)) (hF.nx a2 (Nat.le_of_lt s1)) (hG.nx b2 (Nat.le_of_lt s1)) e1 e2
    rw [g1, Option.bind_some, g2]
    exact ⟨_, rfl⟩
theorem nc_srow (hS : NcSo N z T St) (hC : RcSo N z T St) (hA : AsSo N z T St) (hkd : ∀ a p q, St a p q → ¬ kjS z p.1 = 62 ∧ ¬ kjS z p.1 = 63) : ∀ (L : List Nat) (p q : Ps), RwD St z lv 1 k a L p q → ∀ (f f' : Nat) (r : RR) (g : GzA) (al d : Bool) (m ch : Int64), 2 * (q.1 - p.1) ≤ f → 2 * (q.1 - p.1) ≤ f' → KrW z a p.1 q.1 → FrR p.1 q.1 r → FrAd p.1 q.1 g → ((rcF N z T f).2.1 (hdI L) al d r).2.2.2.2.2 = false → geA ((asF N z T f').2.1 (hdI L) ch m d g).2.2 = false → ∃ R, (dF N z T f).2.1 (hdI L) ch al m d = some R := by
  intro L
  induction L with
  | nil =>
    intro p q h f f' r g al d m ch _ _ _ _ _ _ _
    rw [show hdI [] = -1 from rfl, d_s0 (by decide)]
    exact ⟨_, rfl⟩
  | cons j L ih =>
    intro p q h f f' r g al d m ch hf hf' K hF hG e1 e2
    have le := (rc_srow (N := N) (T := T) hC hkd _ _ _ h).1
    obtain ⟨ej, en, p1, h1, h2⟩ := h
    have le2 := (rc_srow (N := N) (T := T) hC hkd _ _ _ h2).1
    subst ej
    rcases h1 with ⟨_, h1⟩ | h1
    · have cs : (kjS z p.1 = 62 ∨ kjS z p.1 = 63) ∧ p1.1 = p.1 + 1 := by
        rcases h1 with ⟨t, m, r, R, _, rfl⟩ | ⟨t, R, rfl⟩
        · exact ⟨Or.inl R.kj, rfl⟩
        · exact ⟨Or.inr R.kj, rfl⟩
      obtain ⟨f, rfl⟩ : ∃ k, f = k + 1 := ⟨f - 1, by omega⟩
      obtain ⟨f', rfl⟩ : ∃ k, f' = k + 1 := ⟨f' - 1, by omega⟩
      rw [show hdI (p.1 :: L) = (p.1 : Int) from rfl, rc_s1 cs.1, en] at e1
      rw [show hdI (p.1 :: L) = (p.1 : Int) from rfl, as_s1 cs.1, en] at e2
      rw [show hdI (p.1 :: L) = (p.1 : Int) from rfl, d_s1 cs.1, en]
      exact ih _ _ h2 f f' r g true _ _ ch (by omega) (by omega) (K.nx (by omega)) (hF.wd (by omega) (Nat.le_refl _)) (hG.wd (by omega) (Nat.le_refl _)) e1 e2
    · have s1 := (hC _ _ _ h1).1
      have cs := hkd _ _ _ h1
      obtain ⟨f, rfl⟩ : ∃ k, f = k + 1 := ⟨f - 1, by omega⟩
      obtain ⟨f', rfl⟩ : ∃ k, f' = k + 1 := ⟨f' - 1, by omega⟩
      rw [show hdI (p.1 :: L) = (p.1 : Int) from rfl, rc_s2 (by omega), en] at e1
      rw [show hdI (p.1 :: L) = (p.1 : Int) from rfl, as_s2 (by omega), en] at e2
      rw [show hdI (p.1 :: L) = (p.1 : Int) from rfl, d_s2 (by omega), en]
      have f1 := (rsk_F (N := N) (z := z) (T := T) f).2.1 _ _ _ _ e1
      have alt := rc_al (by omega) f1
      subst alt
      obtain ⟨R1, g1, ⟨a1, a2, _⟩, ⟨b1, b2, _⟩⟩ := nb_S hS hC hA h1 (f := f) (f' := f') (r := r) (g := g) (m := m) (by omega) (by omega) (K.hd le2 s1) (hF.wd (Nat.le_refl _) le2) (hG.wd (Nat.le_refl _) le2) f1 ((ask_F _).2.1 _ _ _ _ _ e2)
      rw [a1] at e1
      rw [b1] at e2
      obtain ⟨R2, g2⟩ := ih _ _ h2 f f' _ _ R1.1 d R1.2.1 ch (by omega) (by omega) (K.nx (Nat.le_of_lt s1)) (hF.nx a2 (Nat.le_of_lt s1)) (hG.nx b2 (Nat.le_of_lt s1)) e1 e2
      rw [g1, Option.bind_some, g2]
      exact ⟨_, rfl⟩
theorem nc_sw (hS : NcSo N z T St) (hC : RcSo N z T St) (hA : AsSo N z T St) (hkd : ∀ a p q, St a p q → ¬ kjS z p.1 = 62 ∧ ¬ kjS z p.1 = 63) {L : List Nat} {p : Nat × List ItZ} {q1 : Ps} (hr : RwD St z lv 1 k j L (j + 1, p) q1) (hk : kjS z j = 61) (hpa : paS z j = a) (hb : bjS z j = hdI L) : NcI N z T a j q1.1 := by
  intro f f' r g m hf hf' K hF hG e1 e2
  have s1 : j + 1 ≤ q1.1 := (rc_srow (N := N) (T := T) hC hkd _ _ _ hr).1
  rw [in_s hk] at e1
  unfold swR at e1
  rw [hb] at e1
  rw [ia_61 hk] at e2
  unfold swA at e2
  rw [hb] at e2
  dsimp only at e2
  obtain ⟨e, he⟩ := ex_get ((ask_F _).2.1 _ _ _ _ _ e2)
  obtain ⟨g0, x1, x2, x3, x4, x5, x6, x7⟩ := as_ex (g := gaB j m g) he
  rw [x1] at e2
  dsimp only at e2
  obtain ⟨R, h⟩ := nc_srow hS hC hA hkd _ _ _ hr f f' r g0 false false allB _ (by show 2 * (q1.1 - (j + 1)) ≤ f; omega) (by show 2 * (q1.1 - (j + 1)) ≤ f'; omega) (K.iw (by omega) hpa (Nat.lt_succ_self _) (Nat.le_refl _)) (hF.wd (Nat.le_succ _) (Nat.le_refl _)) ((hG.wd (Nat.le_succ _) (Nat.le_refl _)).c x6 x7) e1 e2
  rw [i_61 hk]
  unfold swD'
  rw [he, Option.bind_some, hb, h]
  exact ⟨_, rfl⟩
/-- a block of try -/
theorem nc_bk (hR : NcRo N z T Rw) (hle : ∀ a L p q, Rw 0 0 a L p q → p.1 ≤ q.1) (hl : lv ≤ 20) {p q : Ps} (hB : BkD Rw z lv (j : Int) p q) {hi : Nat} (hq : q.1 ≤ hi) (K : KrD z a j hi) (hk : ¬ kjS z j = 92) (hpa : paS z j = a) (hg : 0 ≤ gjS z j → ¬ gjS z j = (p.1 : Int) → (q.1 : Int) ≤ gjS z j) {f f' : Nat} {r : RR} {g : GzA} {m : Int64} (hf : 2 * (q.1 - p.1) ≤ f + 2) (hf' : 2 * (q.1 - p.1) ≤ f' + 1) (hF : FrR p.1 q.1 r) (hG : FrAd p.1 q.1 g) (e1 : (rwR (rcF N z T f) z p.1 r).2.2.2.2 = false) (e2 : geA ((asF N z T f').2.2 p.1 m g).2 = false) : ∃ R, (dF N z T f).1 (bjS z p.1) true m = some R := by
  have kz := K.1
  obtain ⟨L, t, hr, D⟩ := hB
  have s1 : p.1 + 1 ≤ q.1 := hle _ _ _ _ hr
  have fj := fac_in hk hpa K.2.2.2.1
  have fb : ∀ k, FaC z q.1 k ((p.1 : Nat) : Int) := fac_bk (z := z) (hi := q.1) (j := p.1) (a := (j : Int)) D.pa (by rw [Int.toNat_natCast]; exact hg) (fun k => (fj k).mo hq)
  obtain ⟨f', rfl⟩ : ∃ k, f' = k + 1 := ⟨f' - 1, by omega⟩
  unfold rwR at e1
  rw [D.bj] at e1 ⊢
  rw [as_st] at e2
  have e2 : geA (if lvS z p.1 ≤ 20 then inA (asF N z T f') N z T p.1 m (gaB p.1 m g) else (m, gaB p.1 m g)).2 = false := e2
  rw [if_pos (by rw [D.lev]; exact hl), ia_2 (Or.inr D.kj), D.bj] at e2
  exact hR _ _ _ _ hr f f' r (gaB p.1 m g) true m (by show 2 * (q.1 - (p.1 + 1)) ≤ f; omega) (by show 2 * (q.1 - (p.1 + 1)) ≤ f'; omega) ⟨by omega, by show ((p.1 : Nat) : Int) < ((p.1 + 1 : Nat) : Int); omega, fb, K.2.2.2.2⟩ (hF.wd (Nat.le_succ _) (Nat.le_refl _)) (hG.wd (Nat.le_succ _) (Nat.le_refl _)) e1 e2
theorem nc_ty (hp : ∀ i, i < snM z → paS z i < (i : Int)) (hR : NcRo N z T Rw) (hC : RcRo N z T Rw) (hA : AsRo N z T Rw) (hT : JtRo N z T Rw) (hl : lv ≤ 20) {p : Nat × List ItZ} {q1 q2 q3 : Ps} {o g : Int} (B1 : BkD Rw z lv (j : Int) (j + 1, p) q1) (B2 : (o = -1 ∧ q2.1 = q1.1) ∨ (o = (q1.1 : Int) ∧ ∃ p2, BkD Rw z lv (j : Int) (q1.1, p2) q2)) (B3 : (g = -1 ∧ q3.1 = q2.1) ∨ (g = (q2.1 : Int) ∧ ∃ p3, BkD Rw z lv (j : Int) (q2.1, p3) q3)) (hk : kjS z j = 68) (hpa : paS z j = a) (hb : bjS z j = ((j + 1 : Nat) : Int)) (ho : ojS z j = o) (hg : gjS z j = g) : NcI N z T a j q3.1 := by
  intro f f' r gg m hf hf' K hF hG e1 e2
  have hle : ∀ a L p q, Rw 0 0 a L p q → p.1 ≤ q.1 := fun a L p q h => (hC a L p q h).1
  have hk92 : ¬ kjS z j = 92 := by omega
  have kz := K.1
  obtain ⟨L1, t1, hr1, D1⟩ := id B1
  have hk1 : ¬ LpK (kjS z (j + 1)) := by
    have e : kjS z (j + 1) = 92 := D1.kj
    unfold LpK
    omega
  have l1 : j + 1 + 1 ≤ q1.1 := hle _ _ _ _ hr1
  have l2 : q1.1 ≤ q2.1 := by
    rcases B2 with ⟨_, e⟩ | ⟨_, p2, L2, t2, hr2, D2⟩
    · omega
    · have : q1.1 + 1 ≤ q2.1 := hle _ _ _ _ hr2
      omega
  have l3 : q2.1 ≤ q3.1 := by
    rcases B3 with ⟨_, e⟩ | ⟨_, p2, L2, t2, hr2, D2⟩
    · omega
    · have : q2.1 + 1 ≤ q3.1 := hle _ _ _ _ hr2
      omega
  have gge : 0 ≤ gjS z j → (q2.1 : Int) ≤ gjS z j := fun z0 => by
    rw [hg] at z0 ⊢
    rcases B3 with ⟨e, _⟩ | ⟨e, _⟩ <;> omega
  rw [in_t hk] at e1
  unfold tyR at e1
  rw [ia_68 hk] at e2
  unfold tyA at e2
  dsimp only at e1 e2
  rw [hb, if_neg (show ¬ ((j + 1 : Nat) : Int) < 0 by omega), Int.toNat_natCast] at e1
  rw [bdA_e hb] at e2
  -- what stays told, outside in
  have t1 : ∀ b : Bool × RR, (if ojS z j < 0 then b else (b.1 || (rwR (rcF N z T f) z (ojS z j).toNat b.2).1, (rwR (rcF N z T f) z (ojS z j).toNat b.2).2)).2.2.2.2 = false → b.2.2.2.2 = false := fun b q => by
    split at q
    · exact q
    · exact rsk_rw (rsk_F _) q
  have t2 : ∀ (b : Int64 × GzA) (mm : Int64), geA (if ojS z j < 0 then b else (b.1 &&& ((asF N z T f').2.2 (ojS z j).toNat mm b.2).1, ((asF N z T f').2.2 (ojS z j).toNat mm b.2).2)).2 = false → geA b.2 = false := fun b mm q => by
    split at q
    · exact q
    · exact (ask_F _).2.2 _ _ _ q
  have b1 := t1 _ e1
  have b2 := t2 _ _ e2
  have c1 := rsk_rw (rsk_F _) b1
  have c2 := (ask_F (N := N) (z := z) (T := T) f').2.2 _ _ _ b2
  -- the finally
  obtain ⟨r3, g3, hr3, hg3, f3, fr3, hfin⟩ : ∃ (r3 : RR) (g3 : GzA), (if gjS z j < 0 then (true, r) else rwR (rcF N z T f) z (gjS z j).toNat r).2 = r3 ∧ (if gjS z j < 0 then (zerB, gaB j m gg) else (asF N z T f').2.2 (gjS z j).toNat m (gaB j m gg)).2 = g3 ∧ FrR (j + 1) q2.1 r3 ∧ FrAd (j + 1) q2.1 g3 ∧ (0 ≤ gjS z j → ∃ D, (dF N z T f).1 (bjS z (gjS z j).toNat) true m = some D) := by
    rcases B3 with ⟨e, e2⟩ | ⟨e, p3, B3⟩
    · rw [hg, e, if_pos (by decide), if_pos (by decide)]
      exact ⟨_, _, rfl, rfl, hF.wd (Nat.le_succ _) (by omega), hG.wd (Nat.le_succ _) (by omega), fun c => absurd c (by decide)⟩
    · rw [hg, e, if_neg (by omega), Int.toNat_natCast] at c1 c2
      rw [hg, e, if_neg (by omega), if_neg (by omega), Int.toNat_natCast]
      obtain ⟨D, hD⟩ := nc_bk (g := gaB j m gg) (m := m) hR hle hl B3 (Nat.le_refl _) K hk92 hpa (fun _ c => absurd (hg.trans e) c) (by show 2 * (q3.1 - q2.1) ≤ f + 2; omega) (by show 2 * (q3.1 - q2.1) ≤ f' + 1; omega) (hF.wd (by show j ≤ q2.1; omega) (Nat.le_refl _)) (hG.wd (by show j ≤ q2.1; omega) (Nat.le_refl _)) c1 c2
      obtain ⟨_, _, _, _, _, v5⟩ := rc_bk (r := r) (f := f) (m := m) (R := D) (en := !(hfA z q2.1 && !(r.1 (gjS z j).toNat))) hp hC hT B3 (by show j < q2.1; omega) (Nat.le_refl _) K hk92 hk1 hpa (fun _ c => absurd (hg.trans e) c) (by show 2 * (q3.1 - q2.1) ≤ f + 2; omega) (hF.wd (by show j ≤ q2.1; omega) (Nat.le_refl _)) hD (Bool.not_not _).symm
      obtain ⟨_, _, _, _, _, w5⟩ := as_bk (g := gaB j m gg) (f := f) (f' := f') (m := m) (R := D) (fn := fun x => if hfA z q2.1 = true then x ||| (gaB j m gg).2.1 (gjS z j).toNat else x) hp hA hT hl B3 (by show j < q2.1; omega) (Nat.le_refl _) K hk92 hk1 hpa (fun _ c => absurd (hg.trans e) c) (by show 2 * (q3.1 - q2.1) ≤ f + 2; omega) (by show 2 * (q3.1 - q2.1) ≤ f' + 1; omega) (hG.wd (by show j ≤ q2.1; omega) (Nat.le_refl _)) hD (fun _ => rfl)
      have v5 : ∀ i, ¬ (q2.1 ≤ i ∧ i < q3.1) → (rwR (rcF N z T f) z q2.1 r).2.1 i = r.1 i ∧ (j < i → (rwR (rcF N z T f) z q2.1 r).2.2.1 i = r.2.1 i ∧ (rwR (rcF N z T f) z q2.1 r).2.2.2.1 i = r.2.2.1 i) := v5
      have w5 : ∀ i, ¬ (q2.1 ≤ i ∧ i < q3.1) → (((asF N z T f').2.2 q2.1 m (gaB j m gg)).2.1 i = (gaB j m gg).1 i ∧ ((asF N z T f').2.2 q2.1 m (gaB j m gg)).2.2.1 i = (gaB j m gg).2.1 i) ∧ (j < i → ((asF N z T f').2.2 q2.1 m (gaB j m gg)).2.2.2.1 i = gg.2.2.1 i ∧ ((asF N z T f').2.2 q2.1 m (gaB j m gg)).2.2.2.2.1 i = gg.2.2.2.1 i) := w5
      refine ⟨_, _, rfl, rfl, fun i d1 d2 => ?_, fun i d1 d2 => ?_, fun _ => ⟨D, hD⟩⟩
      · rw [((v5 i (by omega)).2 (by omega)).1, ((v5 i (by omega)).2 (by omega)).2]
        exact hF i (by omega) (by omega)
      · rw [((w5 i (by omega)).2 (by omega)).1, ((w5 i (by omega)).2 (by omega)).2]
        exact hG i (by omega) (by omega)
  rw [hr3] at b1 e1
  rw [hg3] at b2 e2
  -- the body
  obtain ⟨A, hA1⟩ := nc_bk (r := r3) (g := g3) hR hle hl B1 (by omega) K hk92 hpa (fun c _ => by have := gge c; omega) (by show 2 * (q1.1 - (j + 1)) ≤ f + 2; omega) (by show 2 * (q1.1 - (j + 1)) ≤ f' + 1; omega) (f3.wd (Nat.le_refl _) l2) (fr3.wd (Nat.le_refl _) l2) b1 b2
  obtain ⟨_, _, _, _, _, v5⟩ := rc_bk (r := r3) (f := f) (m := m) (R := A) (en := !(hfA z (j + 1) && !(r3.1 (gjS z j).toNat))) hp hC hT B1 (Nat.lt_succ_self _) (by omega) K hk92 hk1 hpa (fun c _ => by have := gge c; omega) (by show 2 * (q1.1 - (j + 1)) ≤ f + 2; omega) (f3.wd (Nat.le_refl _) l2) hA1 (Bool.not_not _).symm
  obtain ⟨_, _, _, _, _, w5⟩ := as_bk (g := g3) (f := f) (f' := f') (m := m) (R := A) (fn := fun x => if hfA z (j + 1) = true then x ||| g3.2.1 (gjS z j).toNat else x) hp hA hT hl B1 (Nat.lt_succ_self _) (by omega) K hk92 hk1 hpa (fun c _ => by have := gge c; omega) (by show 2 * (q1.1 - (j + 1)) ≤ f + 2; omega) (by show 2 * (q1.1 - (j + 1)) ≤ f' + 1; omega) (fr3.wd (Nat.le_refl _) l2) hA1 (fun _ => rfl)
  have v5 : ∀ i, ¬ (j + 1 ≤ i ∧ i < q1.1) → (rwR (rcF N z T f) z (j + 1) r3).2.1 i = r3.1 i ∧ (j < i → (rwR (rcF N z T f) z (j + 1) r3).2.2.1 i = r3.2.1 i ∧ (rwR (rcF N z T f) z (j + 1) r3).2.2.2.1 i = r3.2.2.1 i) := v5
  have w5 : ∀ i, ¬ (j + 1 ≤ i ∧ i < q1.1) → (((asF N z T f').2.2 (j + 1) m g3).2.1 i = g3.1 i ∧ ((asF N z T f').2.2 (j + 1) m g3).2.2.1 i = g3.2.1 i) ∧ (j < i → ((asF N z T f').2.2 (j + 1) m g3).2.2.2.1 i = g3.2.2.1 i ∧ ((asF N z T f').2.2 (j + 1) m g3).2.2.2.2.1 i = g3.2.2.2.1 i) := w5
  have hA1 : (dF N z T f).1 (bjS z (j + 1)) true m = some A := hA1
  generalize rwR (rcF N z T f) z (j + 1) r3 = o1 at v5 e1
  generalize (asF N z T f').2.2 (j + 1) m g3 = o2 at w5 e2
  -- the catch
  have hcat : 0 ≤ ojS z j → ∃ B, (dF N z T f).1 (bjS z (ojS z j).toNat) true (if ljS z j < 0 then m else m ||| bitQ (ljS z j)) = some B := fun c => by
    rcases B2 with ⟨e, _⟩ | ⟨e, p2, B2⟩
    · rw [ho, e] at c
      exact absurd c (by decide)
    · rw [ho, e, if_neg (by omega), Int.toNat_natCast] at e1 e2
      obtain ⟨L2, t2', hr2, D2⟩ := id B2
      have l4 : q1.1 + 1 ≤ q2.1 := hle _ _ _ _ hr2
      rw [ho, e, Int.toNat_natCast]
      exact nc_bk hR hle hl B2 (by omega) K hk92 hpa (fun c _ => gge c) (by show 2 * (q2.1 - q1.1) ≤ f + 2; omega) (by show 2 * (q2.1 - q1.1) ≤ f' + 1; omega) (fun i d1 d2 => by
        have d1 : q1.1 ≤ i := d1
        rw [((v5 i (by omega)).2 (by omega)).1, ((v5 i (by omega)).2 (by omega)).2]
        exact f3 i (by omega) d2) (fun i d1 d2 => by
        have d1 : q1.1 ≤ i := d1
        rw [((w5 i (by omega)).2 (by omega)).1, ((w5 i (by omega)).2 (by omega)).2]
        exact fr3 i (by omega) d2) e1 e2
  rw [i_68 hk]
  unfold tyD'
  rw [bkD_e hb, hA1, Option.bind_some]
  have last : ∀ C : ReG, ∃ R, (if gjS z j < 0 then some C else (bkD' (dF N z T f) z (gjS z j) m).map (fun d => (C.1 && d.1, C.2.1 ||| d.2.1, C.2.2.1.map (fnJ d.1 d.2.1) ++ d.2.2.1, C.2.2.2 ++ d.2.2.2))) = some R := fun C => by
    by_cases c : gjS z j < 0
    · rw [if_pos c]
      exact ⟨_, rfl⟩
    · rw [if_neg c]
      obtain ⟨D, hD⟩ := hfin (by omega)
      unfold bkD'
      rw [if_neg c, hD]
      exact ⟨_, rfl⟩
  by_cases c : ojS z j < 0
  · rw [if_pos c, Option.bind_some]
    exact last A
  · rw [if_neg c]
    obtain ⟨B, hB⟩ := hcat (by omega)
    have e : bkD' (dF N z T f) z (ojS z j) (if ljS z j < 0 then m else m ||| bitQ (ljS z j)) = some B := by
      unfold bkD'
      rw [if_neg c]
      exact hB
    rw [e, Option.map_some, Option.bind_some]
    exact last _
end
/-- every S -/
theorem nc_all {N : Int → Int} {M : Int} {C : CxT} {z : ZS} {T : TbT} {ms : MfT} (H : DfX N C z T ms) (hp : ∀ i, i < snM z → paS z i < (i : Int)) : ∀ n, n ≤ 21 → NcSo N z T (StW z (StD N M z n)) := by
  intro n
  induction n with
  | zero => exact fun _ _ _ _ h => absurd h.1 id
  | succ n ih =>
    intro hn a p q ⟨h, hz, hq⟩
    have ih := ih (by omega)
    have dS := da_st (M := M) H n (by omega)
    have sS : ∀ a p q, StD N M z n a p q → p.1 < q.1 ∧ p.2.2 <:+ q.2.2 := fun a p q h => (dS a p q h).1
    have hkd : ∀ a p q, StW z (StD N M z n) a p q → ¬ kjS z p.1 = 62 ∧ ¬ kjS z p.1 = 63 := fun _ _ _ h => st_kd h.1
    have hJ : JtSo N z T (StW z (StD N M z n)) := fun a p q h => (rc_jt (N := N) (M := M) (T := T) hp n).1 a p q h.1
    have hC : RcSo N z T (StW z (StD N M z n)) := fun a p q h => (rc_jt (N := N) (M := M) (T := T) hp n).2 a p q h.1
    have hA := as_all (M := M) H hp n (by omega)
    have hRt : JtRo N z T (RwD (StW z (StD N M z n)) z (lvN n)) := jt_row hJ hkd
    have hRa : AsRo N z T (RwD (StW z (StD N M z n)) z (lvN n)) := as_row hA
    have hRc : RcRo N z T (RwD (StW z (StD N M z n)) z (lvN n)) := rc_row hC
    have hR : NcRo N z T (RwD (StW z (StD N M z n)) z (lvN n)) := nc_row ih hC hA
    have lv : lvN (n + 1) ≤ 20 := by unfold lvN; omega
    obtain ⟨t, q1, _, ⟨lt, _⟩, h, rfl⟩ := h
    have lt : p.1 < q1.1 := lt
    have hz : q1.1 ≤ snM z := hz
    have hq : q1.2.2 <:+ z.2.1 := (List.suffix_cons _ _).trans hq
    have key : lvS z p.1 ≤ 20 ∧ NcI N z T a p.1 q1.1 := by
      rcases h with ⟨m, r, hx, R, rfl⟩ | ⟨m, ⟨v, t, _, hv⟩, rfl⟩ | ⟨R, rfl⟩ | ⟨L, hr, R⟩ | ⟨q2, hs, R, rfl⟩ | ⟨m, r, q2, hx, hs, ⟨R, rfl⟩ | ⟨t2, q3, hs2, R, rfl⟩⟩ | ⟨m, r, q2, hx, hs, R, rfl⟩ | ⟨m, r, q2, hs, hx, R, rfl⟩ | ⟨q2, q3, q4, m2, o, g, x, f1, f2, ⟨L, hgL, f3⟩, hs, R, rfl⟩ | ⟨m, r, L, q2, hx, hr, _, R, rfl⟩ | ⟨q2, q3, q4, o, g, v, B1, B2, B3, _, R, rfl⟩ | ⟨kd, lk, t2, hk, _, R, rfl⟩ | (⟨R, rfl⟩ | ⟨m, r, hx, ⟨R, rfl⟩ | ⟨R, rfl⟩⟩)
      · have e := R.kj
        exact ⟨by rw [R.lev]; exact lv, fun _ _ _ _ _ _ _ _ _ _ _ q2 => nc_lf (by omega) q2⟩
      · rcases hv with ⟨R, rfl⟩ | ⟨m0, r, x, _, R, _, rfl⟩
        · have e := R.kj
          exact ⟨by rw [R.lev]; exact lv, fun _ _ _ _ _ _ _ _ _ _ _ q2 => nc_lf (by omega) q2⟩
        · have e := R.kj
          exact ⟨by rw [R.lev]; exact lv, fun _ _ _ _ _ _ _ _ _ _ _ q2 => nc_lf (by omega) q2⟩
      · have e := R.kj
        exact ⟨by rw [R.lev]; exact lv, fun _ _ _ _ _ _ _ _ _ _ _ q2 => nc_lf (by omega) q2⟩
      · exact ⟨by rw [R.lev]; exact lv, nc_bl hR (fun a L p q h => (hRc a L p q h).1) ((rw_w sS _ _ _ hr).2 hz hq) R.kj R.pa R.bj⟩
      · have h1 := nc_la ih hC ⟨hs, hz, (List.suffix_cons _ _).trans hq⟩ R.kj R.pa R.bj
        exact ⟨by rw [R.lev]; exact lv, h1⟩
      · have h1 := nc_if1 ih hC ⟨hs, hz, (List.suffix_cons _ _).trans hq⟩ R.kj R.pa R.bj R.oj
        exact ⟨by rw [R.lev]; exact lv, h1⟩
      · have h2 := sS _ _ _ hs2
        have hq3 : q3.2.2 <:+ z.2.1 := (List.suffix_cons _ _).trans hq
        have hz3 : q3.1 ≤ snM z := hz
        have l2 : q2.1 < q3.1 := h2.1
        have h1 := nc_if2 ih hC hA ⟨hs, by omega, ((List.suffix_cons _ _).trans h2.2).trans hq3⟩ ⟨hs2, hz, hq3⟩ R.kj R.pa R.bj R.oj
        exact ⟨by rw [R.lev]; exact lv, h1⟩
      · have h1 := nc_wh ih hC ⟨hs, hz, (List.suffix_cons _ _).trans hq⟩ R.kj R.pa R.bj
        exact ⟨by rw [R.lev]; exact lv, h1⟩
      · have h1 := nc_do ih hC hA ⟨hs, hz, ((List.suffix_cons _ _).trans hx.sf).trans ((List.suffix_cons _ _).trans hq)⟩ R.kj R.pa R.bj
        exact ⟨by rw [R.lev]; exact lv, h1⟩
      · have h1 := nc_fo (lv := lvN (n + 1)) hp ih hC hA hJ lv f1 f3 ⟨hs, hz, (List.suffix_cons _ _).trans hq⟩ hgL R.kj R.pa R.bj R.oj R.gj
        exact ⟨by rw [R.lev]; exact lv, h1⟩
      · have h1 := nc_sw ih hC hA hkd ((rw_w sS _ _ _ hr).2 hz ((List.suffix_cons _ _).trans hq)) R.kj R.pa R.bj
        exact ⟨by rw [R.lev]; exact lv, h1⟩
      · have hq4 : q4.2.2 <:+ z.2.1 := (List.suffix_cons _ _).trans hq
        have hz4 : q4.1 ≤ snM z := hz
        have hb : ∀ (a : Int) (p q : Ps), BkD (RwD (StD N M z n) z (lvN n)) z (lvN (n + 1)) a p q → p.1 + 1 ≤ q.1 ∧ p.2.2 <:+ q.2.2 := fun a p q ⟨L, t, hr, _⟩ => (rw_w sS _ _ _ hr).1
        have hq3 : q3.2.2 <:+ z.2.1 ∧ q3.1 ≤ snM z := by
          rcases B3 with ⟨_, e⟩ | ⟨_, t2, B⟩
          · rw [← e]; exact ⟨hq4, hz4⟩
          · have := (hb _ _ _ B).1
            have : q3.1 + 1 ≤ q4.1 := this
            exact ⟨((List.suffix_cons _ _).trans (hb _ _ _ B).2).trans hq4, by omega⟩
        have hq2 : q2.2.2 <:+ z.2.1 ∧ q2.1 ≤ snM z := by
          rcases B2 with ⟨_, _, e⟩ | ⟨_, _, t2, B⟩
          · rw [← e]; exact hq3
          · have := (hb _ _ _ B).1
            have : q2.1 + 1 ≤ q3.1 := this
            exact ⟨((List.suffix_cons _ _).trans (hb _ _ _ B).2).trans hq3.1, by have := hq3.2; omega⟩
        have B2' : (o = -1 ∧ q3.1 = q2.1) ∨ (o = (q2.1 : Int) ∧ ∃ p2, BkD (RwD (StW z (StD N M z n)) z (lvN n)) z (lvN (n + 1)) (p.1 : Int) (q2.1, p2) q3) := by
          rcases B2 with ⟨e, _, e2⟩ | ⟨e, _, t2, B⟩
          · exact Or.inl ⟨e, by rw [e2]⟩
          · exact Or.inr ⟨e, _, bk_w sS B hq3.2 hq3.1⟩
        have B3' : (g = -1 ∧ q4.1 = q3.1) ∨ (g = (q3.1 : Int) ∧ ∃ p3, BkD (RwD (StW z (StD N M z n)) z (lvN n)) z (lvN (n + 1)) (p.1 : Int) (q3.1, p3) q4) := by
          rcases B3 with ⟨e, e2⟩ | ⟨e, t2, B⟩
          · exact Or.inl ⟨e, by rw [e2]⟩
          · exact Or.inr ⟨e, _, bk_w sS B hz4 hq4⟩
        have h1 := nc_ty hp hR hRc hRa hRt lv (bk_w sS B1 hq2.2 hq2.1) B2' B3' R.kj R.pa R.bj R.oj R.gj
        exact ⟨by rw [R.lev]; exact lv, h1⟩
      · have e := R.kj
        exact ⟨by rw [R.lev]; exact lv, nc_ju (by omega)⟩
      · have e := R.kj
        exact ⟨by rw [R.lev]; exact lv, fun _ _ _ _ _ _ _ _ _ _ _ q2 => nc_lf (by omega) q2⟩
      · have e := R.kj
        exact ⟨by rw [R.lev]; exact lv, fun _ _ _ _ _ _ _ _ _ _ _ q2 => nc_lf (by omega) q2⟩
      · have e := R.kj
        exact ⟨by rw [R.lev]; exact lv, fun _ _ _ _ _ _ _ _ _ _ _ q2 => nc_lf (by omega) q2⟩
    intro f f' r g m hf hf' K hF hG e1 e2
    have hf : 2 * (q1.1 - p.1) ≤ f + 1 := hf
    have hf' : 2 * (q1.1 - p.1) ≤ f' + 1 := hf'
    obtain ⟨f, rfl⟩ : ∃ k, f = k + 1 := ⟨f - 1, by omega⟩
    obtain ⟨f', rfl⟩ : ∃ k, f' = k + 1 := ⟨f' - 1, by omega⟩
    rw [rc_st] at e1
    unfold stRc at e1
    rw [if_pos rfl, if_pos key.1] at e1
    rw [as_st] at e2
    have e2 : geA (if lvS z p.1 ≤ 20 then inA (asF N z T f') N z T p.1 m (gaB p.1 m g) else (m, gaB p.1 m g)).2 = false := e2
    rw [if_pos key.1] at e2
    obtain ⟨R, h⟩ := key.2 f f' r g m (by omega) (by omega) K hF hG e1 e2
    rw [d_st, d_t, h]
    exact ⟨_, rfl⟩

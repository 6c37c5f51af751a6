/-! SURELY assigned, as the class goes, is what the function of y20 says: switch, try; all S's -/
/-- a row that does not end: all holds behind it -/
abbrev DaRo (N : Int → Int) (z : ZS) (T : TbT) (Rw : RsT) : Prop := ∀ a L p q, Rw 0 0 a L p q → ∀ (f : Nat) (m : Int64) (R : ReG), 2 * (q.1 - p.1) ≤ f → (dF N z T f).1 (hdI L) true m = some R → R.1 = false → R.2.1 = allB
section
variable {N : Int → Int} {z : ZS} {T : TbT} {a lv t : Int} {j k : Nat} {l : List ItZ} {q : Ps} {St : SsT} {Rw : RsT}
theorem as_srow (hS : AsSo N z T St) (hkd : ∀ a p q, St a p q → ¬ kjS z p.1 = 62 ∧ ¬ kjS z p.1 = 63) : ∀ (L : List Nat) (p q : Ps), RwD St z lv 1 k a L p q → p.1 ≤ q.1 ∧ ∀ (f f' : Nat) (g : GzA) (al d : Bool) (m ch : Int64) (R : Bool × ReG), 2 * (q.1 - p.1) ≤ f → 2 * (q.1 - p.1) ≤ f' → KrW z a p.1 q.1 → FrAd p.1 q.1 g → (dF N z T f).2.1 (hdI L) ch al m d = some R → ((asF N z T f').2.1 (hdI L) ch m d g).1 = R.2.2.1 ∧ ((asF N z T f').2.1 (hdI L) ch m d g).2.1 = R.1 ∧ UaD z a p.1 q.1 g ((asF N z T f').2.1 (hdI L) ch m d g).2.2 R.2.2.2.1 ∧ LgA z p.1 q.1 ((asF N z T f').2.1 (hdI L) ch m d g).2.2 R.2.2.2.2 := by
  intro L
  induction L with
  | nil =>
    intro p q h
    rw [show q = p from h]
    refine ⟨Nat.le_refl _, fun f f' g al d m ch R hf hf' K hF h => ?_⟩
    rw [show hdI [] = -1 from rfl, d_s0 (by decide)] at h
    cases h
    rw [show hdI [] = -1 from rfl, as_s0 (by decide)]
    exact ⟨rfl, rfl, UaD.rf, LgA.nil⟩
  | cons j L ih =>
    intro p q ⟨e1, e2, p1, h1, h2⟩
    obtain ⟨i1, i2⟩ := ih p1 q h2
    subst e1
    rcases h1 with ⟨_, h1⟩ | h1
    · have cs : (kjS z p.1 = 62 ∨ kjS z p.1 = 63) ∧ p1.1 = p.1 + 1 := by
        rcases h1 with ⟨t, m, r, R, _, rfl⟩ | ⟨t, R, rfl⟩
        · exact ⟨Or.inl R.kj, rfl⟩
        · exact ⟨Or.inr R.kj, rfl⟩
      refine ⟨by omega, fun f f' g al d m ch R hf hf' K hF h => ?_⟩
      obtain ⟨f, rfl⟩ : ∃ k, f = k + 1 := ⟨f - 1, by omega⟩
      obtain ⟨f', rfl⟩ : ∃ k, f' = k + 1 := ⟨f' - 1, by omega⟩
      rw [show hdI (p.1 :: L) = (p.1 : Int) from rfl, d_s1 cs.1, e2] at h
      rw [show hdI (p.1 :: L) = (p.1 : Int) from rfl, as_s1 cs.1, e2]
      obtain ⟨v1, v2, v3, v4⟩ := i2 f f' g true _ _ ch R (by omega) (by omega) (K.nx (by omega)) (hF.wd (by omega) (Nat.le_refl _)) h
      exact ⟨v1, v2, v3.wd (by omega) (Nat.le_refl _), v4.wd (by omega) (Nat.le_refl _)⟩
    · obtain ⟨s1, s2⟩ := hS _ _ _ h1
      have cs := hkd _ _ _ h1
      refine ⟨by omega, fun f f' g al d m ch R hf hf' K hF h => ?_⟩
      obtain ⟨f, rfl⟩ : ∃ k, f = k + 1 := ⟨f - 1, by omega⟩
      obtain ⟨f', rfl⟩ : ∃ k, f' = k + 1 := ⟨f' - 1, by omega⟩
      rw [show hdI (p.1 :: L) = (p.1 : Int) from rfl, d_s2 (by omega), e2] at h
      obtain ⟨R1, g1, h⟩ := obind h
      obtain ⟨R2, g2, rfl⟩ := omap h
      have alt : al = true := by
        cases al
        · rw [d_fa (by omega)] at g1
          cases g1
        · rfl
      subst alt
      obtain ⟨u1, u2, u3⟩ := s2 f f' g m R1 (by omega) (by omega) (K.hd i1 s1) (hF.wd (Nat.le_refl _) i1) g1
      rw [show hdI (p.1 :: L) = (p.1 : Int) from rfl, as_s2 (by omega), e2, u1]
      generalize (asF N z T f').2.2 p.1 m g = o1 at u1 u2 u3 ⊢
      obtain ⟨v1, v2, v3, v4⟩ := i2 f f' o1.2 R1.1 d R1.2.1 ch R2 (by omega) (by omega) (K.nx (Nat.le_of_lt s1)) (hF.nx u2 (Nat.le_of_lt s1)) g2
      refine ⟨v1, v2, ?_, ?_⟩
      · exact (u2.wd (Nat.le_refl _) i1).tr (v3.wd (Nat.le_of_lt s1) (Nat.le_refl _)) K.2.2.1
      · exact ((u3.fr (fun i a b => (v3.1 i (by omega)).1)).wd (Nat.le_refl _) i1).ap (v4.wd (Nat.le_of_lt s1) (Nat.le_refl _))
theorem as_sw (hS : AsSo N z T St) (hkd : ∀ a p q, St a p q → ¬ kjS z p.1 = 62 ∧ ¬ kjS z p.1 = 63) {L : List Nat} {p : Nat × List ItZ} {q1 : Ps} (hr : RwD St z lv 1 k j L (j + 1, p) q1) (hk : kjS z j = 61) (hpa : paS z j = a) (hb : bjS z j = hdI L) : AsI N z T a j q1.1 := by
  intro f f' g m R hf hf' K hF h
  obtain ⟨s1, s2⟩ := as_srow (N := N) (T := T) hS hkd _ _ _ hr
  have s1 : j + 1 ≤ q1.1 := s1
  rw [i_61 hk] at h
  rw [ia_61 hk]
  unfold swD' at h
  obtain ⟨e, he, h⟩ := obind h
  rw [hb] at h
  obtain ⟨R1, h1, rfl⟩ := omap h
  have fj := fac_in (z := z) (j := j) (by omega) hpa K.2.2.2.1
  obtain ⟨g0, x1, x2, x3, x4, x5, x6, x7⟩ := as_ex (g := gaB j m g) he
  unfold swA
  rw [x1, hb]
  dsimp only
  obtain ⟨g1, g2, g3, g4⟩ := s2 f f' g0 false false allB _ R1 (by show 2 * (q1.1 - (j + 1)) ≤ f; omega) (by show 2 * (q1.1 - (j + 1)) ≤ f'; omega) (K.iw (by omega) hpa (Nat.lt_succ_self _) (Nat.le_refl _)) ((hF.wd (Nat.le_succ _) (Nat.le_refl _)).c x6 x7) h1
  have g3 : UaD z (j : Int) (j + 1) q1.1 (gaB j m g) ((asF N z T f').2.1 (hdI L) (e.1 &&& e.2) allB false g0).2.2 R1.2.2.2.1 := (x4 _ _ _).tr g3 fj
  have jj := ua_j g3 (Nat.lt_succ_self _) (hF j (Nat.le_refl _) (by omega))
  refine ⟨?_, ?_, g4, (g3.1 j (by omega)).1.trans ga_bj⟩
  · rw [g1, g2, jj.1]
  · exact g3.up K.2.2.2.2 (Nat.lt_succ_self _) s1 (by have := K.1; omega) (by omega) hpa (fun i o hi => cmP_ne (fun q => by have := q.1; omega))
/-- a block of try, as the class goes into it -/
theorem as_bk (hp : ∀ i, i < snM z → paS z i < (i : Int)) (hR : AsRo N z T Rw) (hT : JtRo N z T Rw) (hl : lv ≤ 20) {p q : Ps} (hB : BkD Rw z lv (j : Int) p q) {hi : Nat} (hpj : j < p.1) (hq : q.1 ≤ hi) (K : KrD z a j hi) (hk : ¬ kjS z j = 92) (hk1 : ¬ LpK (kjS z (j + 1))) (hpa : paS z j = a) (hg : 0 ≤ gjS z j → ¬ gjS z j = (p.1 : Int) → (q.1 : Int) ≤ gjS z j) {f f' : Nat} {g : GzA} {m : Int64} {R : ReG} (hf : 2 * (q.1 - p.1) ≤ f + 2) (hf' : 2 * (q.1 - p.1) ≤ f' + 1) (hF : FrAd p.1 q.1 g) (h : (dF N z T f).1 (bjS z p.1) true m = some R) {fn : Int64 → Int64} (hen : ∀ m : Int64, (if hfA z p.1 = true then m ||| g.2.1 (gjS z j).toNat else m) = fn m) :
    p.1 < q.1 ∧ ((asF N z T f').2.2 p.1 m g).1 = R.2.1 ∧ UaD z (j : Int) (j + 1) q.1 g ((asF N z T f').2.2 p.1 m g).2 (R.2.2.1.map (fun x => (x.1, x.2.1, x.2.2.1, fn x.2.2.2))) ∧ LgA z p.1 q.1 ((asF N z T f').2.2 p.1 m g).2 R.2.2.2 ∧ ((asF N z T f').2.2 p.1 m g).2.2.1 p.1 = R.2.1 ∧ ∀ i, ¬ (p.1 ≤ i ∧ i < q.1) → (((asF N z T f').2.2 p.1 m g).2.1 i = g.1 i ∧ ((asF N z T f').2.2 p.1 m g).2.2.1 i = g.2.1 i) ∧ (j < i → ((asF N z T f').2.2 p.1 m g).2.2.2.1 i = g.2.2.1 i ∧ ((asF N z T f').2.2 p.1 m g).2.2.2.2.1 i = g.2.2.2.1 i) := by
  have kz := K.1
  have jt := (jt_bk hT hB hf (by omega) h).1
  obtain ⟨L, t, hr, D⟩ := hB
  obtain ⟨s1, s2⟩ := hR _ _ _ _ hr
  have s1 : p.1 + 1 ≤ q.1 := s1
  have fj := fac_in hk hpa K.2.2.2.1
  have fb : ∀ k, FaC z q.1 k ((p.1 : Nat) : Int) := fac_bk (z := z) (hi := q.1) (j := p.1) (a := (j : Int)) D.pa (by rw [Int.toNat_natCast]; exact hg) (fun k => (fj k).mo hq)
  rw [D.bj] at h
  obtain ⟨f', rfl⟩ : ∃ k, f' = k + 1 := ⟨f' - 1, by omega⟩
  obtain ⟨g1, g2, g3⟩ := s2 f f' (gaB p.1 m g) true m R (by show 2 * (q.1 - (p.1 + 1)) ≤ f; omega) (by show 2 * (q.1 - (p.1 + 1)) ≤ f'; omega) ⟨by omega, by show ((p.1 : Nat) : Int) < ((p.1 + 1 : Nat) : Int); omega, fb, K.2.2.2.2⟩ (hF.wd (Nat.le_succ _) (Nat.le_refl _)) h
  have g2 : UaD z ((p.1 : Nat) : Int) (p.1 + 1) q.1 (gaB p.1 m g) ((asF N z T f').1 (hdI L) m (gaB p.1 m g)).2 R.2.2.1 := g2
  have g3 : LgA z (p.1 + 1) q.1 ((asF N z T f').1 (hdI L) m (gaB p.1 m g)).2 R.2.2.2 := g3
  rw [as_st]
  unfold stA
  rw [if_pos (by rw [D.lev]; exact hl), ia_2 (Or.inr D.kj), D.bj]
  dsimp only
  generalize (asF N z T f').1 (hdI L) m (gaB p.1 m g) = o at g1 g2 g3 ⊢
  refine ⟨by omega, g1, ?_, ?_, ?_, fun i hi => ⟨⟨?_, ?_⟩, fun ji => ?_⟩⟩
  · show UaD z (j : Int) (j + 1) q.1 g (gaH p.1 o.1 o.2) _
    exact g2.bk K.2.2.2.2 (Nat.lt_succ_self _) s1 (by omega) D.pa hpj hen
  · show LgA z p.1 q.1 (gaH p.1 o.1 o.2) R.2.2.2
    exact (g3.fr (fun i a b => rfl)).wd (Nat.le_succ _) (Nat.le_refl _)
  · show upN o.2.2.1 p.1 o.1 p.1 = R.2.1
    unfold upN
    rw [if_pos rfl, g1]
  · show o.2.1 i = _
    rw [(g2.1 i (fun c => hi (by omega))).1]
    exact if_neg (by omega)
  · show upN o.2.2.1 p.1 o.1 i = _
    unfold upN
    rw [if_neg (by omega)]
    exact (g2.1 i (fun c => hi (by omega))).2
  · show o.2.2.2.1 i = g.2.2.1 i ∧ o.2.2.2.2.1 i = g.2.2.2.1 i
    by_cases c : q.1 ≤ i
    · exact g2.2.1 i c
    · have w := g2.2.2.1 i (by omega)
      have n := jt_gt hp (by omega) jt hk1 i ji
      rw [w.1, w.2, cmP_0 n, cmP_0 n, an_al, an_al]
      exact ⟨rfl, rfl⟩
theorem cmP_cg {bh : Nat → Int64} {tg : Int} {on : Bool} {J : List JmZ} {f h : Int64 → Int64} {u v : JmZ → Bool} (e : ∀ x ∈ J, f x.2.2.2 = h x.2.2.2) : cmP z bh tg on a (J.map (fun x => (x.1, x.2.1, u x, f x.2.2.2))) = cmP z bh tg on a (J.map (fun x => (x.1, x.2.1, v x, h x.2.2.2))) := by
  induction J with
  | nil => rfl
  | cons x J ih =>
    show (if x.1 = tg ∧ x.2.1 = on then ltP z bh tg a (f x.2.2.2) &&& cmP z bh tg on a (J.map _) else cmP z bh tg on a (J.map _)) = (if x.1 = tg ∧ x.2.1 = on then ltP z bh tg a (h x.2.2.2) &&& cmP z bh tg on a (J.map _) else cmP z bh tg on a (J.map _))
    rw [ih (fun y hy => e y (List.mem_cons_of_mem _ hy)), e x List.mem_cons_self]
theorem map_id4 {J : List JmZ} : J.map (fun x => (x.1, x.2.1, x.2.2.1, x.2.2.2)) = J := List.map_id J
theorem as_ty (hp : ∀ i, i < snM z → paS z i < (i : Int)) (hR : AsRo N z T Rw) (hT : JtRo N z T Rw) (hD : DaRo N z T Rw) (hl : lv ≤ 20) {p : Nat × List ItZ} {q1 q2 q3 : Ps} {o g v : Int} (B1 : BkD Rw z lv (j : Int) (j + 1, p) q1) (B2 : (o = -1 ∧ q2.1 = q1.1) ∨ (o = (q1.1 : Int) ∧ ∃ p2, BkD Rw z lv (j : Int) (q1.1, p2) q2)) (B3 : (g = -1 ∧ q3.1 = q2.1) ∨ (g = (q2.1 : Int) ∧ ∃ p3, BkD Rw z lv (j : Int) (q2.1, p3) q3)) (hk : kjS z j = 68) (hpa : paS z j = a) (hb : bjS z j = ((j + 1 : Nat) : Int)) (ho : ojS z j = o) (hg : gjS z j = g) : AsI N z T a j q3.1 := by
  intro f f' gg m R hf hf' K hF h
  have hk92 : ¬ kjS z j = 92 := by omega
  rw [i_68 hk] at h
  rw [ia_68 hk]
  unfold tyD' at h
  rw [bkD_e hb, ho, hg] at h
  obtain ⟨A, hA, h⟩ := obind h
  obtain ⟨C, hC, h⟩ := obind h
  have kz := K.1
  have fj := fac_in hk92 hpa K.2.2.2.1
  obtain ⟨L1, t1, hr1, D1⟩ := id B1
  have hk1 : ¬ LpK (kjS z (j + 1)) := by
    have e : kjS z (j + 1) = 92 := D1.kj
    unfold LpK
    omega
  have l1 : j + 1 + 1 ≤ q1.1 := (hR _ _ _ _ hr1).1
  have l2 : q1.1 ≤ q2.1 := by
    rcases B2 with ⟨_, e⟩ | ⟨_, p2, L2, t2, hr2, D2⟩
    · omega
    · have : q1.1 + 1 ≤ q2.1 := (hR _ _ _ _ hr2).1
      omega
  have l3 : q2.1 ≤ q3.1 := by
    rcases B3 with ⟨_, e⟩ | ⟨_, p2, L2, t2, hr2, D2⟩
    · omega
    · have : q2.1 + 1 ≤ q3.1 := (hR _ _ _ _ hr2).1
      omega
  have gge : 0 ≤ gjS z j → (q2.1 : Int) ≤ gjS z j := fun z0 => by
    rw [hg] at z0 ⊢
    rcases B3 with ⟨e, _⟩ | ⟨e, _⟩ <;> omega
  have g0b : (gaB j m gg).2.1 = gg.2.1 := rfl
  -- the finally, first: its bits b3; what leaves body and catch gets fn
  obtain ⟨b3, r3, J3, G3, fn, hfin, hen, ⟨hR1, hRJ, hRG, hn3⟩, u3, lg3, fr3⟩ : ∃ (b3 : Int64) (r3 : GzA) (J3 : List JmZ) (G3 : List (Nat × Int64 × Bool)) (fn : Int64 → Int64), (if gjS z j < 0 then (zerB, gaB j m gg) else (asF N z T f').2.2 (gjS z j).toNat m (gaB j m gg)) = (b3, r3) ∧ (0 ≤ gjS z j → ∀ x, x ||| r3.2.1 (gjS z j).toNat = fn x) ∧ (R.2.1 = C.2.1 ||| b3 ∧ (∀ (bh : Nat → Int64) (i : Nat) (x : Bool) (aa : Int), cmP z bh i x aa R.2.2.1 = cmP z bh i x aa (C.2.2.1.map (fun x => (x.1, x.2.1, x.2.2.1, fn x.2.2.2))) &&& cmP z bh i x aa J3) ∧ R.2.2.2 = C.2.2.2 ++ G3 ∧ (gjS z j < 0 → ∀ x, fn x = x)) ∧ UaD z (j : Int) (j + 1) q3.1 (gaB j m gg) r3 J3 ∧ LgA z q2.1 q3.1 r3 G3 ∧ ∀ i, ¬ (q2.1 ≤ i ∧ i < q3.1) → (r3.1 i = (gaB j m gg).1 i ∧ r3.2.1 i = gg.2.1 i) ∧ (j < i → r3.2.2.1 i = gg.2.2.1 i ∧ r3.2.2.2.1 i = gg.2.2.2.1 i) := by
    rcases B3 with ⟨e, e2⟩ | ⟨e, p3, B3⟩
    · rw [e, if_pos (by decide)] at h
      cases h
      exact ⟨zerB, gaB j m gg, [], [], fun x => x, by rw [hg, e, if_pos (by decide)], fun c => absurd c (by rw [hg, e]; decide), ⟨or_ze.symm, fun bh i x aa => by rw [map_id4, show cmP z bh i x aa [] = allB from rfl, an_al], (List.append_nil _).symm, fun _ _ => rfl⟩, UaD.rf, LgA.nil, fun i _ => ⟨⟨rfl, rfl⟩, fun _ => ⟨rfl, rfl⟩⟩⟩
    · rw [e, if_neg (by omega), bkD_e rfl] at h
      obtain ⟨D, hD3, rfl⟩ := omap h
      obtain ⟨L3, t3, hr3, E3⟩ := id B3
      have hfa : hfA z q2.1 = false := by
        rw [hfa_t E3.kj E3.pa, hg, e]
        simp
      have hD3' := hD3
      rw [show bjS z q2.1 = hdI L3 from E3.bj] at hD3'
      have dall := hD _ _ _ _ hr3 f m D (by show 2 * (q3.1 - (q2.1 + 1)) ≤ f; omega) hD3'
      obtain ⟨b0, b1, b2, b3, b4, b5⟩ := as_bk (fn := fun x => x) (f' := f') hp hR hT hl B3 (by show j < q2.1; omega) (Nat.le_refl _) K hk92 hk1 hpa (fun _ c => absurd (hg.trans e) c) (by show 2 * (q3.1 - q2.1) ≤ f + 2; omega) (by show 2 * (q3.1 - q2.1) ≤ f' + 1; omega) (hF.wd (by show j ≤ q2.1; omega) (Nat.le_refl _)) hD3 (g := gaB j m gg) (fun x => by rw [show hfA z (q2.1, p3).1 = hfA z q2.1 from rfl, hfa, if_neg (by decide)])
      have b1 : ((asF N z T f').2.2 q2.1 m (gaB j m gg)).1 = D.2.1 := b1
      have b4 : ((asF N z T f').2.2 q2.1 m (gaB j m gg)).2.2.1 q2.1 = D.2.1 := b4
      rw [map_id4] at b2
      refine ⟨D.2.1, ((asF N z T f').2.2 q2.1 m (gaB j m gg)).2, D.2.2.1, D.2.2.2, fun x => x ||| D.2.1, ?_, fun _ x => by rw [hg, e, Int.toNat_natCast, b4], ⟨rfl, fun bh i x aa => ?_, rfl, fun c => by rw [hg, e] at c; omega⟩, b2, b3, b5⟩
      · rw [hg, e, if_neg (by omega), Int.toNat_natCast, ← b1]
      · show cmP z bh i x aa (C.2.2.1.map (fnJ D.1 D.2.1) ++ D.2.2.1) = _
        rw [cmP_ap]
        congr 1
        have e9 : C.2.2.1.map (fnJ D.1 D.2.1) = C.2.2.1.map (fun x => (x.1, x.2.1, x.2.2.1 && D.1, if D.1 = true then x.2.2.2 ||| D.2.1 else allB)) := rfl
        rw [e9]
        refine cmP_cg (u := fun x => x.2.2.1 && D.1) (v := fun x => x.2.2.1) (f := fun y => if D.1 = true then y ||| D.2.1 else allB) (h := fun y => y ||| D.2.1) (fun x _ => ?_)
        cases d1 : D.1
        · rw [if_neg (by decide), dall d1, or_al]
        · rw [if_pos rfl]
  have hnn : ∀ (b : Nat) (rr : GzA), kjS z b = 92 → paS z b = (j : Int) → (b : Int) < q2.1 → (0 ≤ gjS z j → rr.2.1 (gjS z j).toNat = r3.2.1 (gjS z j).toNat) → ∀ x : Int64, (if hfA z b = true then x ||| rr.2.1 (gjS z j).toNat else x) = fn x := fun b rr c1 c2 c3 c4 x => by
    rw [hfa_t c1 c2]
    by_cases g0 : gjS z j < 0
    · rw [decide_eq_false (by omega), hn3 g0]
      rfl
    · have := gge (by omega)
      rw [c4 (by omega), hen (by omega), decide_eq_true (by omega), decide_eq_false (by omega)]
      rfl
  -- the body
  obtain ⟨b0, b1, b2, b3', b4, b5⟩ := as_bk (g := r3) (fn := fn) (f' := f') hp hR hT hl B1 (Nat.lt_succ_self _) (by omega) K hk92 hk1 hpa (fun c _ => by have := gge c; omega) (by show 2 * (q1.1 - (j + 1)) ≤ f + 2; omega) (by show 2 * (q1.1 - (j + 1)) ≤ f' + 1; omega) (fun i c1 c2 => by
    have c1 : j + 1 ≤ i := c1
    rw [((fr3 i (by omega)).2 (by omega)).1, ((fr3 i (by omega)).2 (by omega)).2]
    exact hF i (by omega) (by omega)) hA (hnn (j + 1) r3 D1.kj D1.pa (by omega) (fun _ => rfl))
  have b1 : ((asF N z T f').2.2 (j + 1) m r3).1 = A.2.1 := b1
  have b2 : UaD z (j : Int) (j + 1) q1.1 r3 ((asF N z T f').2.2 (j + 1) m r3).2 (A.2.2.1.map (fun x => (x.1, x.2.1, x.2.2.1, fn x.2.2.2))) := b2
  have b3' : LgA z (j + 1) q1.1 ((asF N z T f').2.2 (j + 1) m r3).2 A.2.2.2 := b3'
  have b5 : ∀ i, ¬ (j + 1 ≤ i ∧ i < q1.1) → (((asF N z T f').2.2 (j + 1) m r3).2.1 i = r3.1 i ∧ ((asF N z T f').2.2 (j + 1) m r3).2.2.1 i = r3.2.1 i) ∧ (j < i → ((asF N z T f').2.2 (j + 1) m r3).2.2.2.1 i = r3.2.2.1 i ∧ ((asF N z T f').2.2 (j + 1) m r3).2.2.2.2.1 i = r3.2.2.2.1 i) := b5
  unfold tyA
  dsimp only
  rw [hfin, bdA_e hb]
  dsimp only
  generalize (asF N z T f').2.2 (j + 1) m r3 = o1 at b1 b2 b3' b5 ⊢
  -- the catch
  obtain ⟨o2, ho2, hC1, ⟨K2, u2, hK2⟩, lg2⟩ : ∃ o2 : Int64 × GzA, (if ojS z j < 0 then o1 else (o1.1 &&& ((asF N z T f').2.2 (ojS z j).toNat (if ljS z j < 0 then m else m ||| bitQ (ljS z j)) o1.2).1, ((asF N z T f').2.2 (ojS z j).toNat (if ljS z j < 0 then m else m ||| bitQ (ljS z j)) o1.2).2)) = o2 ∧ o2.1 = C.2.1 ∧ (∃ K2, UaD z (j : Int) (j + 1) q2.1 r3 o2.2 K2 ∧ K2 = C.2.2.1.map (fun x => (x.1, x.2.1, x.2.2.1, fn x.2.2.2))) ∧ LgA z (j + 1) q2.1 o2.2 C.2.2.2 := by
    rcases B2 with ⟨e, e2⟩ | ⟨e, p2, B2⟩
    · rw [e, if_pos (by decide)] at hC
      cases hC
      exact ⟨o1, by rw [ho, e, if_pos (by decide)], b1, ⟨_, b2.wd (Nat.le_refl _) l2, rfl⟩, b3'.wd (Nat.le_refl _) l2⟩
    · rw [e, if_neg (by omega), bkD_e rfl] at hC
      obtain ⟨B, hB, rfl⟩ := omap hC
      obtain ⟨L2, t2, hr2, D2⟩ := id B2
      have lq : q1.1 + 1 ≤ q2.1 := (hR _ _ _ _ hr2).1
      obtain ⟨c0, c1, c2, c3, c4, c5⟩ := as_bk (g := o1.2) (fn := fn) (f' := f') hp hR hT hl B2 (by show j < q1.1; omega) (by omega) K hk92 hk1 hpa (fun c _ => gge c) (by show 2 * (q2.1 - q1.1) ≤ f + 2; omega) (by show 2 * (q2.1 - q1.1) ≤ f' + 1; omega) (fun i d1 d2 => by
        have d1 : q1.1 ≤ i := d1
        rw [((b5 i (by omega)).2 (by omega)).1, ((b5 i (by omega)).2 (by omega)).2, ((fr3 i (by omega)).2 (by omega)).1, ((fr3 i (by omega)).2 (by omega)).2]
        exact hF i (by omega) (by omega)) hB (hnn q1.1 o1.2 D2.kj D2.pa (by omega) (fun c => (b5 (gjS z j).toNat (by have := gge c; omega)).1.2))
      generalize (if ljS z j < 0 then m else m ||| bitQ (ljS z j)) = mm at c0 c1 c2 c3 c4 c5 ⊢
      have c1 : ((asF N z T f').2.2 q1.1 mm o1.2).1 = B.2.1 := c1
      have c2 : UaD z (j : Int) (j + 1) q2.1 o1.2 ((asF N z T f').2.2 q1.1 mm o1.2).2 (B.2.2.1.map (fun x => (x.1, x.2.1, x.2.2.1, fn x.2.2.2))) := c2
      have c3 : LgA z q1.1 q2.1 ((asF N z T f').2.2 q1.1 mm o1.2).2 B.2.2.2 := c3
      have c5 : ∀ i, ¬ (q1.1 ≤ i ∧ i < q2.1) → ((asF N z T f').2.2 q1.1 mm o1.2).2.1 i = o1.2.1 i := fun i hi => (c5 i hi).1.1
      refine ⟨(o1.1 &&& ((asF N z T f').2.2 q1.1 mm o1.2).1, ((asF N z T f').2.2 q1.1 mm o1.2).2), by rw [ho, e, if_neg (by omega), Int.toNat_natCast], by show o1.1 &&& _ = A.2.1 &&& B.2.1; rw [b1, c1], ⟨_, (b2.wd (Nat.le_refl _) l2).tr c2 (fun k => (fj k).mo (by omega)), ?_⟩, ?_⟩
      · show _ = (A.2.2.1 ++ B.2.2.1).map _
        rw [List.map_append]
      · exact ((b3'.fr (fun i d1 d2 => c5 i (by omega))).wd (Nat.le_refl _) l2).ap (c3.wd (by omega) (Nat.le_refl _))
  have fin : ∀ x : Int64 × GzA, x = o2 → (x.1 ||| b3) = R.2.1 ∧ UaD z a j q3.1 gg (gaH j R.2.1 x.2) R.2.2.1 ∧ LgA z (j + 1) q3.1 x.2 R.2.2.2 ∧ x.2.1 j = m := fun x hx => by
    rw [hx]
    have tot := u3.tr (u2.wd (Nat.le_refl _) l3) fj
    refine ⟨by rw [hC1, hR1], ?_, ?_, (tot.1 j (by omega)).1.trans ga_bj⟩
    · refine tot.up K.2.2.2.2 (Nat.lt_succ_self _) (by omega) (by omega) hk92 hpa (fun i x _ => ?_)
      rw [hRJ, cmP_ap, hK2, an_co]
    · rw [hRG]
      refine (lg2.wd (Nat.le_refl _) l3).ap ((lg3.fr (fun i d1 d2 => (u2.1 i (by omega)).1)).wd (by omega) (Nat.le_refl _))
  exact fin _ ho2
end

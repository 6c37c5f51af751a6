/-! which variables are known where -/
def vrL : List (Int × Int × Int × Int) → Nat → Int × Int × Int × Int
  | [], _ => (0, 0, 0, -1)
  | a :: l, u => if u = l.length then a else vrL l u
def knW (z : ZS) : List (Int × Int) := z.2.2.2.1.1
def enW (z : ZS) (u : Nat) : Int := z.2.2.2.2.1 u
def mcW (z : ZS) : Int := ((zMs z.1).length : Int) - 1
def vnW (z : ZS) : Nat := (zVs z.1).length
def VisW (N : Int → Int) (z : ZS) (m q : Int) (u : Nat) : Prop := (vrL (zVs z.1) u).2.2.2 = m ∧ (vrL (zVs z.1) u).1 < q ∧ ((∃ p ∈ knW z, p.1 = (u : Int)) ∨ q ≤ enW z u) ∧ N (vrL (zVs z.1) u).1 = N q
def LkW (N : Int → Int) (z : ZS) (m q v : Int) : Prop := -1 ≤ v ∧ (0 ≤ v → v < (vnW z : Int) ∧ VisW N z m q v.toNat) ∧ ∀ u : Nat, v < (u : Int) → u < vnW z → ¬ VisW N z m q u
abbrev NvI (x : XrZ) : Prop := x.1.1 = 2 ∨ x.1.1 = 6 ∨ x.1.1 = 9 ∨ x.1.1 = 14
def clW (z : ZS) (u : Nat) : Int := z.2.2.2.2.2.1 u
/-- whether a variable's NAME was known already -/
def CkW (N : Int → Int) (z : ZS) : Prop := ∀ u, u < vnW z → ∃ w, (0 ≤ w ↔ clW z u = 1) ∧ LkW N z (vrL (zVs z.1) u).2.2.2 (vrL (zVs z.1) u).1 w
def ItW (N : Int → Int) (z : ZS) : Prop := (∀ x l, (.inl x :: l) <:+ z.2.1 → NvI x → (x.2.1.1 < zAt z.1 ∧ 0 ≤ x.2.1.1 ∧ zK z.1 x.2.1.1.toNat = 80) ∧ LkW N z (mdZ l) x.2.1.1 x.2.1.2.1) ∧ CkW N z
/-- inside a method -/
def KvI (N : Int → Int) (z : ZS) : Prop := (0 ≤ zAt z.1 ∧ zAt z.1 ≤ 500) ∧ ((knW z).Pairwise (fun a b => b.1 < a.1) ∧ ∀ p ∈ knW z, (0 ≤ p.1 ∧ p.1 < (vnW z : Int)) ∧ (vrL (zVs z.1) p.1.toNat).1 = p.2 ∧ (vrL (zVs z.1) p.1.toNat).2.2.2 = mcW z) ∧ (∀ u, u < vnW z → (vrL (zVs z.1) u).2.2.2 = mcW z → ¬ (∃ p ∈ knW z, p.1 = (u : Int)) → enW z u < zAt z.1) ∧ (∀ u, u < vnW z → ((vrL (zVs z.1) u).1 < zAt z.1 ∧ (vrL (zVs z.1) u).2.2.2 ≤ mcW z) ∧ 0 ≤ (vrL (zVs z.1) u).1 ∧ zK z.1 (vrL (zVs z.1) u).1.toNat = 80 ∧ 0 ≤ (vrL (zVs z.1) u).2.1 ∧ (vrL (zVs z.1) u).2.1 ≤ 4) ∧ ItW N z ∧ (mdZ z.2.1 : Int) = mcW z
def RkW (N : Int → Int) (z0 z : ZS) : Prop := (GpY z0.1 z.1 ∧ snM z0 ≤ snM z ∧ ∀ i, i < snM z0 → knS z i = knS z0 i) ∧ (zFt z.1 = 0 → KvI N z0 → KvI N z ∧ ∃ seg, knW z = seg ++ knW z0)
section
variable {N : Int → Int} {z0 z z' z1 : ZS} {j n k : Nat}
theorem lkw_cg {m q v : Int} (h : LkW N z m q v) (hn : vnW z' = vnW z) (hv : ∀ u, u < vnW z → (VisW N z' m q u ↔ VisW N z m q u)) : LkW N z' m q v := by
  obtain ⟨a, b, c⟩ := h
  refine ⟨a, fun v0 => ?_, fun u h1 h2 => ?_⟩
  · obtain ⟨b1, b2⟩ := b v0
    rw [hn]
    exact ⟨b1, (hv _ (by omega)).mpr b2⟩
  · rw [hn] at h2
    exact fun q => c u h1 h2 ((hv u h2).mp q)
theorem KvI.mv (h : KvI N z) (e2 : z'.1.2 = z.1.2) (ha : zAt z.1 ≤ zAt z'.1 ∧ zAt z'.1 ≤ 500) (ek : knW z' = knW z) (ee : enW z' = enW z) (ef : clW z' = clW z) (hi : ∀ x l, (.inl x :: l) <:+ z'.2.1 → NvI x → (.inl x :: l) <:+ z.2.1) (hm : mdZ z'.2.1 = mdZ z.2.1) : KvI N z' := by
  obtain ⟨⟨h1, h2⟩, h3, h4, h5, h6, h7⟩ := h
  have ev : zVs z'.1 = zVs z.1 := by unfold zVs; rw [e2]
  have em : mcW z' = mcW z := by unfold mcW zMs; rw [e2]
  have en : vnW z' = vnW z := by unfold vnW; rw [ev]
  have ez : zK z'.1 = zK z.1 := by unfold zK; rw [e2]
  have vi : ∀ m q u, VisW N z' m q u ↔ VisW N z m q u := fun m q u => by unfold VisW; rw [ev, ek, ee]
  refine ⟨⟨by omega, ha.2⟩, by rw [ek, en, ev, em]; exact h3, fun u => ?_, fun u => ?_, ⟨fun x l a b => ?_, fun u hu => ?_⟩, by rw [hm, em]; exact h7⟩
  · rw [en, ev, em, ek, ee]
    intro a b c
    have := h4 u a b c
    omega
  · rw [en, ev, em, ez]
    intro a
    have := h5 u a
    exact ⟨by omega, this.2⟩
  · obtain ⟨c, d⟩ := h6.1 x l (hi x l a b) b
    rw [ez]
    exact ⟨⟨by omega, c.2⟩, lkw_cg d en (fun u hu => vi _ _ u)⟩
  · rw [en] at hu
    obtain ⟨w, w1, w2⟩ := h6.2 u hu
    rw [ev, ef]
    exact ⟨w, w1, lkw_cg w2 en (fun u _ => vi _ _ u)⟩
theorem RkW.rf : RkW N z z := ⟨⟨GpY.rf, Nat.le_refl _, fun _ _ => rfl⟩, fun _ h => ⟨h, [], rfl⟩⟩
theorem RkW.tr (h : RkW N z0 z) (g : RkW N z z1) : RkW N z0 z1 := ⟨⟨h.1.1.tr g.1.1, Nat.le_trans h.1.2.1 g.1.2.1, fun i hi => (g.1.2.2 i (by have := h.1.2.1; omega)).trans (h.1.2.2 i hi)⟩, fun f k => by
  obtain ⟨a, s, e⟩ := h.2 (g.1.1.z f) k
  obtain ⟨b, s', e'⟩ := g.2 f a
  exact ⟨b, s' ++ s, by rw [e', e, List.append_assoc]⟩⟩
/-- nothing that matters changes -/
theorem RkW.mv (g : GpY z.1 z'.1) (e2 : z'.1.2 = z.1.2) (ek : knW z' = knW z) (ee : enW z' = enW z) (ef : clW z' = clW z) (hi : ∀ x l, (.inl x :: l) <:+ z'.2.1 → NvI x → (.inl x :: l) <:+ z.2.1) (hm : mdZ z'.2.1 = mdZ z.2.1) (hs : snM z ≤ snM z' ∧ ∀ i, i < snM z → knS z' i = knS z i) : RkW N z z' := ⟨⟨g, hs⟩, fun f k => ⟨k.mv e2 (g.2 k.1.2) ek ee ef hi hm, [], ek⟩⟩
theorem RkW.s {s' : SpC} (g : GpY z.1 s') (e2 : s'.2 = z.1.2) : RkW N z (s', z.2) := RkW.mv g e2 rfl rfl rfl (fun _ _ a _ => a) rfl ⟨Nat.le_refl _, fun _ _ => rfl⟩
theorem RkW.ac : RkW N z (accM z) := RkW.s (gd_acc _) mv_acc.1
theorem RkW.ra {c : Int} : RkW N z (raiM c z) := RkW.s (gd_rai _) mv_rai.1
theorem RkW.xp {c : Int} : RkW N z (xpM c z) := RkW.s (gd_xp _) mv_xp.1
theorem RkW.ty : RkW N z (typM z) := RkW.s (gd_typ _) mv_typ.1
theorem RkW.it {y : Int × Int × Int × Int × Int} (hy : ¬ y.1 = 54) : RkW N z (z.1, .inr y :: z.2.1, z.2.2) := RkW.mv GpY.rf rfl rfl rfl rfl (fun x l a _ => by
  have a : (Sum.inl x :: l) <:+ (Sum.inr y :: z.2.1) := a
  rcases List.suffix_cons_iff.mp a with e | e
  · cases (List.cons.inj e).1
  · exact e) (if_neg hy) ⟨Nat.le_refl _, fun _ _ => rfl⟩
theorem RkW.co {o a b t : Int} (h : ¬ o = 54) : RkW N z (coM o a b t z) := RkW.it h
theorem RkW.cx {o a b t : Int} (h : ¬ o = 54) : RkW N z (cxM o a b t z) := RkW.it h
theorem RkW.pu {x : XrZ} (h : x.1.1 = 15) : RkW N z (puM x z) := RkW.mv GpY.rf rfl rfl rfl rfl (fun y l a b => by
  have a : (Sum.inl y :: l) <:+ (Sum.inl x :: z.2.1) := a
  rcases List.suffix_cons_iff.mp a with e | e
  · have e := (List.cons.inj e).1
    cases e
    unfold NvI at b
    omega
  · exact e) rfl ⟨Nat.le_refl _, fun _ _ => rfl⟩
theorem RkW.ar {i : Int} : RkW N z (arM i z) := RkW.mv GpY.rf rfl rfl rfl rfl (fun _ _ a _ => a) rfl ⟨Nat.le_refl _, fun _ _ => rfl⟩
theorem RkW.un : RkW N z (unM j z) := RkW.ar
theorem RkW.th : RkW N z (thM z) := RkW.mv GpY.rf rfl rfl rfl rfl (fun _ _ a _ => a) rfl ⟨Nat.le_refl _, fun _ _ => rfl⟩
theorem RkW.se {f : SrZ → SrZ} (q : ∀ x : SrZ, (f x).2.1 = x.2.1) : RkW N z (seM j f z) := RkW.mv GpY.rf rfl rfl rfl rfl (fun _ _ a _ => a) rfl ⟨Nat.le_refl _, fun i hi => by
  show (if i = j then f (z.2.2.1.2 j) else z.2.2.1.2 i).2.1 = _
  split
  · rename_i c
    rw [q, c]
    rfl
  · rfl⟩
theorem RkW.be {c l : Int} : RkW N z (beM c l z) := RkW.mv GpY.rf rfl rfl rfl rfl (fun _ _ a _ => a) rfl ⟨Nat.le_succ _, fun i hi => by
  have e : reS (beM c l z) i = reS z i := if_neg (by have hi : i < z.2.2.1.1 := hi; omega)
  unfold knS
  rw [e]⟩
theorem kn_be {c l : Int} : knS (beM c l z) (snM z) = knW z := by
  have e : reS (beM c l z) (snM z) = _ := if_pos rfl
  unfold knS
  rw [e]
  rfl
theorem RkW.bg {c : Int} : RkW N z (bgM c n z) := RkW.be.tr (RkW.co (by decide))
theorem RkW.bh {c : Int} : RkW N z (bgH c n z) := RkW.bg.tr RkW.th
theorem RkW.en {c : Nat} : RkW N z (enM j c z) := RkW.co (by decide)
theorem RkW.po : RkW N z (poM z) := RkW.cx (by decide)
/-- a variable's link: the latest one known under the NAME -/
theorem lkz_l {K : List (Int × Int)} {q : Int} (hK : K.Pairwise (fun a b => b.1 < a.1)) : (lkZ N K q = -1 ∧ ∀ p ∈ K, ¬ N p.2 = N q) ∨ ∃ p ∈ K, lkZ N K q = p.1 ∧ N p.2 = N q ∧ ∀ p' ∈ K, N p'.2 = N q → p'.1 ≤ p.1 := by
  induction K with
  | nil => exact Or.inl ⟨rfl, fun _ h => absurd h List.not_mem_nil⟩
  | cons a K ih =>
    obtain ⟨v, k⟩ := a
    obtain ⟨h1, h2⟩ := List.pairwise_cons.mp hK
    rw [lkZ]
    by_cases c : N k = N q
    · rw [if_pos c]
      refine Or.inr ⟨(v, k), List.mem_cons_self, rfl, c, fun p hp _ => ?_⟩
      rcases List.mem_cons.mp hp with rfl | hp
      · exact Int.le_refl _
      · exact Int.le_of_lt (h1 p hp)
    · rw [if_neg c]
      rcases ih h2 with ⟨a1, a2⟩ | ⟨p, a1, a2, a3, a4⟩
      · refine Or.inl ⟨a1, fun p hp => ?_⟩
        rcases List.mem_cons.mp hp with rfl | hp
        · exact c
        · exact a2 p hp
      · refine Or.inr ⟨p, List.mem_cons_of_mem _ a1, a2, a3, fun p' hp hn => ?_⟩
        rcases List.mem_cons.mp hp with rfl | hp
        · exact absurd hn c
        · exact a4 p' hp hn
theorem lkz_ok (h : KvI N z) {q : Int} (hq : zAt z.1 ≤ q) : LkW N z (mcW z) q (lkZ N (knW z) q) := by
  obtain ⟨_, ⟨h3, h3'⟩, h4, h5, _, _⟩ := h
  have vis : ∀ u, u < vnW z → VisW N z (mcW z) q u → ∃ p ∈ knW z, p.1 = (u : Int) ∧ N p.2 = N q := fun u hu ⟨a, _, b, c⟩ => by
    by_cases k : ∃ p ∈ knW z, p.1 = (u : Int)
    · obtain ⟨p, p1, p2⟩ := k
      have := (h3' p p1).2.1
      rw [p2, Int.toNat_natCast] at this
      exact ⟨p, p1, p2, by rw [← this]; exact c⟩
    · have := h4 u hu a k
      rcases b with b | b
      · exact absurd b k
      · omega
  rcases lkz_l (N := N) (q := q) h3 with ⟨a1, a2⟩ | ⟨p, a1, a2, a3, a4⟩
  · rw [a1]
    refine ⟨Int.le_refl _, fun q => absurd q (by decide), fun u _ hu hv => ?_⟩
    obtain ⟨p, p1, _, p3⟩ := vis u hu hv
    exact a2 p p1 p3
  · obtain ⟨⟨b1, b2⟩, b3, b4⟩ := h3' p a1
    rw [a2]
    refine ⟨by omega, fun _ => ⟨b2, b4, ?_, Or.inl ⟨p, a1, by omega⟩, by rw [b3]; exact a3⟩, fun u hu1 hu hv => ?_⟩
    · have := (h5 p.1.toNat (by omega)).1.1
      omega
    · obtain ⟨p', p1, p2, p3⟩ := vis u hu hv
      have := a4 p' p1 p3
      omega
theorem e_2 (h : 0 ≤ zAt z.1) : (eM N n z).1.2 = z.1.2 := by
  have c : ClX N (fun w => 0 ≤ zAt w.1 ∧ w.1.2 = z.1.2) := ⟨⟨fun _ q => q.1, fun w s' q e g => ⟨Int.le_trans q.1 g, e.trans q.2⟩⟩, fun _ _ q _ => q⟩
  exact (iv_e c (n := n) z ⟨h, rfl⟩).2
theorem RkW.ee : RkW N z (eM N n z) := by
  have ks : (eM N n z).2.2 = z.2.2 := (ks_lv (N := N) n).1 z
  have g : GpY z.1 (eM N n z).1 := by rw [lf_e z]; exact gd_e _
  have sn : snM (eM N n z) = snM z := by unfold snM; rw [ks]
  have kk : knW (eM N n z) = knW z := by unfold knW; rw [ks]
  refine ⟨⟨g, by omega, fun i _ => by unfold knS reS; rw [ks]⟩, fun f k => ⟨?_, [], kk⟩⟩
  obtain ⟨t, et, pt⟩ := ((ew_lv (N := N) n).1 z).2 f k.1.2
  have m := g.2 k.1.2
  have e2 := e_2 (N := N) (n := n) k.1.1
  have ev : zVs (eM N n z).1 = zVs z.1 := by unfold zVs; rw [e2]
  have em : mcW (eM N n z) = mcW z := by unfold mcW zMs; rw [e2]
  have en : vnW (eM N n z) = vnW z := by unfold vnW; rw [ev]
  have ee : enW (eM N n z) = enW z := by unfold enW; rw [ks]
  have ez : zK (eM N n z).1 = zK z.1 := by unfold zK; rw [e2]
  have vi : ∀ m q u, VisW N (eM N n z) m q u ↔ VisW N z m q u := fun m q u => by unfold VisW; rw [ev, kk, ee]
  have lk : ∀ m q v, LkW N z m q v → LkW N (eM N n z) m q v := fun m q v h => lkw_cg h en (fun u _ => vi m q u)
  obtain ⟨⟨h1, h2⟩, h3, h4, h5, h6, h7⟩ := id k
  have mdx : ∀ u : List XrZ, mdZ (u.map Sum.inl ++ z.2.1) = mdZ z.2.1 := fun u => by
    induction u with
    | nil => rfl
    | cons x u ih => exact ih
  refine ⟨⟨by omega, m.2⟩, by rw [kk, en, ev, em]; exact h3, fun u => ?_, fun u => ?_, ⟨fun x l a b => ?_, fun u hu => ?_⟩, by rw [et, mdx, em]; exact h7⟩
  · rw [en, ev, em, kk, ee]
    intro a b c
    have := h4 u a b c
    omega
  · rw [en, ev, em, ez]
    intro a
    have := h5 u a
    exact ⟨by omega, this.2⟩
  · rw [et] at a
    have key : ∀ u : List XrZ, (∀ y ∈ u, y ∈ t) → (Sum.inl x :: l) <:+ (u.map Sum.inl ++ z.2.1) → (Sum.inl x :: l) <:+ z.2.1 ∨ (x ∈ t ∧ mdZ l = mdZ z.2.1) := by
      intro u
      induction u with
      | nil => exact fun _ h => Or.inl h
      | cons y u ih =>
        intro hy h
        have h : (Sum.inl x :: l) <:+ (Sum.inl y :: (u.map Sum.inl ++ z.2.1)) := h
        rcases List.suffix_cons_iff.mp h with e | e
        · obtain ⟨e1, e2⟩ := List.cons.inj e
          cases e1
          exact Or.inr ⟨hy x List.mem_cons_self, by rw [e2]; exact mdx u⟩
        · exact ih (fun w hw => hy w (List.mem_cons_of_mem _ hw)) e
    rcases key t (fun _ h => h) a with q | ⟨q1, q2⟩
    · obtain ⟨c, d⟩ := h6.1 x l q b
      rw [ez]
      exact ⟨⟨by omega, c.2⟩, lk _ _ _ d⟩
    · have r := pt.1 x q1 (by unfold NvI at b; unfold NmI; omega)
      rw [ez]
      refine ⟨⟨r.2.1, by omega, r.2.2⟩, ?_⟩
      rw [q2, h7, pt.2.1 x q1 b]
      exact lk _ _ _ (lkz_ok k r.1)
  · rw [en] at hu
    obtain ⟨w, w1, w2⟩ := h6.2 u hu
    have ef : clW (eM N n z) = clW z := by unfold clW; rw [ks]
    rw [ev, ef]
    exact ⟨w, w1, lk _ _ _ w2⟩
theorem dcl_ok {ty f h : Int} {s : SpC} (e : zFt (dclY ty f h s) = 0) : zVs (dclY ty f h s) = (zAt s, ty, f, ((zMs s).length : Int) - 1) :: zVs s ∧ zMs (dclY ty f h s) = zMs s ∧ zAt s < zAt (dclY ty f h s) ∧ zK s (zAt s).toNat = 80 := by
  have e0 : zFt (dc2Y ty f (dc1Y h s)) = 0 := e
  have z1 := (gd_dc2 (ty := ty) (f := f) (dc1Y h s)).z e0
  have k80 : codY s = 80 := by
    by_cases c : codY s = 80
    · exact c
    · unfold dc1Y at z1
      rw [if_neg c] at z1
      exact absurd z1 (ra_ft (by decide))
  have kz : zK s (zAt s).toNat = 80 := by
    have fs := (gd_dc1 (h := h) s).z z1
    have e8 : codY s = zK s (zAt s).toNat := if_pos fs
    rw [← e8]
    exact k80
  have d1 : dc1Y h s = s := by
    unfold dc1Y at z1 ⊢
    split
    · rename_i c
      rw [if_pos c] at z1
      split
      · rename_i d
        rw [if_pos d] at z1
        exact absurd z1 (ra_ft (by decide))
      · rfl
    · rename_i c
      rw [if_neg c] at z1
      exact absurd z1 (ra_ft (by decide))
  have ed : dclY ty f h s = dc2Y ty f s := by
    show dc2Y ty f (dc1Y h s) = _
    rw [d1]
  rw [d1] at e0
  rw [ed]
  unfold dc2Y at e0 ⊢
  split
  · rename_i c
    rw [if_pos c] at e0
    refine ⟨by unfold zVs; rw [mv_acc.1]; rfl, by unfold zMs; rw [mv_acc.1]; rfl, ?_, kz⟩
    have := ac_lt e0
    exact this
  · rename_i c
    rw [if_neg c] at e0
    exact absurd e0 c
theorem RkW.dc {ty f h : Int} (ht : 0 ≤ ty ∧ ty ≤ 4) : RkW N z (dcM N ty f h z) := by
  refine ⟨⟨gd_dcl _, Nat.le_refl _, fun _ _ => rfl⟩, fun e k => ?_⟩
  have e : zFt (dclY ty f h z.1) = 0 := e
  obtain ⟨d1, d2, d3, d4⟩ := dcl_ok e
  have ez : zK (dclY ty f h z.1) = zK z.1 := zk_n (gn_dcl _)
  have g := (gd_dcl (ty := ty) (f := f) (h := h) z.1).2 k.1.2
  obtain ⟨⟨h1, h2⟩, ⟨h3, h3'⟩, h4, h5, h6, h7⟩ := id k
  have em : mcW (dcM N ty f h z) = mcW z := by
    show ((zMs (dclY ty f h z.1)).length : Int) - 1 = _
    rw [d2]
    rfl
  have en : vnW (dcM N ty f h z) = vnW z + 1 := by
    show (zVs (dclY ty f h z.1)).length = _
    rw [d1]
    rfl
  have vr : ∀ u, vrL (zVs (dcM N ty f h z).1) u = if u = vnW z then (zAt z.1, ty, f, mcW z) else vrL (zVs z.1) u := fun u => by
    show vrL (zVs (dclY ty f h z.1)) u = _
    rw [d1]
    rfl
  have kk : knW (dcM N ty f h z) = ((vnW z : Int), zAt z.1) :: knW z := rfl
  have mem : ∀ u, u < vnW z → ((∃ p ∈ knW (dcM N ty f h z), p.1 = (u : Int)) ↔ ∃ p ∈ knW z, p.1 = (u : Int)) := fun u hu => by
    rw [kk]
    constructor
    · rintro ⟨p, p1, p2⟩
      rcases List.mem_cons.mp p1 with rfl | p1
      · have p2 : (vnW z : Int) = (u : Int) := p2
        omega
      · exact ⟨p, p1, p2⟩
    · rintro ⟨p, p1, p2⟩
      exact ⟨p, List.mem_cons_of_mem _ p1, p2⟩
  have vi : ∀ m q u, u < vnW z → (VisW N (dcM N ty f h z) m q u ↔ VisW N z m q u) := fun m q u hu => by
    unfold VisW
    rw [vr u, if_neg (by omega), mem u hu]
    rfl
  have lkd : ∀ m q v, q ≤ zAt z.1 → LkW N z m q v → LkW N (dcM N ty f h z) m q v := fun m q v hq ⟨l1, l2, l3⟩ => by
    refine ⟨l1, fun v0 => ?_, fun u u1 u2 w => ?_⟩
    · obtain ⟨m1, m2⟩ := l2 v0
      exact ⟨by omega, (vi _ _ _ (by omega)).mpr m2⟩
    · rw [en] at u2
      by_cases e : u = vnW z
      · have w2 := w.2.1
        rw [vr, if_pos e] at w2
        have w2 : zAt z.1 < q := w2
        omega
      · exact l3 u u1 (by omega) ((vi _ _ _ (by omega)).mp w)
  refine ⟨⟨⟨by show 0 ≤ zAt (dclY ty f h z.1); omega, g.2⟩, ⟨?_, fun p hp => ?_⟩, fun u hu a b => ?_, fun u hu => ?_, ⟨fun x l a b => ?_, fun u hu => ?_⟩, by rw [em]; exact h7⟩, [((vnW z : Int), zAt z.1)], rfl⟩
  · rw [kk]
    exact List.pairwise_cons.mpr ⟨fun p hp => (h3' p hp).1.2, h3⟩
  · rw [kk] at hp
    rw [en, vr, em]
    rcases List.mem_cons.mp hp with rfl | hp
    · have e1 : ((vnW z : Int)).toNat = vnW z := Int.toNat_natCast _
      refine ⟨⟨by show 0 ≤ (vnW z : Int); omega, by show (vnW z : Int) < ((vnW z + 1 : Nat) : Int); omega⟩, ?_⟩
      show (if ((vnW z : Int)).toNat = vnW z then (zAt z.1, ty, f, mcW z) else _).1 = _ ∧ (if ((vnW z : Int)).toNat = vnW z then (zAt z.1, ty, f, mcW z) else _).2.2.2 = _
      rw [e1, if_pos rfl]
      exact ⟨rfl, rfl⟩
    · obtain ⟨⟨c1, c2⟩, c3, c4⟩ := h3' p hp
      rw [if_neg (by omega)]
      exact ⟨⟨c1, by omega⟩, c3, c4⟩
  · rw [en] at hu
    rw [vr, em] at a
    by_cases c : u = vnW z
    · exact absurd ⟨((vnW z : Int), zAt z.1), List.mem_cons_self, by rw [c]⟩ b
    · rw [if_neg c] at a
      rw [mem u (by omega)] at b
      have := h4 u (by omega) a b
      show enW z u < zAt (dclY ty f h z.1)
      omega
  · rw [en] at hu
    rw [vr, em]
    show (_ < zAt (dclY ty f h z.1) ∧ _) ∧ _ ∧ zK (dclY ty f h z.1) _ = 80 ∧ _
    rw [ez]
    by_cases c : u = vnW z
    · rw [if_pos c]
      exact ⟨⟨d3, Int.le_refl _⟩, h1, d4, ht⟩
    · rw [if_neg c]
      have := h5 u (by omega)
      exact ⟨by omega, this.2⟩
  · obtain ⟨c, d⟩ := h6.1 x l a b
    exact ⟨⟨by show x.2.1.1 < zAt (dclY ty f h z.1); omega, c.2.1, by show zK (dclY ty f h z.1) _ = 80; rw [ez]; exact c.2.2⟩, lkd _ _ _ (Int.le_of_lt c.1) d⟩
  · rw [en] at hu
    rw [vr]
    have cf : clW (dcM N ty f h z) u = if u = vnW z then (if 0 ≤ lkM N z (zAt z.1) then 1 else 0) else clW z u := rfl
    rw [cf]
    by_cases c : u = vnW z
    · rw [if_pos c, if_pos c]
      refine ⟨lkZ N (knW z) (zAt z.1), ?_, lkd _ _ _ (Int.le_refl _) (lkz_ok k (Int.le_refl _))⟩
      show 0 ≤ lkM N z (zAt z.1) ↔ _
      split
      · rename_i e
        exact iff_of_true e rfl
      · rename_i e
        exact iff_of_false e (by decide)
    · rw [if_neg c, if_neg c]
      obtain ⟨w, w1, w2⟩ := h6.2 u (by omega)
      exact ⟨w, w1, lkd _ _ _ (Int.le_of_lt (h5 u (by omega)).1.1) w2⟩
theorem vez_v {t : Int} {f : Nat → Int} {u : Nat} : ∀ {l : List (Int × Int)}, ((∃ p ∈ l, p.1 = (u : Int)) → veZ t l f u = t) ∧ (¬ (∃ p ∈ l, p.1 = (u : Int)) → veZ t l f u = f u) := by
  intro l
  induction l with
  | nil => exact ⟨fun ⟨p, h, _⟩ => absurd h List.not_mem_nil, fun _ => rfl⟩
  | cons a l ih =>
    obtain ⟨v, k⟩ := a
    have e : veZ t ((v, k) :: l) f u = if (u : Int) = v then t else veZ t l f u := rfl
    rw [e]
    constructor
    · rintro ⟨p, p1, p2⟩
      split
      · rfl
      · rename_i c
        rcases List.mem_cons.mp p1 with rfl | p1
        · exact absurd p2.symm c
        · exact ih.1 ⟨p, p1, p2⟩
    · intro h
      rw [if_neg (fun q => h ⟨(v, k), List.mem_cons_self, q.symm⟩)]
      exact ih.2 (fun ⟨p, p1, p2⟩ => h ⟨p, List.mem_cons_of_mem _ p1, p2⟩)
/-- variables are left -/
theorem RkW.vv {s' : SpC} {t : Int} {out : List (Int × Int)} (h : RkW N z0 z) (ho : out = knW z0) (g : GpY z.1 s') (e2 : s'.2 = z.1.2) (h1 : zAt z.1 - 1 ≤ t) (h2 : zFt s' = 0 → zAt z.1 ≤ 500 → t < zAt s') : RkW N z0 (s', (veM t out z).2) := by
  refine ⟨⟨h.1.1.tr g, h.1.2⟩, fun f k0 => ?_⟩
  obtain ⟨k, seg, ek⟩ := h.2 (g.z f) k0
  obtain ⟨⟨b1, b2⟩, ⟨h3, h3'⟩, h4, h5, h6, h7⟩ := id k
  have g2 := g.2 b2
  have lt := h2 f b2
  generalize hz : ((s', (veM t out z).2) : ZS) = w
  have w1 : w.1 = s' := by rw [← hz]
  have ev : zVs w.1 = zVs z.1 := by rw [w1]; unfold zVs; rw [e2]
  have em : mcW w = mcW z := by unfold mcW zMs; rw [w1, e2]
  have en : vnW w = vnW z := by unfold vnW; rw [ev]
  have ez : zK w.1 = zK z.1 := by rw [w1]; unfold zK; rw [e2]
  have kk : knW w = out := by rw [← hz]; rfl
  have tk : (knW z).take ((knW z).length - out.length) = seg := by
    rw [ek, ho, List.length_append, Nat.add_sub_cancel]
    exact List.take_left
  have ew : ∀ u, enW w u = veZ t seg (enW z) u := fun u => by
    rw [← hz, ← tk]
    rfl
  have items : w.2.1 = z.2.1 := by rw [← hz]; rfl
  have mem : ∀ u : Nat, (∃ p ∈ knW z, p.1 = (u : Int)) ↔ (∃ p ∈ seg, p.1 = (u : Int)) ∨ ∃ p ∈ out, p.1 = (u : Int) := fun u => by
    rw [ek, ho]
    constructor
    · rintro ⟨p, p1, p2⟩
      rcases List.mem_append.mp p1 with p1 | p1
      · exact Or.inl ⟨p, p1, p2⟩
      · exact Or.inr ⟨p, p1, p2⟩
    · rintro (⟨p, p1, p2⟩ | ⟨p, p1, p2⟩)
      · exact ⟨p, List.mem_append_left _ p1, p2⟩
      · exact ⟨p, List.mem_append_right _ p1, p2⟩
  have vi : ∀ m q u, q < zAt z.1 → (VisW N w m q u ↔ VisW N z m q u) := fun m q u hq => by
    unfold VisW
    rw [ev, kk, mem u]
    by_cases c : ∃ p ∈ seg, p.1 = (u : Int)
    · rw [ew u, vez_v.1 c]
      exact ⟨fun ⟨x1, x2, x3, x4⟩ => ⟨x1, x2, Or.inl (Or.inl c), x4⟩, fun ⟨x1, x2, x3, x4⟩ => ⟨x1, x2, Or.inr (by omega), x4⟩⟩
    · rw [ew u, vez_v.2 c]
      exact ⟨fun ⟨x1, x2, x3, x4⟩ => ⟨x1, x2, x3.imp Or.inr id, x4⟩, fun ⟨x1, x2, x3, x4⟩ => ⟨x1, x2, x3.imp (fun y => y.resolve_left c) id, x4⟩⟩
  have at' : zAt w.1 = zAt s' := by rw [w1]
  refine ⟨⟨⟨by omega, by omega⟩, ⟨?_, fun p hp => ?_⟩, fun u hu a b => ?_, fun u hu => ?_, ⟨fun x l a b => ?_, fun u hu => ?_⟩, by rw [items, em]; exact h7⟩, [], by rw [kk, ho]; rfl⟩
  · rw [kk, ho]
    rw [ek] at h3
    exact (List.pairwise_append.mp h3).2.1
  · rw [kk, ho] at hp
    rw [en, ev, em]
    exact h3' p (by rw [ek]; exact List.mem_append_right _ hp)
  · rw [en] at hu
    rw [ev, em] at a
    rw [kk] at b
    by_cases c : ∃ p ∈ seg, p.1 = (u : Int)
    · rw [ew u, vez_v.1 c]
      omega
    · rw [ew u, vez_v.2 c]
      have := h4 u hu a (fun q => ((mem u).mp q).elim c b)
      omega
  · rw [en] at hu
    rw [ev, em, ez]
    have := h5 u hu
    exact ⟨by omega, this.2⟩
  · rw [items] at a
    obtain ⟨c, d⟩ := h6.1 x l a b
    rw [ez]
    exact ⟨⟨by omega, c.2⟩, lkw_cg d en (fun u _ => vi _ _ u c.1)⟩
  · rw [en] at hu
    obtain ⟨y, y1, y2⟩ := h6.2 u hu
    have ef : clW w = clW z := by rw [← hz]; rfl
    rw [ev, ef]
    exact ⟨y, y1, lkw_cg y2 en (fun v _ => vi _ _ v (h5 u hu).1.1)⟩
theorem RkW.vx {c : Int} {out : List (Int × Int)} (h : RkW N z0 z) (ho : out = knW z0) : RkW N z0 (xpM c (veM (zAt z.1) out z)) := RkW.vv (s' := xpY c z.1) (t := zAt z.1) h ho (gd_xp _) mv_xp.1 (by omega) (fun f _ => xp_lt f)
theorem RkW.vf {out : List (Int × Int)} (h : RkW N z0 z) (ho : out = knW z0) : RkW N z0 (veM (zAt z.1 - 1) out z) := RkW.vv (s' := z.1) (t := zAt z.1 - 1) h ho GpY.rf rfl (Int.le_refl _) (fun _ _ => by omega)
end

/-! which variables are known at an S: by where they are told and where their scopes end -/
def A8 (z : ZS) : Prop := (∀ u : Nat, u < vnW z → ¬ (∃ p ∈ knW z, p.1 = (u : Int)) → enW z u < zAt z.1) ∧ ∀ j, j < snM z → SkD z j → fiS z j ≤ zAt z.1 ∧ (∀ p ∈ knS z j, 0 ≤ p.1 ∧ p.1 < (vnW z : Int)) ∧ ∀ v : Nat, v < vnW z → ((∃ p ∈ knS z j, p.1 = (v : Int)) ↔ (vrL (zVs z.1) v).1 < fiS z j ∧ ((∃ p ∈ knW z, p.1 = (v : Int)) ∨ fiS z j ≤ enW z v))
def Rk8 (N : Int → Int) (z0 z : ZS) : Prop := RkW N z0 z ∧ (zFt z.1 = 0 → KvI N z0 → A8 z0 → A8 z)
section
variable {N : Int → Int} {z0 z z' z1 : ZS} {j n k : Nat}
theorem A8.mv (h : A8 z) (ev : zVs z'.1 = zVs z.1) (ha : zAt z.1 ≤ zAt z'.1) (ek : knW z' = knW z) (ee : enW z' = enW z) (hs : snM z' = snM z ∧ ∀ i, i < snM z → (reS z' i).1 = (reS z i).1 ∧ knS z' i = knS z i) : A8 z' := by
  have en : vnW z' = vnW z := by unfold vnW; rw [ev]
  refine ⟨fun u hu a => ?_, fun j hj hk => ?_⟩
  · rw [en] at hu
    rw [ek] at a
    rw [ee]
    have := h.1 u hu a
    omega
  · rw [hs.1] at hj
    obtain ⟨e1, ekn⟩ := hs.2 j hj
    obtain ⟨s1, s2⟩ := sk_re e1
    obtain ⟨a, b, c⟩ := h.2 j hj (s1.mp hk)
    rw [s2, ekn, en, ev, ek, ee]
    exact ⟨by omega, b, c⟩
theorem Rk8.rf : Rk8 N z z := ⟨RkW.rf, fun _ _ h => h⟩
theorem Rk8.tr (h : Rk8 N z0 z) (g : Rk8 N z z1) : Rk8 N z0 z1 := ⟨h.1.tr g.1, fun f k a => g.2 f (h.1.2 (g.1.1.1.z f) k).1 (h.2 (g.1.1.1.z f) k a)⟩
theorem Rk8.mv (r : RkW N z z') (e2 : z'.1.2 = z.1.2) (ek : knW z' = knW z) (ee : enW z' = enW z) (hs : snM z' = snM z ∧ ∀ i, i < snM z → (reS z' i).1 = (reS z i).1 ∧ knS z' i = knS z i) : Rk8 N z z' := ⟨r, fun _ k a => a.mv (by unfold zVs; rw [e2]) (r.1.1.2 k.1.2).1 ek ee hs⟩
theorem Rk8.s {s' : SpC} (g : GpY z.1 s') (e2 : s'.2 = z.1.2) : Rk8 N z (s', z.2) := Rk8.mv (RkW.s g e2) e2 rfl rfl ⟨rfl, fun _ _ => ⟨rfl, rfl⟩⟩
theorem Rk8.ac : Rk8 N z (accM z) := Rk8.s (gd_acc _) mv_acc.1
theorem Rk8.ra {c : Int} : Rk8 N z (raiM c z) := Rk8.s (gd_rai _) mv_rai.1
theorem Rk8.xp {c : Int} : Rk8 N z (xpM c z) := Rk8.s (gd_xp _) mv_xp.1
theorem Rk8.ty : Rk8 N z (typM z) := Rk8.s (gd_typ _) mv_typ.1
theorem Rk8.it {y : Int × Int × Int × Int × Int} (hy : ¬ y.1 = 54) : Rk8 N z (z.1, .inr y :: z.2.1, z.2.2) := Rk8.mv (RkW.it hy) rfl rfl rfl ⟨rfl, fun _ _ => ⟨rfl, rfl⟩⟩
theorem Rk8.co {o a b t : Int} (h : ¬ o = 54) : Rk8 N z (coM o a b t z) := Rk8.it h
theorem Rk8.cx {o a b t : Int} (h : ¬ o = 54) : Rk8 N z (cxM o a b t z) := Rk8.it h
theorem Rk8.pu {x : XrZ} (h : x.1.1 = 15) : Rk8 N z (puM x z) := Rk8.mv (RkW.pu h) rfl rfl rfl ⟨rfl, fun _ _ => ⟨rfl, rfl⟩⟩
theorem Rk8.ar {i : Int} : Rk8 N z (arM i z) := Rk8.mv RkW.ar rfl rfl rfl ⟨rfl, fun _ _ => ⟨rfl, rfl⟩⟩
theorem Rk8.un : Rk8 N z (unM j z) := Rk8.ar
theorem Rk8.th : Rk8 N z (thM z) := Rk8.mv RkW.th rfl rfl rfl ⟨rfl, fun _ _ => ⟨rfl, rfl⟩⟩
theorem Rk8.se {f : SrZ → SrZ} (q : ∀ x : SrZ, (f x).2.1 = x.2.1 ∧ (f x).1 = x.1) : Rk8 N z (seM j f z) := Rk8.mv (RkW.se (fun x => (q x).1)) rfl rfl rfl ⟨rfl, fun i hi => ⟨by
  show (if i = j then f (z.2.2.1.2 j) else z.2.2.1.2 i).1 = _
  split
  · rename_i c
    rw [(q _).2, c]
    rfl
  · rfl, (RkW.se (N := N) (z := z) (j := j) (fun x => (q x).1)).1.2.2 i hi⟩⟩
theorem Rk8.be {c l : Int} : Rk8 N z (beM c l z) := ⟨RkW.be, fun f k a => by
  have b := be_re (z := z) (c := c) (l := l)
  refine ⟨fun u hu hn => a.1 u hu hn, fun j hj hk => ?_⟩
  by_cases e : j = snM z
  · subst e
    have kn : knS (beM c l z) (snM z) = knW z := kn_be
    rw [kn, b.2.2]
    refine ⟨Int.le_refl _, fun p hp => (k.2.1.2 p hp).1, fun v hv => ⟨fun q => ⟨(k.2.2.2.1 v hv).1.1, Or.inl q⟩, fun ⟨q1, q2⟩ => ?_⟩⟩
    rcases q2 with q2 | q2
    · exact q2
    · by_cases n : ∃ p ∈ knW z, p.1 = (v : Int)
      · exact n
      · have := a.1 v hv n
        have q2 : zAt z.1 ≤ enW z v := q2
        omega
  · have hj : j < snM z := by
      rw [b.1] at hj
      omega
    obtain ⟨s1, s2⟩ := sk_re (b.2.1 j hj)
    have ekn : knS (beM c l z) j = knS z j := (RkW.be (N := N) (z := z) (c := c) (l := l)).1.2.2 j hj
    rw [s2, ekn]
    exact a.2 j hj (s1.mp hk)⟩
theorem Rk8.bg {c : Int} : Rk8 N z (bgM c n z) := Rk8.be.tr (Rk8.co (by decide))
theorem Rk8.bh {c : Int} : Rk8 N z (bgH c n z) := Rk8.bg.tr Rk8.th
theorem Rk8.en {c : Nat} : Rk8 N z (enM j c z) := Rk8.co (by decide)
theorem Rk8.po : Rk8 N z (poM z) := Rk8.cx (by decide)
theorem Rk8.ee : Rk8 N z (eM N n z) := ⟨RkW.ee, fun f k a => by
  have ks : (eM N n z).2.2 = z.2.2 := (ks_lv (N := N) n).1 z
  refine a.mv (by unfold zVs; rw [e_2 k.1.1]) ((RkW.ee (N := N) (n := n) (z := z)).1.1.2 k.1.2).1 (by unfold knW; rw [ks]) (by unfold enW; rw [ks]) ⟨by unfold snM; rw [ks], fun i _ => ⟨by unfold reS; rw [ks], by unfold knS reS; rw [ks]⟩⟩⟩
theorem Rk8.dc {ty f h : Int} (ht : 0 ≤ ty ∧ ty ≤ 4) : Rk8 N z (dcM N ty f h z) := ⟨RkW.dc ht, fun e k a => by
  have e : zFt (dclY ty f h z.1) = 0 := e
  obtain ⟨d1, d2, d3, d4⟩ := dcl_ok e
  have en : vnW (dcM N ty f h z) = vnW z + 1 := by
    show (zVs (dclY ty f h z.1)).length = _
    rw [d1]
    rfl
  have vr : ∀ u, vrL (zVs (dcM N ty f h z).1) u = if u = vnW z then (zAt z.1, ty, f, mcW z) else vrL (zVs z.1) u := fun u => by
    show vrL (zVs (dclY ty f h z.1)) u = _
    rw [d1]
    rfl
  have kk : knW (dcM N ty f h z) = ((vnW z : Int), zAt z.1) :: knW z := rfl
  have mem : ∀ u, u < vnW z → ((∃ p ∈ knW (dcM N ty f h z), p.1 = (u : Int)) ↔ ∃ p ∈ knW z, p.1 = (u : Int)) := fun u hu => by
    rw [kk]
    constructor
    · rintro ⟨p, p1, p2⟩
      rcases List.mem_cons.mp p1 with rfl | p1
      · have p2 : (vnW z : Int) = (u : Int) := p2
        omega
      · exact ⟨p, p1, p2⟩
    · rintro ⟨p, p1, p2⟩
      exact ⟨p, List.mem_cons_of_mem _ p1, p2⟩
  refine ⟨fun u hu hn => ?_, fun j hj hk => ?_⟩
  · rw [en] at hu
    by_cases c : u = vnW z
    · exact absurd ⟨((vnW z : Int), zAt z.1), by rw [kk]; exact List.mem_cons_self, by rw [c]⟩ hn
    · rw [mem u (by omega)] at hn
      have := a.1 u (by omega) hn
      show enW z u < zAt (dclY ty f h z.1)
      omega
  · obtain ⟨x1, x2, x3⟩ := a.2 j hj hk
    have fj : fiS (dcM N ty f h z) j = fiS z j := rfl
    have kj : knS (dcM N ty f h z) j = knS z j := rfl
    rw [fj, kj, en]
    refine ⟨by show fiS z j ≤ zAt (dclY ty f h z.1); omega, fun p hp => ⟨(x2 p hp).1, by have := (x2 p hp).2; omega⟩, fun v hv => ?_⟩
    rw [vr]
    by_cases c : v = vnW z
    · rw [if_pos c]
      refine ⟨fun ⟨p, p1, p2⟩ => ?_, fun ⟨q, _⟩ => ?_⟩
      · have := (x2 p p1).2
        exfalso
        rw [c] at p2
        omega
      · have q : zAt z.1 < fiS z j := q
        omega
    · rw [if_neg c, mem v (by omega)]
      exact x3 v (by omega)⟩
/-- variables are left -/
theorem Rk8.vv {s' : SpC} {t : Int} {out : List (Int × Int)} (h : Rk8 N z0 z) (ho : out = knW z0) (g : GpY z.1 s') (e2 : s'.2 = z.1.2) (h1 : zAt z.1 - 1 ≤ t) (h2 : zFt s' = 0 → zAt z.1 ≤ 500 → t < zAt s') (h3 : zFt z.1 = 0 → KvI N z0 → A8 z0 → ∀ j, j < snM z → SkD z j → fiS z j ≤ zAt z.1 → fiS z j ≤ t) : Rk8 N z0 (s', (veM t out z).2) := ⟨h.1.vv ho g e2 h1 h2, fun f k0 a0 => by
  obtain ⟨k, seg, ek⟩ := h.1.2 (g.z f) k0
  have a := h.2 (g.z f) k0 a0
  have lt := h2 f k.1.2
  have g2 := (g.2 k.1.2).1
  generalize hz : ((s', (veM t out z).2) : ZS) = w
  have w1 : w.1 = s' := by rw [← hz]
  have ev : zVs w.1 = zVs z.1 := by rw [w1]; unfold zVs; rw [e2]
  have en : vnW w = vnW z := by unfold vnW; rw [ev]
  have kk : knW w = out := by rw [← hz]; rfl
  have tk : (knW z).take ((knW z).length - out.length) = seg := by
    rw [ek, ho, List.length_append, Nat.add_sub_cancel]
    exact List.take_left
  have ew : ∀ u, enW w u = veZ t seg (enW z) u := fun u => by
    rw [← hz, ← tk]
    rfl
  have mem : ∀ u : Nat, (∃ p ∈ knW z, p.1 = (u : Int)) ↔ (∃ p ∈ seg, p.1 = (u : Int)) ∨ ∃ p ∈ out, p.1 = (u : Int) := fun u => by
    rw [ek, ho]
    constructor
    · rintro ⟨p, p1, p2⟩
      rcases List.mem_append.mp p1 with p1 | p1
      · exact Or.inl ⟨p, p1, p2⟩
      · exact Or.inr ⟨p, p1, p2⟩
    · rintro (⟨p, p1, p2⟩ | ⟨p, p1, p2⟩)
      · exact ⟨p, List.mem_append_left _ p1, p2⟩
      · exact ⟨p, List.mem_append_right _ p1, p2⟩
  have at' : zAt w.1 = zAt s' := by rw [w1]
  have hs : w.2.2.1 = z.2.2.1 := by rw [← hz]; rfl
  refine ⟨fun u hu hn => ?_, fun j hj hk => ?_⟩
  · rw [en] at hu
    rw [kk] at hn
    rw [at']
    by_cases c : ∃ p ∈ seg, p.1 = (u : Int)
    · rw [ew u, vez_v.1 c]
      exact lt
    · rw [ew u, vez_v.2 c]
      have := a.1 u hu (fun q => ((mem u).mp q).elim c hn)
      omega
  · have sj : snM w = snM z := by unfold snM; rw [hs]
    have rj : reS w j = reS z j := by unfold reS; rw [hs]
    have s := sk_re (z' := w) (z := z) (i := j) (by rw [rj])
    have kj : knS w j = knS z j := by unfold knS; rw [rj]
    rw [sj] at hj
    have hk := s.1.mp hk
    obtain ⟨x1, x2, x3⟩ := a.2 j hj hk
    have ft := h3 (g.z f) k0 a0 j hj hk x1
    rw [s.2, kj, en, ev, kk, at']
    refine ⟨by omega, x2, fun v hv => ?_⟩
    rw [x3 v hv, mem v, ew v]
    by_cases c : ∃ p ∈ seg, p.1 = (v : Int)
    · rw [vez_v.1 c]
      exact ⟨fun ⟨q1, _⟩ => ⟨q1, Or.inr ft⟩, fun ⟨q1, _⟩ => ⟨q1, Or.inl (Or.inl c)⟩⟩
    · rw [vez_v.2 c]
      exact ⟨fun ⟨q1, q2⟩ => ⟨q1, q2.imp (fun y => y.resolve_left c) id⟩, fun ⟨q1, q2⟩ => ⟨q1, q2.imp Or.inr id⟩⟩⟩
theorem Rk8.vx {c : Int} {out : List (Int × Int)} (h : Rk8 N z0 z) (ho : out = knW z0) : Rk8 N z0 (xpM c (veM (zAt z.1) out z)) := Rk8.vv (s' := xpY c z.1) (t := zAt z.1) h ho (gd_xp _) mv_xp.1 (by omega) (fun f _ => xp_lt f) (fun _ _ _ _ _ _ q => q)
theorem Rk8.vf {out : List (Int × Int)} (h : Rk8 N z0 z) (ho : out = knW z0) (h3 : zFt z.1 = 0 → KvI N z0 → A8 z0 → ∀ j, j < snM z → SkD z j → fiS z j < zAt z.1) : Rk8 N z0 (veM (zAt z.1 - 1) out z) := Rk8.vv (s' := z.1) (t := zAt z.1 - 1) h ho GpY.rf rfl (Int.le_refl _) (fun _ _ => by omega) (fun f k a j hj hk _ => by have := h3 f k a j hj hk; omega)
end
section
variable {N : Int → Int} {z0 z : ZS} {j n k : Nat}
theorem Rk8.ex : Rk8 N z (exS N j n z) := Rk8.ee.tr (Rk8.se (by intro _; exact ⟨rfl, rfl⟩))
theorem Rk8.cd : Rk8 N z (cdM N j n z) := (Rk8.xp.tr Rk8.ex).tr Rk8.xp
theorem Rk8.bd : Rk8 N z (bdM j k z) := (Rk8.se (f := sBd k) (by intro _; exact ⟨rfl, rfl⟩)).tr Rk8.un
theorem Rk8.xs : Rk8 N z (xsM N n z) := (((Rk8.bg.tr Rk8.ex).tr Rk8.po).tr Rk8.xp).tr Rk8.en
theorem Rk8.va2 {f v t : Int} : Rk8 N z (va2M N j n f v t z) := by
  unfold va2M
  split
  · refine Rk8.tr ?_ (Rk8.pu rfl)
    exact ((Rk8.co (by decide)).tr Rk8.xp).tr Rk8.ex
  · exact Rk8.co (by decide)
theorem Rk8.va1 {f ty : Int} (ht : 0 ≤ ty ∧ ty ≤ 4) : Rk8 N z (va1M N j n f ty z) := ((Rk8.dc ht).tr (Rk8.se (f := sLk (zVs z.1).length) (by intro _; exact ⟨rfl, rfl⟩))).tr Rk8.va2
theorem Rk8.va : Rk8 N z (vaM N j n z) := by
  unfold vaM
  split
  · exact (Rk8.ac.tr Rk8.ty).tr (Rk8.va1 tyv_rg)
  · exact Rk8.ty.tr (Rk8.va1 tyv_rg)
theorem Rk8.to : Rk8 N z (toM N n z) := ((Rk8.bg.tr Rk8.va).tr Rk8.xp).tr Rk8.en
theorem Rk8.fx1 : Rk8 N z (fx1M N n z) := (Rk8.be.tr Rk8.ex).tr Rk8.po
end
theorem Rk8.fxl {N : Int → Int} {n : Nat} : ∀ (f j : Nat) (z : ZS), Rk8 N z (fxlM N n f j z) := by
  intro f
  induction f with
  | zero => exact fun _ _ => Rk8.rf
  | succ f ih =>
    intro j z
    rw [fxlM]
    split
    · exact ((Rk8.ac.tr Rk8.fx1).tr (Rk8.se (by intro _; exact ⟨rfl, rfl⟩))).tr (ih _ _)
    · exact Rk8.rf
section
variable {N : Int → Int} {z0 z : ZS} {j n k : Nat}
theorem Rk8.fx : Rk8 N z (fxM N n z) := Rk8.fx1.tr (Rk8.fxl 501 _ _)
theorem Rk8.cs {jn : Int} : Rk8 N z (csM N jn n z) := by
  unfold csM
  split
  · exact (((Rk8.be.tr Rk8.ac).tr Rk8.ex).tr (Rk8.cx (by decide))).tr Rk8.xp
  · exact ((Rk8.be.tr Rk8.ac).tr (Rk8.co (by decide))).tr Rk8.xp
theorem Rk8.ju {c : Int} (hc : c = 64 ∨ c = 65) : Rk8 N z (juM N c n z) := by
  have q1 : Rk8 N z (accM (bgM c n z)) := Rk8.bg.tr Rk8.ac
  refine Rk8.tr (Rk8.tr ?_ Rk8.xp) Rk8.en
  split
  · exact ((q1.tr (Rk8.se (by intro _; exact ⟨rfl, rfl⟩))).tr (Rk8.co (by omega))).tr Rk8.ac
  · exact q1.tr (Rk8.co (by omega))
theorem Rk8.gi {c : Int} (hc : c = 66 ∨ c = 67) : Rk8 N z (giM N c n z) := by
  have q1 : Rk8 N z (accM (bgM c n z)) := Rk8.bg.tr Rk8.ac
  refine Rk8.tr (Rk8.tr ?_ Rk8.xp) Rk8.en
  dsimp only
  split
  · refine Rk8.tr ?_ (Rk8.cx (by omega))
    split
    · exact (q1.tr Rk8.ex).tr (Rk8.se (by intro _; exact ⟨rfl, rfl⟩))
    · exact q1.tr Rk8.ex
  · exact (q1.tr (Rk8.se (by intro _; exact ⟨rfl, rfl⟩))).tr (Rk8.co (by omega))
abbrev RkS8 (N : Int → Int) (St : ZS → ZS) : Prop := ∀ z, Rk8 N z (St z)
abbrev RkR8 (N : Int → Int) (Rw : Int → Nat → ZS → ZS × Int) : Prop := ∀ (sw : Int) (jn : Nat) (z : ZS), Rk8 N z (Rw sw jn z).1
variable {St : ZS → ZS} {Rw : Int → Nat → ZS → ZS × Int}
theorem Rk8.blk (h : Rk8 N z0 z) (r : RkR8 N Rw) {o : List (Int × Int)} (ho : o = knW z0) : Rk8 N z0 (blkM Rw j o z) := by
  show Rk8 N z0 (xpM 3 (veM (zAt (Rw 0 0 (xpM 2 (arM j z))).1.1) o (unM j (seM j (sBd (Rw 0 0 (xpM 2 (arM j z))).2) (Rw 0 0 (xpM 2 (arM j z))).1))))
  have q : Rk8 N z0 (unM j (seM j (sBd (Rw 0 0 (xpM 2 (arM j z))).2) (Rw 0 0 (xpM 2 (arM j z))).1)) := ((((h.tr Rk8.ar).tr Rk8.xp).tr (r 0 0 _)).tr (Rk8.se (by intro _; exact ⟨rfl, rfl⟩))).tr Rk8.un
  exact q.vx ho
theorem Rk8.bo (h : Rk8 N z0 z) (r : RkR8 N Rw) {o : List (Int × Int)} (ho : o = knW z0) : Rk8 N z0 (boM Rw n o z) := (h.tr Rk8.be).blk r ho
theorem Rk8.bl (r : RkR8 N Rw) : Rk8 N z (blM Rw n z) := (Rk8.blk (Rk8.bh) r rfl).tr Rk8.en
theorem Rk8.em : Rk8 N z (emM n z) := (Rk8.bg.tr Rk8.ac).tr Rk8.en
theorem Rk8.la (s : RkS8 N St) : Rk8 N z (laM n St z) := by
  have q : Rk8 N z (laB n z) := (((((Rk8.bh.tr (Rk8.co (by decide))).tr (Rk8.se (by intro _; exact ⟨rfl, rfl⟩))).tr Rk8.ac).tr Rk8.xp).tr Rk8.ar)
  exact (((q.tr (s _)).tr Rk8.bd).tr (Rk8.co (by decide))).tr Rk8.en
theorem Rk8.if2 (s : RkS8 N St) {c : Nat} : Rk8 N z (if2M St j k c z) := by
  unfold if2M
  split
  · exact ((((((Rk8.co (by decide)).tr Rk8.ac).tr Rk8.ar).tr (s _)).tr (Rk8.se (by intro _; exact ⟨rfl, rfl⟩))).tr Rk8.un).tr ((Rk8.co (by decide)).tr Rk8.en)
  · exact (Rk8.co (by decide)).tr Rk8.en
theorem Rk8.if (s : RkS8 N St) : Rk8 N z (ifM N n St z) := by
  have q : Rk8 N z (ifB N n z) := (((Rk8.bh.tr Rk8.ac).tr Rk8.cd).tr (Rk8.cx (by decide))).tr Rk8.ar
  exact ((q.tr (s _)).tr Rk8.bd).tr (Rk8.if2 s)
theorem Rk8.wh (s : RkS8 N St) : Rk8 N z (whM N n St z) := by
  have q : Rk8 N z (whB N n z) := ((((Rk8.bh.tr (Rk8.co (by decide))).tr Rk8.ac).tr Rk8.cd).tr (Rk8.cx (by decide))).tr Rk8.ar
  exact (((q.tr (s _)).tr Rk8.bd).tr (Rk8.co (by decide))).tr Rk8.en
theorem Rk8.do (s : RkS8 N St) : Rk8 N z (doM N n St z) := by
  have q : Rk8 N z (doB n z) := ((Rk8.bh.tr (Rk8.co (by decide))).tr Rk8.ac).tr Rk8.ar
  exact (((((((q.tr (s _)).tr Rk8.bd).tr Rk8.xp).tr (Rk8.co (by decide))).tr Rk8.cd).tr Rk8.xp).tr (Rk8.cx (by decide))).tr Rk8.en
theorem Rk8.fo1 : Rk8 N z (fo1M N j n z) := by
  unfold fo1M
  split
  · exact (Rk8.be.tr Rk8.va).tr (Rk8.se (by intro _; exact ⟨rfl, rfl⟩))
  split
  · exact Rk8.rf
  · exact Rk8.fx.tr (Rk8.se (by intro _; exact ⟨rfl, rfl⟩))
theorem Rk8.fo2 : Rk8 N z (fo2M N j k n z) := by
  unfold fo2M
  split
  · exact Rk8.co (by decide)
  · exact Rk8.ex.tr (Rk8.cx (by decide))
theorem Rk8.fo3 : Rk8 N z (fo3M N j n z) := by
  unfold fo3M
  split
  · exact Rk8.rf
  · exact Rk8.fx.tr (Rk8.se (by intro _; exact ⟨rfl, rfl⟩))
theorem Rk8.fob : Rk8 N z (foB N j k n z) := by
  have a1 : Rk8 N z (fo1M N j n (arM j (xpM 0 z))) := (Rk8.xp.tr Rk8.ar).tr Rk8.fo1
  have a2 : ∀ w : ZS, Rk8 N w (coM 32 k 0 (fiS (xpM 4 w) j) (xpM 4 w)) := fun w => Rk8.xp.tr (Rk8.co (by decide))
  have a3 : ∀ w : ZS, Rk8 N w (coM 34 k 0 (fiS (xpM 4 w) j) (xpM 4 w)) := fun w => Rk8.xp.tr (Rk8.co (by decide))
  have a4 : ∀ w : ZS, Rk8 N w (coM 35 k 0 (fiS (xpM 1 w) j) (xpM 1 w)) := fun w => Rk8.xp.tr (Rk8.co (by decide))
  exact ((((a1.tr (a2 _)).tr Rk8.fo2).tr (a3 _)).tr Rk8.fo3).tr (a4 _)
theorem Rk8.fo (s : RkS8 N St) (tw : TwS St) : Rk8 N z (foM2 N n St z) := by
  have q0 : Rk8 N (bgH 60 n z) (foB N (snM z) (tnM z) n (accM (bgH 60 n z))) := Rk8.ac.tr Rk8.fob
  have q1 := q0.tr (s _)
  have q2 : Rk8 N (bgH 60 n z) (bdM (snM z) (snM (foB N (snM z) (tnM z) n (accM (bgH 60 n z)))) (St (foB N (snM z) (tnM z) n (accM (bgH 60 n z))))) := q1.tr Rk8.bd
  have q3 := Rk8.vf (out := knS (St (foB N (snM z) (tnM z) n (accM (bgH 60 n z)))) (snM z)) q2 (kn_j q1.1) (fun f k a j hj hk => by
    have qf : RkW N (accM (bgH 60 n z)) (bdM (snM z) (snM (foB N (snM z) (tnM z) n (accM (bgH 60 n z)))) (St (foB N (snM z) (tnM z) n (accM (bgH 60 n z))))) := (RkW.fob.tr (s _).1).tr RkW.bd
    have fz := qf.1.1.z f
    have lt : zAt (bgH 60 n z).1 < zAt (accM (bgH 60 n z)).1 := ac_lt fz
    have m5 := ((RkW.ac (N := N) (z := bgH 60 n z)).1.1.2 k.1.2).2
    have t0 : TnW (accM (bgH 60 n z)) (accM (bgH 60 n z)) := fun _ => ⟨⟨⟨Nat.le_refl _, Int.le_refl _⟩, fun _ _ => rfl, fun i h1 h2 => absurd h2 (Nat.not_lt.mpr h1)⟩, m5⟩
    obtain ⟨⟨⟨_, t1⟩, t2, t3⟩, _⟩ := ((tw _ _ t0.fob).bd) f
    by_cases c : j < snM (accM (bgH 60 n z))
    · obtain ⟨s1, s2⟩ := sk_re (t2 j c)
      have b := (a.2 j c (s1.mp hk)).1
      have s2 : _ = fiS (bgH 60 n z) j := s2
      omega
    · exact (t3 j (by omega) hj hk).1.2)
  exact Rk8.bh.tr ((q3.tr (Rk8.co (by decide))).tr Rk8.en)
theorem Rk8.sw (r : RkR8 N Rw) : Rk8 N z (swM N n Rw z) := by
  have q0 : Rk8 N (bgH 61 n z) (swB N n z) := (((Rk8.ac.tr Rk8.cd).tr (Rk8.cx (by decide))).tr Rk8.ar).tr Rk8.xp
  have q1 := q0.tr (r 1 (tnM z) _)
  have q2 := (q1.tr (Rk8.se (j := snM z) (f := sBd (Rw 1 (tnM z) (swB N n z)).2) (by intro _; exact ⟨rfl, rfl⟩))).tr (Rk8.un (j := snM z))
  have q3 := Rk8.vx (c := 3) (out := knS (Rw 1 (tnM z) (swB N n z)).1 (snM z)) q2 (kn_j q1.1)
  exact Rk8.bh.tr ((q3.tr (Rk8.co (by decide))).tr Rk8.en)
theorem Rk8.tr1 : Rk8 N z (tr1M z) := by
  unfold tr1M
  split
  · exact Rk8.rf
  · exact Rk8.ra
theorem Rk8.tr2 (h : Rk8 N z0 z) (r : RkR8 N Rw) (hk : knS z j = knW z0) : Rk8 N z0 (tr2M N Rw j k n z) := by
  unfold tr2M
  split
  · have b0 : Rk8 N z (caM k z) := Rk8.it (by show ¬ (51 : Int) = 54; decide)
    have b1 : ∀ w : ZS, Rk8 N w (xpM 1 (seM j (sLk (zVs w.1).length) (dcM N 3 0 1 w))) := fun w => ((Rk8.dc (by decide)).tr (Rk8.se (by intro _; exact ⟨rfl, rfl⟩))).tr Rk8.xp
    have b2 := (((h.tr b0).tr Rk8.ac).tr (Rk8.xp (c := 0))).tr (b1 _)
    exact (Rk8.bo b2 r hk).tr (Rk8.se (by intro _; exact ⟨rfl, rfl⟩))
  · exact h
theorem Rk8.tr3 (h : Rk8 N z0 z) (r : RkR8 N Rw) (hk : knS z j = knW z0) : Rk8 N z0 (tr3M Rw j k n z) := by
  unfold tr3M
  split
  · exact (Rk8.bo ((h.tr (Rk8.co (by decide))).tr Rk8.ac) r hk).tr (Rk8.se (by intro _; exact ⟨rfl, rfl⟩))
  · exact h
theorem Rk8.trr (r : RkR8 N Rw) : Rk8 N z (trM N n Rw z) := by
  have q0 : Rk8 N (bgH 68 n z) (trB n z) := (Rk8.ac.tr (Rk8.co (by decide))).tr Rk8.ar
  have q1 := Rk8.bo (n := n) (o := z.2.2.2.1.1) q0 r rfl
  have q2 := (q1.tr (Rk8.se (j := snM z) (f := sBd (snM z + 1)) (by intro _; exact ⟨rfl, rfl⟩))).tr Rk8.tr1
  have q3 := Rk8.tr2 (n := n) (k := tnM z) q2 r (kn_j q2.1)
  have q4 := Rk8.tr3 (n := n) (k := tnM z) q3 r (kn_j q3.1)
  exact Rk8.bh.tr (((q4.tr (Rk8.un (j := snM z))).tr (Rk8.co (by decide))).tr Rk8.en)
theorem Rk8.sm (s : RkS8 N St) (tw : TwS St) (r : RkR8 N Rw) : Rk8 N z (smM N n St Rw z) := iv_ifc (I := Rk8 N z) (fun _ => Rk8.if s) (fun _ => iv_ifc (I := Rk8 N z) (fun _ => Rk8.wh s) (fun _ => iv_ifc (I := Rk8 N z) (fun _ => Rk8.do s) (fun _ => iv_ifc (I := Rk8 N z) (fun _ => Rk8.fo s tw) (fun _ => iv_ifc (I := Rk8 N z) (fun _ => Rk8.sw r) (fun _ => iv_ifc (I := Rk8 N z) (fun _ => Rk8.trr r) (fun _ => iv_ifc (I := Rk8 N z) (fun _ => Rk8.bl r) (fun _ => iv_ifc (I := Rk8 N z) (fun _ => Rk8.em) (fun _ => iv_ifc (I := Rk8 N z) (fun c => Rk8.ju c) (fun _ => iv_ifc (I := Rk8 N z) (fun c => Rk8.gi c) (fun _ => iv_ifc (I := Rk8 N z) (fun _ => iv_ifc (I := Rk8 N z) (fun _ => Rk8.la s) (fun _ => Rk8.xs)) (fun _ => Rk8.xs)))))))))))
theorem Rk8.rp2 (s : RkS8 N St) : Rk8 N z (rp2M N n St z) := by
  unfold rp2M
  split
  · exact Rk8.to
  · exact s _
theorem Rk8.rp (s : RkS8 N St) {jn : Nat} {sw c : Int} : Rk8 N z (rpM N n St sw jn c z) := by
  unfold rpM
  split
  · split
    · exact Rk8.cs
    split
    · exact Rk8.ra.tr (Rk8.rp2 s)
    · exact Rk8.rp2 s
  · exact Rk8.rp2 s
theorem Rk8.nx {l : Int} {i : Nat} : Rk8 N z (nxM l i z) := by
  unfold nxM
  split
  · exact Rk8.rf
  · exact Rk8.se (by intro _; exact ⟨rfl, rfl⟩)
end
theorem Rk8.rwl {N : Int → Int} {St : ZS → ZS} (s : RkS8 N St) {n jn : Nat} {sw : Int} : ∀ (k : Nat) (f l : Int) (z : ZS), Rk8 N z (rwlM N n St sw jn k f l z).1 := by
  intro k
  induction k with
  | zero => exact fun _ _ _ => Rk8.rf
  | succ k ih =>
    intro f l z
    rw [rwlM]
    split
    · split
      · exact Rk8.rf
      · exact ((Rk8.rp s).tr Rk8.nx).tr (ih _ _ _)
    · exact Rk8.rf
theorem Rk8.ls {N : Int → Int} : ∀ n, RkS8 N (lsM N n).1 ∧ RkR8 N (lsM N n).2 := by
  intro n
  induction n with
  | zero => exact ⟨fun _ => Rk8.ra, fun _ _ _ => Rk8.ra⟩
  | succ n ih =>
    have s : RkS8 N (smM N (n + 1) (lsM N n).1 (lsM N n).2) := fun _ => Rk8.sm ih.1 (TnW.ls n).1 ih.2
    exact ⟨s, fun sw jn z => Rk8.rwl s 501 (-1) (-1) z⟩
section
variable {N : Int → Int} {z : ZS}
theorem Rk8.pa2 {i : Nat} {ty f : Int} (ht : 0 ≤ ty ∧ ty ≤ 4) : Rk8 N z (pa2M N i ty f z) := by
  refine ⟨RkW.pa2 ht, ?_⟩
  unfold pa2M
  split
  · have q := Rk8.dc (N := N) (z := z) (ty := ty) (f := f) (h := 1) ht
    intro e k a
    have e : zFt (padY ty (dcM N ty f 1 z).1) = 0 := e
    have g : GpY (dcM N ty f 1 z).1 (padY ty (dcM N ty f 1 z).1) := gd_pad _
    have a1 := q.2 (g.z e) k a
    have k1 := (q.1.2 (g.z e) k).1
    exact a1.mv rfl (g.2 k1.1.2).1 rfl rfl ⟨rfl, fun _ _ => ⟨rfl, rfl⟩⟩
  · exact (Rk8.dc ht).2
theorem Rk8.pa1 {i : Nat} : Rk8 N z (pa1M N i z) := by
  unfold pa1M
  split
  · exact (Rk8.ac.tr Rk8.ty).tr (Rk8.pa2 tyv_rg)
  · exact Rk8.ty.tr (Rk8.pa2 tyv_rg)
theorem Rk8.pal : ∀ (f i : Nat) (z : ZS), Rk8 N z (palM N f i z) := by
  intro f
  induction f with
  | zero => exact fun _ _ => Rk8.rf
  | succ f ih =>
    intro i z
    rw [palM]
    split
    · exact (Rk8.pa1.tr Rk8.ac).tr (ih _ _)
    · exact Rk8.pa1
theorem Rk8.pa : Rk8 N z (paM N z) := by
  show Rk8 N z (xpM 1 (pa3M N (xpM 0 z)))
  refine Rk8.tr (Rk8.tr (Rk8.xp (c := 0)) ?_) (Rk8.xp (c := 1))
  unfold pa3M
  split
  · exact Rk8.rf
  · exact Rk8.pal _ _ _
/-- a method -/
theorem a8_me (h : zFt z.1 = 0 → KvP N z ∧ A8 z) : zFt (meM N z).1 = 0 → A8 (meM N z) := by
  have mv : ∀ (w : ZS) (s' : SpC), (zFt w.1 = 0 → KvP N w ∧ A8 w) → GpY w.1 s' → s'.2 = w.1.2 → (zFt s' = 0 → KvP N (s', w.2) ∧ A8 (s', w.2)) := fun w s' hw g e f => by
    obtain ⟨a, b⟩ := hw (g.z f)
    exact ⟨kvp_mv a g e, b.mv (by unfold zVs; rw [e]) (g.2 a.1.2).1 rfl rfl ⟨rfl, fun _ _ => ⟨rfl, rfl⟩⟩⟩
  have m1 : zFt (me1M z).1 = 0 → KvP N (me1M z) ∧ A8 (me1M z) := by
    unfold me1M
    split
    · exact h
    · exact mv z _ h (gd_rai _) mv_rai.1
  have m2 : zFt (accM (me1M z)).1 = 0 → KvP N (accM (me1M z)) ∧ A8 (accM (me1M z)) := mv _ _ m1 (gd_acc _) mv_acc.1
  have m3 : zFt (me2M (accM (me1M z))).1 = 0 → KvP N (me2M (accM (me1M z))) ∧ A8 (me2M (accM (me1M z))) := by
    unfold me2M
    split
    · split
      · exact mv _ _ m2 (gd_rai _) mv_rai.1
      · exact m2
    · exact mv _ _ m2 (gd_rai _) mv_rai.1
  show zFt (me3M N (codY z.1 - 50) (me2M (accM (me1M z)))).1 = 0 → A8 (me3M N (codY z.1 - 50) (me2M (accM (me1M z))))
  generalize codY z.1 - 50 = ty
  generalize me2M (accM (me1M z)) = w at m3
  unfold me3M
  split
  · rename_i c
    intro f
    obtain ⟨p0, b0⟩ := m3 c
    have k0 := kv_me0 (ty := ty) p0
    have a0 : A8 (me0M ty w) := b0.mv rfl (Int.le_refl _) (by rw [p0.2.1]; rfl) rfl ⟨rfl, fun _ _ => ⟨rfl, rfl⟩⟩
    have q0 : Rk8 N (me0M ty w) (paM N (accM (me0M ty w))) := Rk8.ac.tr Rk8.pa
    have r : RkR8 N (rwM N 20) := (Rk8.ls (N := N) 20).2
    have q1 := Rk8.bo (n := 21) (o := []) q0 r rfl
    have f : zFt (boM (rwM N 20) 21 [] (paM N (accM (me0M ty w)))).1 = 0 := f
    exact (q1.2 f k0 a0).mv rfl (Int.le_refl _) rfl rfl ⟨rfl, fun _ _ => ⟨rfl, rfl⟩⟩
  · exact fun f => (m3 f).2
end
theorem a8_pr {N : Int → Int} : ∀ (f : Nat) (z : ZS), (zFt z.1 = 0 → KvP N z ∧ A8 z) → zFt (prM N f z).1 = 0 → A8 (prM N f z) := by
  intro f
  induction f with
  | zero => exact fun _ h q => (h q).2
  | succ f ih =>
    intro z h
    rw [prM]
    split
    · split
      · exact fun q => (h q).2
      · exact ih _ (fun q => ⟨kvp_me (fun q => (h q).1) q, a8_me h q⟩)
    · exact fun q => (h q).2
/-- in a program: the variables that are known at an S -/
theorem a8_all {N : Int → Int} {f : Nat} {s : SpC} (h : zFt (prM N f (z0S s)).1 = 0) (hs : Z0Y s) : ∀ j, j < snM (prM N f (z0S s)) → SkD (prM N f (z0S s)) j → (∀ p ∈ knS (prM N f (z0S s)) j, 0 ≤ p.1 ∧ p.1 < (vnW (prM N f (z0S s)) : Int)) ∧ ∀ v : Nat, v < vnW (prM N f (z0S s)) → ((∃ p ∈ knS (prM N f (z0S s)) j, p.1 = (v : Int)) ↔ (vrL (zVs (prM N f (z0S s)).1) v).1 < fiS (prM N f (z0S s)) j ∧ fiS (prM N f (z0S s)) j ≤ enW (prM N f (z0S s)) v) := by
  have k0 : KvP N (z0S s) := by
    have := kv_all (N := N) (f := 0) (s := s)
    refine this ?_ hs
    exact hs.2.1
  have a0 : A8 (z0S s) := ⟨fun u hu => by
    have hu : u < (zVs s).length := hu
    rw [hs.2.2.2] at hu
    exact absurd hu (Nat.not_lt_zero _), fun j hj => absurd hj (Nat.not_lt_zero _)⟩
  have K := kv_all h hs
  have A := a8_pr f (z0S s) (fun _ => ⟨k0, a0⟩) h
  intro j hj hk
  obtain ⟨_, x2, x3⟩ := A.2 j hj hk
  refine ⟨x2, fun v hv => ?_⟩
  rw [x3 v hv, K.2.1]
  exact ⟨fun ⟨q1, q2⟩ => ⟨q1, q2.resolve_left (fun ⟨p, hp, _⟩ => absurd hp List.not_mem_nil)⟩, fun ⟨q1, q2⟩ => ⟨q1, Or.inr q2⟩⟩

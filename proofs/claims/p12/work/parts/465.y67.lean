/-! first tokens of S's go up -/
/-- without a FAULT a token is taken -/
theorem ac_lt {s : SpC} (h : zFt (accY s) = 0) : zAt s < zAt (accY s) := by
  unfold accY at h ⊢
  split
  · rename_i c
    rw [if_pos c] at h
    exfalso
    unfold raiY at h
    split at h
    · have h : (if zK s (zAt s).toNat = 85 then (1 : Int) else 3) = 0 := h
      split at h <;> omega
    · rename_i d
      exact d h
  · split
    · show zAt s < zAt s + 1
      omega
    · rename_i c d
      rw [if_neg c, if_neg d] at h
      exact absurd h d
theorem ra_ft {n : Int} {s : SpC} (hn : ¬ n = 0) : ¬ zFt (raiY n s) = 0 := by
  intro h
  unfold raiY at h
  split at h
  · have h : (if zK s (zAt s).toNat = 85 then (1 : Int) else n) = 0 := h
    split at h <;> omega
  · rename_i d
    exact d h
theorem xp_lt {c : Int} {s : SpC} (h : zFt (xpY c s) = 0) : zAt s < zAt (xpY c s) := by
  unfold xpY at h ⊢
  split
  · rename_i e
    rw [if_pos e] at h
    exact ac_lt h
  · rename_i e
    rw [if_neg e] at h
    exact absurd h (ra_ft (by decide))
theorem ty_lt {s : SpC} (h : zFt (typY s) = 0) : zAt s < zAt (typY s) := by
  unfold typY at h ⊢
  split
  · rename_i e
    rw [if_pos e] at h
    exact ac_lt h
  · rename_i e
    rw [if_neg e] at h
    exact absurd h (ra_ft (by decide))
/-- a token, then more -/
theorem ac_g {s t : SpC} (g : GpY (accY s) t) (h5 : zAt s ≤ 500) (h : zFt t = 0) : zAt s < zAt t := by
  have a := ac_lt (g.z h)
  have b := g.2 ((gd_acc s).2 h5).2
  omega
def PtY (f : SpC → SpC) : Prop := ∀ s, zAt s ≤ 500 → zFt (f s) = 0 → zAt s < zAt (f s)
theorem pg_opr {m : Nat} {E I : SpC → SpC} (hE : GdY E) (hI : GdY I) : PtY (oprY m E I) := by
  intro s h5 h
  unfold oprY at h ⊢
  split
  · rename_i c
    rw [if_pos c] at h
    exact ac_g (hI _) h5 h
  rename_i c0
  rw [if_neg c0] at h
  split
  · rename_i c
    rw [if_pos c] at h
    exact ac_g (gd_xp _) h5 h
  rename_i c1
  rw [if_neg c1] at h
  split
  · rename_i c
    rw [if_pos c] at h
    refine ac_g (?_ : GpY (accY s) (op2Y I E (accY s))) h5 h
    unfold op2Y
    split
    · exact ((gd_typ _).tr (gd_xp _)).tr (hI _)
    · exact (hE _).tr (gd_xp _)
  rename_i c2
  rw [if_neg c2] at h
  split
  · rename_i c
    rw [if_pos c] at h
    unfold nmeY at h ⊢
    split
    · rename_i d
      rw [if_pos d] at h
      refine ac_g (?_ : GpY (accY s) (xpY 1 (ca2Y m E (accY (accY s))))) h5 h
      refine ((gd_acc _).tr ?_).tr (gd_xp _)
      unfold ca2Y
      split
      · exact gd_rai _
      split
      · exact GpY.rf
      · exact (hE _).tr (gd_clp hE _ _)
    rename_i d
    rw [if_neg d] at h
    split
    · rename_i e
      rw [if_pos e] at h
      exact ac_g (gd_acc _) h5 h
    · rename_i e
      rw [if_neg e] at h
      exact ac_lt h
  rename_i c3
  rw [if_neg c3] at h
  split
  · rename_i c
    rw [if_pos c] at h
    exact ac_lt h
  · rename_i c
    rw [if_neg c] at h
    exact absurd h (ra_ft (by decide))
theorem pg_chc {O E C : SpC → SpC} (pO : PtY O) (hO : GdY O) (hE : GdY E) (hC : GdY C) : PtY (chcY O E C) := by
  intro s h5 h
  have g : GpY (O s) (chcY O E C s) := by
    show GpY (O s) (ch2Y E C (chlY O 501 (O s)))
    refine (gd_chl hO 501 _).tr ?_
    unfold ch2Y
    split
    · exact (((gd_acc _).tr (hE _)).tr (gd_xp _)).tr (hC _)
    · exact GpY.rf
  have a := pO s h5 (g.z h)
  have b := g.2 ((hO s).2 h5).2
  omega
theorem pg_e {n : Nat} : PtY (eY n) := by
  cases n with
  | zero =>
    intro s h5 h
    exact absurd h (ra_ft (n := 3) (by decide))
  | succ n =>
    have hO : GdY (oprY n (lvY n).1 (lvY n).2.2) := gd_opr gd_e gd_o
    have pO : PtY (oprY n (lvY n).1 (lvY n).2.2) := pg_opr gd_e gd_o
    have pc : PtY (chcY (oprY n (lvY n).1 (lvY n).2.2) (lvY n).1 (lvY n).2.1) := pg_chc pO hO gd_e gd_c
    intro s h5 h
    have h : zFt (xpsY (oprY n (lvY n).1 (lvY n).2.2) (lvY n).1 (lvY n).2.1 s) = 0 := h
    show zAt s < zAt (xpsY (oprY n (lvY n).1 (lvY n).2.2) (lvY n).1 (lvY n).2.1 s)
    unfold xpsY at h ⊢
    split
    · rename_i c
      rw [if_pos c] at h
      split
      · rename_i d
        rw [if_pos d] at h
        have g : GpY (accY s) (asgY (lvY n).1 s) := (gd_acc _).tr (gd_e (n := n) _)
        exact ac_g g h5 h
      · rename_i d
        rw [if_neg d] at h
        exact pc s h5 h
    · rename_i c
      rw [if_neg c] at h
      exact pc s h5 h
/-- S's that have begun since then: their first tokens -/
def TgW (z z' : ZS) : Prop := (snM z ≤ snM z' ∧ zAt z.1 ≤ zAt z'.1) ∧ (∀ i, i < snM z → (reS z' i).1 = (reS z i).1) ∧ ∀ i, snM z ≤ i → i < snM z' → SkD z' i → (zAt z.1 ≤ fiS z' i ∧ fiS z' i < zAt z'.1) ∧ ∀ j, i < j → j < snM z' → SkD z' j → fiS z' i < fiS z' j
def TnW (z0 z : ZS) : Prop := zFt z.1 = 0 → TgW z0 z ∧ zAt z.1 ≤ 500
section
variable {z0 z z' : ZS} {j n k : Nat} {N : Int → Int}
theorem sk_re {i : Nat} (h : (reS z' i).1 = (reS z i).1) : (SkD z' i ↔ SkD z i) ∧ fiS z' i = fiS z i := by
  have e : kjS z' i = kjS z i := congrArg (fun v : Int × Int × Int × Int => v.1) h
  refine ⟨?_, congrArg (fun v : Int × Int × Int × Int => v.2.1) h⟩
  unfold SkD
  rw [e]
theorem TnW.hd (h : TnW z0 z) (e0 : snM z' = snM z) (e : ∀ i, i < snM z → (reS z' i).1 = (reS z i).1) (g : GpY z.1 z'.1) : TnW z0 z' := fun f => by
  obtain ⟨⟨⟨a1, a2⟩, a3, a4⟩, a5⟩ := h (g.z f)
  have m := g.2 a5
  refine ⟨⟨⟨by omega, by omega⟩, fun i hi => (e i (by omega)).trans (a3 i hi), fun i c1 c2 c3 => ?_⟩, m.2⟩
  obtain ⟨s1, s2⟩ := sk_re (e i (by omega))
  obtain ⟨b1, b2⟩ := a4 i c1 (by omega) (s1.mp c3)
  refine ⟨by omega, fun j d1 d2 d3 => ?_⟩
  obtain ⟨t1, t2⟩ := sk_re (e j (by omega))
  have := b2 j d1 (by omega) (t1.mp d3)
  omega
theorem TnW.m (h : TnW z0 z) (e : z'.2.2.1 = z.2.2.1) (g : GpY z.1 z'.1) : TnW z0 z' := h.hd (by unfold snM; rw [e]) (fun i _ => by unfold reS; rw [e]) g
theorem TnW.ac (h : TnW z0 z) : TnW z0 (accM z) := h.m rfl (gd_acc _)
theorem TnW.ra {c : Int} (h : TnW z0 z) : TnW z0 (raiM c z) := h.m rfl (gd_rai _)
theorem TnW.xp {c : Int} (h : TnW z0 z) : TnW z0 (xpM c z) := h.m rfl (gd_xp _)
theorem TnW.ty (h : TnW z0 z) : TnW z0 (typM z) := h.m rfl (gd_typ _)
theorem TnW.dc {ty f g : Int} (h : TnW z0 z) : TnW z0 (dcM N ty f g z) := h.m rfl (gd_dcl _)
theorem TnW.s (h : TnW z0 z) (e1 : z'.1 = z.1) (e : z'.2.2.1 = z.2.2.1) : TnW z0 z' := h.m e (by rw [e1]; exact GpY.rf)
theorem TnW.co {o a b t : Int} (h : TnW z0 z) : TnW z0 (coM o a b t z) := h.s rfl rfl
theorem TnW.cx {o a b t : Int} (h : TnW z0 z) : TnW z0 (cxM o a b t z) := h.s rfl rfl
theorem TnW.it {y : ItZ} (h : TnW z0 z) : TnW z0 (z.1, y :: z.2.1, z.2.2) := h.s rfl rfl
theorem TnW.ve {t : Int} {o : List (Int × Int)} (h : TnW z0 z) : TnW z0 (veM t o z) := h.s rfl rfl
theorem TnW.ar {i : Int} (h : TnW z0 z) : TnW z0 (arM i z) := h.s rfl rfl
theorem TnW.un (h : TnW z0 z) : TnW z0 (unM j z) := h.ar
theorem TnW.th (h : TnW z0 z) : TnW z0 (thM z) := h.s rfl rfl
theorem TnW.se {f : SrZ → SrZ} (h : TnW z0 z) (q : ∀ x : SrZ, (f x).1 = x.1) : TnW z0 (seM j f z) := h.hd rfl (fun i _ => by
  show (if i = j then f (z.2.2.1.2 j) else z.2.2.1.2 i).1 = _
  split
  · rename_i c
    rw [q, c]
    rfl
  · rfl) GpY.rf
/-- one that has no STEP begins -/
theorem TnW.be {c l : Int} (h : TnW z0 z) (hc : c = 62 ∨ c = 63 ∨ c = 92 ∨ c = 93 ∨ c = 94) : TnW z0 (beM c l z) := fun f => by
  obtain ⟨⟨⟨a1, a2⟩, a3, a4⟩, a5⟩ := h f
  have old : ∀ i, i < snM z → reS (beM c l z) i = reS z i := fun i hi => if_neg (by have hi : i < z.2.2.1.1 := hi; omega)
  have new : kjS (beM c l z) (snM z) = c := by
    have e : reS (beM c l z) (snM z) = _ := if_pos rfl
    unfold kjS
    rw [e]
  have nsk : ¬ SkD (beM c l z) (snM z) := fun q => by
    unfold SkD at q
    rw [new] at q
    omega
  have a1' : snM z0 ≤ snM z + 1 := by omega
  refine ⟨⟨⟨a1', a2⟩, fun i hi => by rw [old i (by omega)]; exact a3 i hi, fun i c1 c2 c3 => ?_⟩, a5⟩
  have c2 : i < snM z + 1 := c2
  by_cases e : i = snM z
  · rw [e] at c3
    exact absurd c3 nsk
  · obtain ⟨s1, s2⟩ := sk_re (z' := beM c l z) (z := z) (congrArg (fun v : SrZ => v.1) (old i (by omega)))
    obtain ⟨b1, b2⟩ := a4 i c1 (by omega) (s1.mp c3)
    refine ⟨by rw [s2]; exact b1, fun j d1 d2 d3 => ?_⟩
    have d2 : j < snM z + 1 := d2
    by_cases e' : j = snM z
    · rw [e'] at d3
      exact absurd d3 nsk
    · obtain ⟨t1, t2⟩ := sk_re (z' := beM c l z) (z := z) (congrArg (fun v : SrZ => v.1) (old j (by omega)))
      rw [s2, t2]
      exact b2 j d1 (by omega) (t1.mp d3)
/-- one that has a STEP begins, and a token is taken -/
theorem TnW.bs (h : TnW z0 z) (e0 : snM z' = snM z + 1) (e1 : ∀ i, i < snM z → (reS z' i).1 = (reS z i).1) (e2 : fiS z' (snM z) = zAt z.1) (g : GpY z.1 z'.1) (lt : zAt z.1 ≤ 500 → zFt z'.1 = 0 → zAt z.1 < zAt z'.1) : TnW z0 z' := fun f => by
  obtain ⟨⟨⟨a1, a2⟩, a3, a4⟩, a5⟩ := h (g.z f)
  have m := lt a5 f
  refine ⟨⟨⟨by omega, by omega⟩, fun i hi => (e1 i (by omega)).trans (a3 i hi), fun i c1 c2 c3 => ?_⟩, (g.2 a5).2⟩
  by_cases e : i = snM z
  · subst e
    exact ⟨by omega, fun j d1 d2 _ => by omega⟩
  · obtain ⟨s1, s2⟩ := sk_re (e1 i (by omega))
    obtain ⟨b1, b2⟩ := a4 i c1 (by omega) (s1.mp c3)
    refine ⟨by omega, fun j d1 d2 d3 => ?_⟩
    by_cases e' : j = snM z
    · subst e'
      omega
    · obtain ⟨t1, t2⟩ := sk_re (e1 j (by omega))
      have := b2 j d1 (by omega) (t1.mp d3)
      omega
theorem be_re {c l : Int} : snM (beM c l z) = snM z + 1 ∧ (∀ i, i < snM z → (reS (beM c l z) i).1 = (reS z i).1) ∧ fiS (beM c l z) (snM z) = zAt z.1 := by
  refine ⟨rfl, fun i hi => ?_, ?_⟩
  · have e : reS (beM c l z) i = reS z i := if_neg (by have hi : i < z.2.2.1.1 := hi; omega)
    rw [e]
  · have e : reS (beM c l z) (snM z) = _ := if_pos rfl
    unfold fiS
    rw [e]
/-- it begins, then a token -/
theorem TnW.ba {c l : Int} (h : TnW z0 z) (e : z'.2.2.1 = (beM c l z).2.2.1) (e1 : z'.1 = accY z.1) : TnW z0 z' := by
  obtain ⟨b1, b2, b3⟩ := be_re (c := c) (l := l) (z := z)
  refine h.bs (by unfold snM; rw [e]; exact b1) (fun i hi => by unfold reS; rw [e]; exact b2 i hi) (by unfold fiS reS; rw [e]; exact b3) (by rw [e1]; exact gd_acc _) (fun _ f => ?_)
  rw [e1] at f ⊢
  exact ac_lt f
theorem TnW.ee (h : TnW z0 z) : TnW z0 (eM N n z) := h.m (by rw [(ks_lv (N := N) n).1 z]) (by rw [lf_e z]; exact gd_e _)
theorem TnW.ex (h : TnW z0 z) : TnW z0 (exS N j n z) := h.ee.se (by intro _; rfl)
theorem TnW.cd (h : TnW z0 z) : TnW z0 (cdM N j n z) := (h.xp.ex).xp
theorem TnW.bd (h : TnW z0 z) : TnW z0 (bdM j k z) := (h.se (by intro _; rfl)).un
theorem TnW.en {c : Nat} (h : TnW z0 z) : TnW z0 (enM j c z) := h.co
theorem TnW.po (h : TnW z0 z) : TnW z0 (poM z) := h.cx
theorem TnW.pu {x : XrZ} (h : TnW z0 z) : TnW z0 (puM x z) := h.it
theorem TnW.va2 {f v t : Int} (h : TnW z0 z) : TnW z0 (va2M N j n f v t z) := by
  unfold va2M
  split
  · exact ((h.co).xp.ex).pu
  · exact h.co
theorem TnW.va1 {f ty : Int} (h : TnW z0 z) : TnW z0 (va1M N j n f ty z) := (h.dc.se (by intro _; rfl)).va2
theorem TnW.va (h : TnW z0 z) : TnW z0 (vaM N j n z) := by
  unfold vaM
  split
  · exact (h.ac.ty).va1
  · exact (h.ty).va1
theorem TnW.xs (h : TnW z0 z) : TnW z0 (xsM N n z) := by
  obtain ⟨b1, b2, b3⟩ := be_re (c := 90) (l := lvN n) (z := z)
  have ek : (eM N n (bgM 90 n z)).2.2 = (bgM 90 n z).2.2 := (ks_lv (N := N) n).1 _
  have el : (eM N n (bgM 90 n z)).1 = eY n z.1 := lf_e _
  have k : TnW z0 (eM N n (bgM 90 n z)) := h.bs (by unfold snM; rw [ek]; exact b1) (fun i hi => by unfold reS; rw [ek]; exact b2 i hi) (by unfold fiS reS; rw [ek]; exact b3) (by rw [el]; exact gd_e _) (fun h5 f => by
    rw [el] at f ⊢
    exact pg_e _ h5 f)
  exact ((k.se (by intro _; rfl)).po.xp).en
theorem TnW.to (h : TnW z0 z) : TnW z0 (toM N n z) := by
  obtain ⟨b1, b2, b3⟩ := be_re (c := 91) (l := lvN n) (z := z)
  have k : TnW z0 (vaM N (snM z) n (bgM 91 n z)) := by
    unfold vaM
    split
    · have k1 : TnW z0 (accM (bgM 91 n z)) := h.ba (c := 91) (l := lvN n) rfl rfl
      exact (k1.ty).va1
    · have k1 : TnW z0 (typM (bgM 91 n z)) := h.bs b1 b2 b3 (gd_typ _) (fun _ f => ty_lt f)
      exact k1.va1
  exact (k.xp).en
theorem TnW.fx1 (h : TnW z0 z) : TnW z0 (fx1M N n z) := ((h.be (by omega)).ex).po
end
theorem TnW.fxl {z0 : ZS} {N : Int → Int} {n : Nat} : ∀ (f j : Nat) (z : ZS), TnW z0 z → TnW z0 (fxlM N n f j z) := by
  intro f
  induction f with
  | zero => exact fun _ _ h => h
  | succ f ih =>
    intro j z h
    rw [fxlM]
    split
    · exact ih _ _ ((h.ac.fx1).se (by intro _; rfl))
    · exact h
section
variable {z0 z : ZS} {j n k : Nat} {N : Int → Int}
theorem TnW.fx (h : TnW z0 z) : TnW z0 (fxM N n z) := TnW.fxl 501 _ _ h.fx1
theorem TnW.cs {jn : Int} (h : TnW z0 z) (hc : codY z.1 = 62 ∨ codY z.1 = 63) : TnW z0 (csM N jn n z) := by
  unfold csM
  split
  · exact (((h.be (by omega)).ac.ex).cx).xp
  · exact (((h.be (by omega)).ac).co).xp
theorem TnW.ju {c : Int} (h : TnW z0 z) : TnW z0 (juM N c n z) := by
  have q1 : TnW z0 (accM (bgM c n z)) := h.ba (c := c) (l := lvN n) rfl rfl
  refine TnW.en (TnW.xp ?_)
  split
  · exact ((q1.se (by intro _; rfl)).co).ac
  · exact q1.co
theorem TnW.gi {c : Int} (h : TnW z0 z) : TnW z0 (giM N c n z) := by
  have q1 : TnW z0 (accM (bgM c n z)) := h.ba (c := c) (l := lvN n) rfl rfl
  refine TnW.en (TnW.xp ?_)
  dsimp only
  split
  · refine TnW.cx ?_
    split
    · exact (q1.ex).se (by intro _; rfl)
    · exact q1.ex
  · exact (q1.se (by intro _; rfl)).co
abbrev TwS (St : ZS → ZS) : Prop := ∀ z0 z, TnW z0 z → TnW z0 (St z)
abbrev TwR (Rw : Int → Nat → ZS → ZS × Int) : Prop := ∀ (sw : Int) (jn : Nat) (z0 z : ZS), TnW z0 z → TnW z0 (Rw sw jn z).1
variable {St : ZS → ZS} {Rw : Int → Nat → ZS → ZS × Int}
theorem TnW.blk (h : TnW z0 z) (r : TwR Rw) {o : List (Int × Int)} : TnW z0 (blkM Rw j o z) := ((((r 0 0 _ _ (h.ar.xp (c := 2))).se (by intro _; rfl)).un).ve).xp
theorem TnW.bo (h : TnW z0 z) (r : TwR Rw) {o : List (Int × Int)} : TnW z0 (boM Rw n o z) := (h.be (by omega)).blk r
theorem TnW.bl (h : TnW z0 z) (r : TwR Rw) : TnW z0 (blM Rw n z) := by
  obtain ⟨b1, b2, b3⟩ := be_re (c := 2) (l := lvN n) (z := z)
  have k : TnW z0 (xpM 2 (arM (snM z) (bgH 2 n z))) := h.bs b1 b2 b3 (gd_xp _) (fun _ f => xp_lt f)
  exact (((((r 0 0 _ _ k).se (by intro _; rfl)).un).ve).xp).en
theorem TnW.em (h : TnW z0 z) : TnW z0 (emM n z) := (h.ba (z' := accM (bgM 4 n z)) (c := 4) (l := lvN n) rfl rfl).en
theorem TnW.la (h : TnW z0 z) (s : TwS St) : TnW z0 (laM n St z) := by
  obtain ⟨b1, b2, b3⟩ := be_re (c := 6) (l := lvN n) (z := z)
  have hd : ∀ i, (reS (accM (seM (snM z) (sLk (zAt z.1)) (coM 41 (tnM z) 0 (zAt z.1) (bgH 6 n z)))) i).1 = (reS (beM 6 (lvN n) z) i).1 := fun i => by
    show (if i = snM z then sLk _ ((beM 6 (lvN n) z).2.2.1.2 (snM z)) else (beM 6 (lvN n) z).2.2.1.2 i).1 = _
    split
    · rename_i c
      rw [c]
      rfl
    · rfl
  have k : TnW z0 (accM (seM (snM z) (sLk (zAt z.1)) (coM 41 (tnM z) 0 (zAt z.1) (bgH 6 n z)))) := h.bs b1 (fun i hi => (hd i).trans (b2 i hi)) (by
    have e := hd (snM z)
    have e2 : fiS (accM (seM (snM z) (sLk (zAt z.1)) (coM 41 (tnM z) 0 (zAt z.1) (bgH 6 n z)))) (snM z) = fiS (beM 6 (lvN n) z) (snM z) := congrArg (fun v : Int × Int × Int × Int => v.2.1) e
    rw [e2]
    exact b3) (gd_acc _) (fun _ f => ac_lt f)
  exact ((((s _ _ (k.xp.ar)).bd).co).en)
theorem TnW.if2 (h : TnW z0 z) (s : TwS St) {c : Nat} : TnW z0 (if2M St j k c z) := by
  unfold if2M
  split
  · exact (((((s _ _ (h.co.ac.ar)).se (by intro _; rfl)).un).co)).en
  · exact (h.co).en
theorem TnW.if (h : TnW z0 z) (s : TwS St) : TnW z0 (ifM N n St z) := by
  have q : TnW z0 (accM (bgH 56 n z)) := h.ba (c := 56) (l := lvN n) rfl rfl
  exact ((s _ _ (q.cd.cx.ar)).bd).if2 s
theorem TnW.wh (h : TnW z0 z) (s : TwS St) : TnW z0 (whM N n St z) := by
  have q : TnW z0 (accM (coM 26 (tnM z) 0 (zAt z.1) (bgH 58 n z))) := h.ba (c := 58) (l := lvN n) rfl rfl
  exact (((s _ _ (q.cd.cx.ar)).bd).co).en
theorem TnW.do (h : TnW z0 z) (s : TwS St) : TnW z0 (doM N n St z) := by
  have q : TnW z0 (accM (coM 29 (tnM z) 0 (zAt z.1) (bgH 59 n z))) := h.ba (c := 59) (l := lvN n) rfl rfl
  exact ((((((s _ _ q.ar).bd).xp).co).cd.xp).cx).en
theorem TnW.fo1 (h : TnW z0 z) : TnW z0 (fo1M N j n z) := by
  unfold fo1M
  split
  · exact ((h.be (by omega)).va).se (by intro _; rfl)
  split
  · exact h
  · exact h.fx.se (by intro _; rfl)
theorem TnW.fo2 (h : TnW z0 z) : TnW z0 (fo2M N j k n z) := by
  unfold fo2M
  split
  · exact h.co
  · exact (h.ex).cx
theorem TnW.fo3 (h : TnW z0 z) : TnW z0 (fo3M N j n z) := by
  unfold fo3M
  split
  · exact h
  · exact h.fx.se (by intro _; rfl)
theorem TnW.fob (h : TnW z0 z) : TnW z0 (foB N j k n z) := (((((((h.xp.ar.fo1).xp).co).fo2).xp.co).fo3).xp).co
theorem TnW.fo (h : TnW z0 z) (s : TwS St) : TnW z0 (foM2 N n St z) := by
  have q : TnW z0 (accM (bgH 60 n z)) := h.ba (c := 60) (l := lvN n) rfl rfl
  exact ((((s _ _ q.fob).bd).ve).co).en
theorem TnW.sw (h : TnW z0 z) (r : TwR Rw) : TnW z0 (swM N n Rw z) := by
  have q : TnW z0 (accM (bgH 61 n z)) := h.ba (c := 61) (l := lvN n) rfl rfl
  have a : TnW z0 (swB N n z) := (q.cd.cx.ar).xp
  exact ((((((r 1 (tnM z) _ _ a).se (by intro _; rfl)).un).ve).xp).co).en
theorem TnW.tr1 (h : TnW z0 z) : TnW z0 (tr1M z) := by
  unfold tr1M
  split
  · exact h
  · exact h.ra
theorem TnW.tr2 (h : TnW z0 z) (r : TwR Rw) : TnW z0 (tr2M N Rw j k n z) := by
  unfold tr2M
  split
  · have b0 : TnW z0 (caM k z) := h.it
    exact ((((((b0.ac.xp.dc).se (by intro _; rfl)).xp).bo r).se (by intro _; rfl)))
  · exact h
theorem TnW.tr3 (h : TnW z0 z) (r : TwR Rw) : TnW z0 (tr3M Rw j k n z) := by
  unfold tr3M
  split
  · exact ((h.co.ac).bo r).se (by intro _; rfl)
  · exact h
theorem TnW.tr (h : TnW z0 z) (r : TwR Rw) : TnW z0 (trM N n Rw z) := by
  have q : TnW z0 (accM (bgH 68 n z)) := h.ba (c := 68) (l := lvN n) rfl rfl
  have b1 : TnW z0 (trB n z) := (q.co).ar
  exact ((((((b1.bo r).se (by intro _; rfl)).tr1).tr2 r).tr3 r).un.co).en
theorem TnW.sm (h : TnW z0 z) (s : TwS St) (r : TwR Rw) : TnW z0 (smM N n St Rw z) := iv_ifc (I := TnW z0) (fun _ => h.if s) (fun _ => iv_ifc (I := TnW z0) (fun _ => h.wh s) (fun _ => iv_ifc (I := TnW z0) (fun _ => h.do s) (fun _ => iv_ifc (I := TnW z0) (fun _ => h.fo s) (fun _ => iv_ifc (I := TnW z0) (fun _ => h.sw r) (fun _ => iv_ifc (I := TnW z0) (fun _ => h.tr r) (fun _ => iv_ifc (I := TnW z0) (fun _ => h.bl r) (fun _ => iv_ifc (I := TnW z0) (fun _ => h.em) (fun _ => iv_ifc (I := TnW z0) (fun _ => h.ju) (fun _ => iv_ifc (I := TnW z0) (fun _ => h.gi) (fun _ => iv_ifc (I := TnW z0) (fun _ => iv_ifc (I := TnW z0) (fun _ => h.la s) (fun _ => h.xs)) (fun _ => h.xs)))))))))))
theorem TnW.rp2 (h : TnW z0 z) (s : TwS St) : TnW z0 (rp2M N n St z) := by
  unfold rp2M
  split
  · exact h.to
  · exact s _ _ h
theorem TnW.rp (h : TnW z0 z) (s : TwS St) {jn : Nat} {sw c : Int} : TnW z0 (rpM N n St sw jn c z) := by
  unfold rpM
  split
  · split
    · rename_i hc
      exact h.cs hc
    split
    · exact h.ra.rp2 s
    · exact h.rp2 s
  · exact h.rp2 s
theorem TnW.nx {l : Int} {i : Nat} (h : TnW z0 z) : TnW z0 (nxM l i z) := by
  unfold nxM
  split
  · exact h
  · exact h.se (by intro _; rfl)
end
theorem TnW.rwl {N : Int → Int} {St : ZS → ZS} (s : TwS St) {n jn : Nat} {sw : Int} {z0 : ZS} : ∀ (k : Nat) (f l : Int) (z : ZS), TnW z0 z → TnW z0 (rwlM N n St sw jn k f l z).1 := by
  intro k
  induction k with
  | zero => exact fun _ _ _ h => h
  | succ k ih =>
    intro f l z h
    rw [rwlM]
    split
    · split
      · exact h
      · exact ih _ _ _ ((h.rp s).nx)
    · exact h
theorem TnW.ls {N : Int → Int} : ∀ n, TwS (lsM N n).1 ∧ TwR (lsM N n).2 := by
  intro n
  induction n with
  | zero => exact ⟨fun _ _ h => h.ra, fun _ _ _ _ h => h.ra⟩
  | succ n ih =>
    have s : TwS (smM N (n + 1) (lsM N n).1 (lsM N n).2) := fun _ _ h => h.sm ih.1 ih.2
    exact ⟨s, fun sw jn z0 z h => TnW.rwl s 501 (-1) (-1) z h⟩
section
variable {z0 z : ZS} {N : Int → Int}
theorem TnW.pa2 {i : Nat} {ty f : Int} (h : TnW z0 z) : TnW z0 (pa2M N i ty f z) := by
  unfold pa2M
  split
  · exact (h.dc (N := N) (ty := ty) (f := f) (g := 1)).m rfl (gd_pad _)
  · exact h.dc
theorem TnW.pa1 {i : Nat} (h : TnW z0 z) : TnW z0 (pa1M N i z) := by
  unfold pa1M
  split
  · exact (h.ac.ty).pa2
  · exact h.ty.pa2
theorem TnW.pal : ∀ (f i : Nat) (z : ZS), TnW z0 z → TnW z0 (palM N f i z) := by
  intro f
  induction f with
  | zero => exact fun _ _ h => h
  | succ f ih =>
    intro i z h
    rw [palM]
    split
    · exact ih _ _ (h.pa1.ac)
    · exact h.pa1
theorem TnW.me (h : TnW z0 z) : TnW z0 (meM N z) := by
  have m1 : TnW z0 (me1M z) := by
    unfold me1M
    split
    · exact h
    · exact h.ra
  have m2 : TnW z0 (me2M (accM (me1M z))) := by
    unfold me2M
    split
    · split
      · exact m1.ac.ra
      · exact m1.ac
    · exact m1.ac.ra
  show TnW z0 (me3M N (codY z.1 - 50) (me2M (accM (me1M z))))
  unfold me3M
  split
  · refine TnW.co (TnW.bo ?_ (TnW.ls 20).2)
    have m3 : TnW z0 (accM (me0M (codY z.1 - 50) (me2M (accM (me1M z))))) := (m2.m (z' := me0M (codY z.1 - 50) (me2M (accM (me1M z)))) rfl (gd_met _)).ac
    show TnW z0 (xpM 1 (pa3M N (xpM 0 (accM (me0M (codY z.1 - 50) (me2M (accM (me1M z))))))))
    refine TnW.xp ?_
    unfold pa3M
    split
    · exact m3.xp
    · exact TnW.pal _ _ _ m3.xp
  · exact m2
theorem TnW.pr : ∀ (f : Nat) (z : ZS), TnW z0 z → TnW z0 (prM N f z) := by
  intro f
  induction f with
  | zero => exact fun _ h => h
  | succ f ih =>
    intro z h
    rw [prM]
    split
    · split
      · exact h
      · exact ih _ h.me
    · exact h
end
/-- in a program -/
theorem tki_pr {N : Int → Int} {f : Nat} {s : SpC} (h : zFt (prM N f (z0S s)).1 = 0) (hs : zAt s = 0) : TkI (prM N f (z0S s)) ∧ ∀ i, i < snM (prM N f (z0S s)) → SkD (prM N f (z0S s)) i → 0 ≤ fiS (prM N f (z0S s)) i ∧ fiS (prM N f (z0S s)) i < zAt (prM N f (z0S s)).1 := by
  have t : TnW (z0S s) (prM N f (z0S s)) := TnW.pr f (z0S s) (fun _ => ⟨⟨⟨Nat.le_refl _, Int.le_refl _⟩, fun _ _ => rfl, fun i c1 c2 _ => by omega⟩, by show zAt s ≤ 500; omega⟩)
  obtain ⟨⟨_, _, w⟩, _⟩ := t h
  have e0 : snM (z0S s) = 0 := rfl
  have z0 : zAt (z0S s).1 = 0 := hs
  refine ⟨fun i j hi hj si sj e => ?_, fun i hi si => ?_⟩
  · have a := w i (by omega) hi si
    have b := w j (by omega) hj sj
    rcases Nat.lt_trichotomy i j with q | q | q
    · have := a.2 j q hj sj
      omega
    · exact q
    · have := b.2 i q hi si
      omega
  · have a := w i (by omega) hi si
    omega

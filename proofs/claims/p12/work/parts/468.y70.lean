/-! which variables are known where: all that is read -/
section
variable {N : Int → Int} {z0 z : ZS} {j n k : Nat}
theorem RkW.ex : RkW N z (exS N j n z) := RkW.ee.tr (RkW.se (by intro _; rfl))
theorem RkW.cd : RkW N z (cdM N j n z) := (RkW.xp.tr RkW.ex).tr RkW.xp
theorem RkW.bd : RkW N z (bdM j k z) := (RkW.se (f := sBd k) (by intro _; rfl)).tr RkW.un
theorem RkW.xs : RkW N z (xsM N n z) := (((RkW.bg.tr RkW.ex).tr RkW.po).tr RkW.xp).tr RkW.en
theorem RkW.va2 {f v t : Int} : RkW N z (va2M N j n f v t z) := by
  unfold va2M
  split
  · refine RkW.tr ?_ (RkW.pu rfl)
    exact ((RkW.co (by decide)).tr RkW.xp).tr RkW.ex
  · exact RkW.co (by decide)
theorem tyv_rg {s : SpC} : 0 ≤ tyvY s ∧ tyvY s ≤ 4 := by
  unfold tyvY
  split <;> omega
theorem RkW.va1 {f ty : Int} (ht : 0 ≤ ty ∧ ty ≤ 4) : RkW N z (va1M N j n f ty z) := ((RkW.dc ht).tr (RkW.se (f := sLk (zVs z.1).length) (by intro _; rfl))).tr RkW.va2
theorem RkW.va : RkW N z (vaM N j n z) := by
  unfold vaM
  split
  · exact (RkW.ac.tr RkW.ty).tr (RkW.va1 tyv_rg)
  · exact RkW.ty.tr (RkW.va1 tyv_rg)
theorem RkW.to : RkW N z (toM N n z) := ((RkW.bg.tr RkW.va).tr RkW.xp).tr RkW.en
theorem RkW.fx1 : RkW N z (fx1M N n z) := (RkW.be.tr RkW.ex).tr RkW.po
end
theorem RkW.fxl {N : Int → Int} {n : Nat} : ∀ (f j : Nat) (z : ZS), RkW N z (fxlM N n f j z) := by
  intro f
  induction f with
  | zero => exact fun _ _ => RkW.rf
  | succ f ih =>
    intro j z
    rw [fxlM]
    split
    · exact ((RkW.ac.tr RkW.fx1).tr (RkW.se (by intro _; rfl))).tr (ih _ _)
    · exact RkW.rf
section
variable {N : Int → Int} {z0 z : ZS} {j n k : Nat}
theorem RkW.fx : RkW N z (fxM N n z) := RkW.fx1.tr (RkW.fxl 501 _ _)
theorem RkW.cs {jn : Int} : RkW N z (csM N jn n z) := by
  unfold csM
  split
  · exact (((RkW.be.tr RkW.ac).tr RkW.ex).tr (RkW.cx (by decide))).tr RkW.xp
  · exact ((RkW.be.tr RkW.ac).tr (RkW.co (by decide))).tr RkW.xp
theorem RkW.ju {c : Int} (hc : c = 64 ∨ c = 65) : RkW N z (juM N c n z) := by
  have q1 : RkW N z (accM (bgM c n z)) := RkW.bg.tr RkW.ac
  refine RkW.tr (RkW.tr ?_ RkW.xp) RkW.en
  split
  · exact ((q1.tr (RkW.se (by intro _; rfl))).tr (RkW.co (by omega))).tr RkW.ac
  · exact q1.tr (RkW.co (by omega))
theorem RkW.gi {c : Int} (hc : c = 66 ∨ c = 67) : RkW N z (giM N c n z) := by
  have q1 : RkW N z (accM (bgM c n z)) := RkW.bg.tr RkW.ac
  refine RkW.tr (RkW.tr ?_ RkW.xp) RkW.en
  dsimp only
  split
  · refine RkW.tr ?_ (RkW.cx (by omega))
    split
    · exact (q1.tr RkW.ex).tr (RkW.se (by intro _; rfl))
    · exact q1.tr RkW.ex
  · exact (q1.tr (RkW.se (by intro _; rfl))).tr (RkW.co (by omega))
abbrev RkS (N : Int → Int) (St : ZS → ZS) : Prop := ∀ z, RkW N z (St z)
abbrev RkR (N : Int → Int) (Rw : Int → Nat → ZS → ZS × Int) : Prop := ∀ (sw : Int) (jn : Nat) (z : ZS), RkW N z (Rw sw jn z).1
variable {St : ZS → ZS} {Rw : Int → Nat → ZS → ZS × Int}
theorem RkW.blk (h : RkW N z0 z) (r : RkR N Rw) {o : List (Int × Int)} (ho : o = knW z0) : RkW N z0 (blkM Rw j o z) := by
  show RkW N z0 (xpM 3 (veM (zAt (Rw 0 0 (xpM 2 (arM j z))).1.1) o (unM j (seM j (sBd (Rw 0 0 (xpM 2 (arM j z))).2) (Rw 0 0 (xpM 2 (arM j z))).1))))
  have q : RkW N z0 (unM j (seM j (sBd (Rw 0 0 (xpM 2 (arM j z))).2) (Rw 0 0 (xpM 2 (arM j z))).1)) := ((((h.tr RkW.ar).tr RkW.xp).tr (r 0 0 _)).tr (RkW.se (by intro _; rfl))).tr RkW.un
  exact q.vx ho
theorem RkW.bo (h : RkW N z0 z) (r : RkR N Rw) {o : List (Int × Int)} (ho : o = knW z0) : RkW N z0 (boM Rw n o z) := (h.tr RkW.be).blk r ho
theorem RkW.bl (r : RkR N Rw) : RkW N z (blM Rw n z) := (RkW.blk (RkW.bh) r rfl).tr RkW.en
theorem RkW.em : RkW N z (emM n z) := (RkW.bg.tr RkW.ac).tr RkW.en
theorem RkW.la (s : RkS N St) : RkW N z (laM n St z) := by
  have q : RkW N z (laB n z) := (((((RkW.bh.tr (RkW.co (by decide))).tr (RkW.se (by intro _; rfl))).tr RkW.ac).tr RkW.xp).tr RkW.ar)
  exact (((q.tr (s _)).tr RkW.bd).tr (RkW.co (by decide))).tr RkW.en
theorem RkW.if2 (s : RkS N St) {c : Nat} : RkW N z (if2M St j k c z) := by
  unfold if2M
  split
  · exact ((((((RkW.co (by decide)).tr RkW.ac).tr RkW.ar).tr (s _)).tr (RkW.se (by intro _; rfl))).tr RkW.un).tr ((RkW.co (by decide)).tr RkW.en)
  · exact (RkW.co (by decide)).tr RkW.en
theorem RkW.if (s : RkS N St) : RkW N z (ifM N n St z) := by
  have q : RkW N z (ifB N n z) := (((RkW.bh.tr RkW.ac).tr RkW.cd).tr (RkW.cx (by decide))).tr RkW.ar
  exact ((q.tr (s _)).tr RkW.bd).tr (RkW.if2 s)
theorem RkW.wh (s : RkS N St) : RkW N z (whM N n St z) := by
  have q : RkW N z (whB N n z) := ((((RkW.bh.tr (RkW.co (by decide))).tr RkW.ac).tr RkW.cd).tr (RkW.cx (by decide))).tr RkW.ar
  exact (((q.tr (s _)).tr RkW.bd).tr (RkW.co (by decide))).tr RkW.en
theorem RkW.do (s : RkS N St) : RkW N z (doM N n St z) := by
  have q : RkW N z (doB n z) := ((RkW.bh.tr (RkW.co (by decide))).tr RkW.ac).tr RkW.ar
  exact (((((((q.tr (s _)).tr RkW.bd).tr RkW.xp).tr (RkW.co (by decide))).tr RkW.cd).tr RkW.xp).tr (RkW.cx (by decide))).tr RkW.en
theorem RkW.fo1 : RkW N z (fo1M N j n z) := by
  unfold fo1M
  split
  · exact (RkW.be.tr RkW.va).tr (RkW.se (by intro _; rfl))
  split
  · exact RkW.rf
  · exact RkW.fx.tr (RkW.se (by intro _; rfl))
theorem RkW.fo2 : RkW N z (fo2M N j k n z) := by
  unfold fo2M
  split
  · exact RkW.co (by decide)
  · exact RkW.ex.tr (RkW.cx (by decide))
theorem RkW.fo3 : RkW N z (fo3M N j n z) := by
  unfold fo3M
  split
  · exact RkW.rf
  · exact RkW.fx.tr (RkW.se (by intro _; rfl))
theorem RkW.fob : RkW N z (foB N j k n z) := by
  have a1 : RkW N z (fo1M N j n (arM j (xpM 0 z))) := (RkW.xp.tr RkW.ar).tr RkW.fo1
  have a2 : ∀ w : ZS, RkW N w (coM 32 k 0 (fiS (xpM 4 w) j) (xpM 4 w)) := fun w => RkW.xp.tr (RkW.co (by decide))
  have a3 : ∀ w : ZS, RkW N w (coM 34 k 0 (fiS (xpM 4 w) j) (xpM 4 w)) := fun w => RkW.xp.tr (RkW.co (by decide))
  have a4 : ∀ w : ZS, RkW N w (coM 35 k 0 (fiS (xpM 1 w) j) (xpM 1 w)) := fun w => RkW.xp.tr (RkW.co (by decide))
  exact ((((a1.tr (a2 _)).tr RkW.fo2).tr (a3 _)).tr RkW.fo3).tr (a4 _)
/-- what was known when S j began -/
theorem kn_j {c : Int} {w : ZS} (h : RkW N (bgH c n z) w) : knS w (snM z) = knW (bgH c n z) := by
  rw [h.1.2.2 (snM z) (Nat.lt_succ_self _)]
  exact kn_be
theorem RkW.fo (s : RkS N St) : RkW N z (foM2 N n St z) := by
  have q0 : RkW N (bgH 60 n z) (foB N (snM z) (tnM z) n (accM (bgH 60 n z))) := RkW.ac.tr RkW.fob
  have q1 := q0.tr (s _)
  have q2 : RkW N (bgH 60 n z) (bdM (snM z) (snM (foB N (snM z) (tnM z) n (accM (bgH 60 n z)))) (St (foB N (snM z) (tnM z) n (accM (bgH 60 n z))))) := q1.tr RkW.bd
  have q3 := RkW.vf (out := knS (St (foB N (snM z) (tnM z) n (accM (bgH 60 n z)))) (snM z)) q2 (kn_j q1)
  exact RkW.bh.tr ((q3.tr (RkW.co (by decide))).tr RkW.en)
theorem RkW.sw (r : RkR N Rw) : RkW N z (swM N n Rw z) := by
  have q0 : RkW N (bgH 61 n z) (swB N n z) := (((RkW.ac.tr RkW.cd).tr (RkW.cx (by decide))).tr RkW.ar).tr RkW.xp
  have q1 := q0.tr (r 1 (tnM z) _)
  have q2 := (q1.tr (RkW.se (j := snM z) (f := sBd (Rw 1 (tnM z) (swB N n z)).2) (by intro _; rfl))).tr (RkW.un (j := snM z))
  have q3 := RkW.vx (c := 3) (out := knS (Rw 1 (tnM z) (swB N n z)).1 (snM z)) q2 (kn_j q1)
  exact RkW.bh.tr ((q3.tr (RkW.co (by decide))).tr RkW.en)
theorem RkW.tr1 : RkW N z (tr1M z) := by
  unfold tr1M
  split
  · exact RkW.rf
  · exact RkW.ra
theorem RkW.tr2 (h : RkW N z0 z) (r : RkR N Rw) (hk : knS z j = knW z0) : RkW N z0 (tr2M N Rw j k n z) := by
  unfold tr2M
  split
  · have b0 : RkW N z (caM k z) := RkW.it (by show ¬ (51 : Int) = 54; decide)
    have b1 : ∀ w : ZS, RkW N w (xpM 1 (seM j (sLk (zVs w.1).length) (dcM N 3 0 1 w))) := fun w => ((RkW.dc (by decide)).tr (RkW.se (by intro _; rfl))).tr RkW.xp
    have b2 := (((h.tr b0).tr RkW.ac).tr (RkW.xp (c := 0))).tr (b1 _)
    exact (RkW.bo b2 r hk).tr (RkW.se (by intro _; rfl))
  · exact h
theorem RkW.tr3 (h : RkW N z0 z) (r : RkR N Rw) (hk : knS z j = knW z0) : RkW N z0 (tr3M Rw j k n z) := by
  unfold tr3M
  split
  · exact (RkW.bo ((h.tr (RkW.co (by decide))).tr RkW.ac) r hk).tr (RkW.se (by intro _; rfl))
  · exact h
theorem RkW.trr (r : RkR N Rw) : RkW N z (trM N n Rw z) := by
  have q0 : RkW N (bgH 68 n z) (trB n z) := (RkW.ac.tr (RkW.co (by decide))).tr RkW.ar
  have q1 := RkW.bo (n := n) (o := z.2.2.2.1.1) q0 r rfl
  have q2 := (q1.tr (RkW.se (j := snM z) (f := sBd (snM z + 1)) (by intro _; rfl))).tr RkW.tr1
  have q3 := RkW.tr2 (n := n) (k := tnM z) q2 r (kn_j q2)
  have q4 := RkW.tr3 (n := n) (k := tnM z) q3 r (kn_j q3)
  exact RkW.bh.tr (((q4.tr (RkW.un (j := snM z))).tr (RkW.co (by decide))).tr RkW.en)
theorem RkW.sm (s : RkS N St) (r : RkR N Rw) : RkW N z (smM N n St Rw z) := iv_ifc (I := RkW N z) (fun _ => RkW.if s) (fun _ => iv_ifc (I := RkW N z) (fun _ => RkW.wh s) (fun _ => iv_ifc (I := RkW N z) (fun _ => RkW.do s) (fun _ => iv_ifc (I := RkW N z) (fun _ => RkW.fo s) (fun _ => iv_ifc (I := RkW N z) (fun _ => RkW.sw r) (fun _ => iv_ifc (I := RkW N z) (fun _ => RkW.trr r) (fun _ => iv_ifc (I := RkW N z) (fun _ => RkW.bl r) (fun _ => iv_ifc (I := RkW N z) (fun _ => RkW.em) (fun _ => iv_ifc (I := RkW N z) (fun c => RkW.ju c) (fun _ => iv_ifc (I := RkW N z) (fun c => RkW.gi c) (fun _ => iv_ifc (I := RkW N z) (fun _ => iv_ifc (I := RkW N z) (fun _ => RkW.la s) (fun _ => RkW.xs)) (fun _ => RkW.xs)))))))))))
theorem RkW.rp2 (s : RkS N St) : RkW N z (rp2M N n St z) := by
  unfold rp2M
  split
  · exact RkW.to
  · exact s _
theorem RkW.rp (s : RkS N St) {jn : Nat} {sw c : Int} : RkW N z (rpM N n St sw jn c z) := by
  unfold rpM
  split
  · split
    · exact RkW.cs
    split
    · exact RkW.ra.tr (RkW.rp2 s)
    · exact RkW.rp2 s
  · exact RkW.rp2 s
theorem RkW.nx {l : Int} {i : Nat} : RkW N z (nxM l i z) := by
  unfold nxM
  split
  · exact RkW.rf
  · exact RkW.se (by intro _; rfl)
end
theorem RkW.rwl {N : Int → Int} {St : ZS → ZS} (s : RkS N St) {n jn : Nat} {sw : Int} : ∀ (k : Nat) (f l : Int) (z : ZS), RkW N z (rwlM N n St sw jn k f l z).1 := by
  intro k
  induction k with
  | zero => exact fun _ _ _ => RkW.rf
  | succ k ih =>
    intro f l z
    rw [rwlM]
    split
    · split
      · exact RkW.rf
      · exact ((RkW.rp s).tr RkW.nx).tr (ih _ _ _)
    · exact RkW.rf
theorem RkW.ls {N : Int → Int} : ∀ n, RkS N (lsM N n).1 ∧ RkR N (lsM N n).2 := by
  intro n
  induction n with
  | zero => exact ⟨fun _ => RkW.ra, fun _ _ _ => RkW.ra⟩
  | succ n ih =>
    have s : RkS N (smM N (n + 1) (lsM N n).1 (lsM N n).2) := fun _ => RkW.sm ih.1 ih.2
    exact ⟨s, fun sw jn z => RkW.rwl s 501 (-1) (-1) z⟩
/-- between methods -/
def KvP (N : Int → Int) (z : ZS) : Prop := (0 ≤ zAt z.1 ∧ zAt z.1 ≤ 500) ∧ knW z = [] ∧ (∀ u, u < vnW z → ((vrL (zVs z.1) u).1 < zAt z.1 ∧ (vrL (zVs z.1) u).2.2.2 ≤ mcW z) ∧ 0 ≤ (vrL (zVs z.1) u).1 ∧ zK z.1 (vrL (zVs z.1) u).1.toNat = 80 ∧ 0 ≤ (vrL (zVs z.1) u).2.1 ∧ (vrL (zVs z.1) u).2.1 ≤ 4) ∧ ItW N z ∧ mdZ z.2.1 = (zMs z.1).length
section
variable {N : Int → Int} {z : ZS}
theorem RkW.pa2 {i : Nat} {ty f : Int} (ht : 0 ≤ ty ∧ ty ≤ 4) : RkW N z (pa2M N i ty f z) := by
  unfold pa2M
  split
  · refine RkW.tr (RkW.dc (N := N) (ty := ty) (f := f) (h := 1) ht) ?_
    generalize dcM N ty f 1 z = w
    refine ⟨⟨gd_pad _, Nat.le_refl _, fun _ _ => rfl⟩, fun e k => ?_⟩
    have em : mcW (padY ty w.1, w.2) = mcW w := by
      show ((zMs (padY ty w.1)).length : Int) - 1 = _
      unfold padY mcW
      show (((match zMs w.1 with | [] => [] | (a, b, l) :: r => (a, b, ty :: l) :: r) : List (Int × Int × List Int)).length : Int) - 1 = _
      cases zMs w.1 with
      | nil => rfl
      | cons a l => rfl
    obtain ⟨h1, h2, h3, h4, h5, h6⟩ := k
    refine ⟨⟨h1, ?_, ?_, ?_, ⟨fun x l a b => ?_, fun u hu => ?_⟩, ?_⟩, [], rfl⟩
    · rw [em]; exact h2
    · rw [em]; exact h3
    · rw [em]; exact h4
    · exact ⟨(h5.1 x l a b).1, lkw_cg (h5.1 x l a b).2 rfl (fun _ _ => Iff.rfl)⟩
    · obtain ⟨y, y1, y2⟩ := h5.2 u hu
      exact ⟨y, y1, lkw_cg y2 rfl (fun _ _ => Iff.rfl)⟩
    · rw [em]; exact h6
  · exact RkW.dc ht
theorem RkW.pa1 {i : Nat} : RkW N z (pa1M N i z) := by
  unfold pa1M
  split
  · exact (RkW.ac.tr RkW.ty).tr (RkW.pa2 tyv_rg)
  · exact RkW.ty.tr (RkW.pa2 tyv_rg)
theorem RkW.pal : ∀ (f i : Nat) (z : ZS), RkW N z (palM N f i z) := by
  intro f
  induction f with
  | zero => exact fun _ _ => RkW.rf
  | succ f ih =>
    intro i z
    rw [palM]
    split
    · exact (RkW.pa1.tr RkW.ac).tr (ih _ _)
    · exact RkW.pa1
theorem RkW.pa : RkW N z (paM N z) := by
  show RkW N z (xpM 1 (pa3M N (xpM 0 z)))
  refine RkW.tr (RkW.tr (RkW.xp (c := 0)) ?_) (RkW.xp (c := 1))
  unfold pa3M
  split
  · exact RkW.rf
  · exact RkW.pal _ _ _
/-- a method begins -/
theorem kv_me0 {ty : Int} (h : KvP N z) : KvI N (me0M ty z) := by
  obtain ⟨h1, h2, h3, h4, h5⟩ := h
  have em : mcW (me0M ty z) = mcW z + 1 := by
    show (((((zMs z.1).length + 1 : Nat)) : Int)) - 1 = ((zMs z.1).length : Int) - 1 + 1
    omega
  have vi : ∀ m q u, VisW N (me0M ty z) m q u ↔ VisW N z m q u := fun m q u => by
    unfold VisW
    rw [h2]
    exact Iff.rfl
  refine ⟨h1, ⟨List.Pairwise.nil, fun p hp => absurd hp List.not_mem_nil⟩, fun u hu a _ => ?_, fun u hu => ?_, ⟨fun x l a b => ⟨(h4.1 x l a b).1, lkw_cg (h4.1 x l a b).2 rfl (fun u _ => vi _ _ u)⟩, fun u hu => ?_⟩, ?_⟩
  · have := (h3 u hu).1.2
    rw [em] at a
    have a : (vrL (zVs z.1) u).2.2.2 = mcW z + 1 := a
    omega
  · have := h3 u hu
    rw [em]
    exact ⟨⟨this.1.1, by show (vrL (zVs z.1) u).2.2.2 ≤ _; omega⟩, this.2⟩
  · obtain ⟨y, y1, y2⟩ := h4.2 u hu
    exact ⟨y, y1, lkw_cg y2 rfl (fun v _ => vi _ _ v)⟩
  · rw [em]
    show (mdZ z.2.1 : Int) = ((zMs z.1).length : Int) - 1 + 1
    rw [h5]
    omega
theorem kvp_mv {s' : SpC} (h : KvP N z) (g : GpY z.1 s') (e2 : s'.2 = z.1.2) : KvP N (s', z.2) := by
  obtain ⟨h1, h2, h3, h4, h5⟩ := h
  have g2 := g.2 h1.2
  have ev : zVs s' = zVs z.1 := by unfold zVs; rw [e2]
  have em : zMs s' = zMs z.1 := by unfold zMs; rw [e2]
  have ez : zK s' = zK z.1 := by unfold zK; rw [e2]
  have ec : mcW (s', z.2) = mcW z := by
    show ((zMs s').length : Int) - 1 = _
    rw [em]
    rfl
  have en : vnW (s', z.2) = vnW z := by
    show (zVs s').length = _
    rw [ev]
    rfl
  have vi : ∀ m q u, VisW N (s', z.2) m q u ↔ VisW N z m q u := fun m q u => by
    unfold VisW
    show ((vrL (zVs s') u).2.2.2 = _ ∧ (vrL (zVs s') u).1 < _ ∧ _ ∧ N (vrL (zVs s') u).1 = _) ↔ _
    rw [ev]
    exact Iff.rfl
  refine ⟨⟨by show 0 ≤ zAt s'; omega, g2.2⟩, h2, fun u hu => ?_, ⟨fun x l a b => ?_, fun u hu => ?_⟩, ?_⟩
  · rw [en] at hu
    have := h3 u hu
    rw [ec]
    show ((vrL (zVs s') u).1 < zAt s' ∧ (vrL (zVs s') u).2.2.2 ≤ _) ∧ 0 ≤ (vrL (zVs s') u).1 ∧ zK s' (vrL (zVs s') u).1.toNat = 80 ∧ 0 ≤ (vrL (zVs s') u).2.1 ∧ (vrL (zVs s') u).2.1 ≤ 4
    rw [ev, ez]
    exact ⟨by omega, this.2⟩
  · obtain ⟨c, d⟩ := h4.1 x l a b
    exact ⟨⟨by show x.2.1.1 < zAt s'; omega, c.2.1, by show zK s' _ = 80; rw [ez]; exact c.2.2⟩, lkw_cg d en (fun u _ => vi _ _ u)⟩
  · rw [en] at hu
    obtain ⟨y, y1, y2⟩ := h4.2 u hu
    show ∃ w, (0 ≤ w ↔ clW z u = 1) ∧ LkW N (s', z.2) (vrL (zVs s') u).2.2.2 (vrL (zVs s') u).1 w
    rw [ev]
    exact ⟨y, y1, lkw_cg y2 en (fun v _ => vi _ _ v)⟩
  · show mdZ z.2.1 = (zMs s').length
    rw [em]
    exact h5
theorem kvp_me (h : zFt z.1 = 0 → KvP N z) : zFt (meM N z).1 = 0 → KvP N (meM N z) := by
  have mv : ∀ (w : ZS) (s' : SpC), (zFt w.1 = 0 → KvP N w) → GpY w.1 s' → s'.2 = w.1.2 → (zFt s' = 0 → KvP N (s', w.2)) := fun w s' hw g e f => kvp_mv (hw (g.z f)) g e
  have m1 : zFt (me1M z).1 = 0 → KvP N (me1M z) := by
    unfold me1M
    split
    · exact h
    · exact mv z _ h (gd_rai _) mv_rai.1
  have m2 : zFt (accM (me1M z)).1 = 0 → KvP N (accM (me1M z)) := mv _ _ m1 (gd_acc _) mv_acc.1
  have m3 : zFt (me2M (accM (me1M z))).1 = 0 → KvP N (me2M (accM (me1M z))) := by
    unfold me2M
    split
    · split
      · exact mv _ _ m2 (gd_rai _) mv_rai.1
      · exact m2
    · exact mv _ _ m2 (gd_rai _) mv_rai.1
  show zFt (me3M N (codY z.1 - 50) (me2M (accM (me1M z)))).1 = 0 → KvP N (me3M N (codY z.1 - 50) (me2M (accM (me1M z))))
  generalize codY z.1 - 50 = ty
  generalize me2M (accM (me1M z)) = w at m3
  unfold me3M
  split
  · rename_i c
    intro f
    have k0 := kv_me0 (ty := ty) (m3 c)
    have q0 : RkW N (me0M ty w) (paM N (accM (me0M ty w))) := RkW.ac.tr RkW.pa
    have r : RkR N (rwM N 20) := (RkW.ls (N := N) 20).2
    have q1 := RkW.bo (n := 21) (o := []) q0 r rfl
    have f : zFt (boM (rwM N 20) 21 [] (paM N (accM (me0M ty w)))).1 = 0 := f
    obtain ⟨⟨h1, h2, h3, h4, h5, h6⟩, seg, hs⟩ := q1.2 f k0
    have kn : knW (boM (rwM N 20) 21 [] (paM N (accM (me0M ty w)))) = [] := rfl
    refine ⟨h1, kn, h4, ⟨fun x l a b => ?_, fun u hu => ?_⟩, ?_⟩
    · rcases List.suffix_cons_iff.mp (show (Sum.inl x :: l) <:+ (Sum.inr _ :: (boM (rwM N 20) 21 [] (paM N (accM (me0M ty w)))).2.1) from a) with e | e
      · cases (List.cons.inj e).1
      · obtain ⟨c1, c2⟩ := h5.1 x l e b
        exact ⟨c1, lkw_cg c2 rfl (fun _ _ => Iff.rfl)⟩
    · obtain ⟨y, y1, y2⟩ := h5.2 u hu
      exact ⟨y, y1, lkw_cg y2 rfl (fun _ _ => Iff.rfl)⟩
    · show mdZ (.inr (54, _, 0, _, -1) :: (boM (rwM N 20) 21 [] (paM N (accM (me0M ty w)))).2.1) = (zMs (boM (rwM N 20) 21 [] (paM N (accM (me0M ty w)))).1).length
      rw [mdZ, if_pos rfl]
      unfold mcW at h6
      omega
  · exact m3
end
theorem kvp_pr {N : Int → Int} : ∀ (f : Nat) (z : ZS), (zFt z.1 = 0 → KvP N z) → zFt (prM N f z).1 = 0 → KvP N (prM N f z) := by
  intro f
  induction f with
  | zero => exact fun _ h => h
  | succ f ih =>
    intro z h
    rw [prM]
    split
    · split
      · exact h
      · exact ih _ (kvp_me h)
    · exact h
/-- in a program: what NAMES in exps mean as variables -/
theorem kv_all {N : Int → Int} {f : Nat} {s : SpC} (h : zFt (prM N f (z0S s)).1 = 0) (hs : Z0Y s) : KvP N (prM N f (z0S s)) := by
  refine kvp_pr f (z0S s) (fun _ => ?_) h
  obtain ⟨h1, h2, h3, h4⟩ := hs
  refine ⟨⟨by show 0 ≤ zAt s; omega, by show zAt s ≤ 500; omega⟩, rfl, fun u hu => ?_, ⟨fun x l a _ => ?_, fun u hu => ?_⟩, ?_⟩
  · have hu : u < (zVs s).length := hu
    rw [h4] at hu
    exact absurd hu (Nat.not_lt_zero _)
  · have a : (Sum.inl x :: l) <:+ ([] : List ItZ) := a
    exact absurd (List.eq_nil_of_suffix_nil a) (by intro q; cases q)
  · have hu : u < (zVs s).length := hu
    rw [h4] at hu
    exact absurd hu (Nat.not_lt_zero _)
  · show (0 : Nat) = (zMs s).length
    rw [h3]
    rfl

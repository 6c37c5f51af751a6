/-! what reading lays, S by S -/
/-- what a token's code is, how many methods there are: they stay -/
def KpY (s t : SpC) : Prop := LpY s t ∧ NpY s t ∧ GpY s t
theorem KpY.rf {s : SpC} : KpY s s := ⟨LpY.rf, NpY.rf, GpY.rf⟩
theorem KpY.tr {s t u : SpC} (h : KpY s t) (g : KpY t u) : KpY s u := ⟨h.1.tr g.1, h.2.1.tr g.2.1, h.2.2.tr g.2.2⟩
theorem KpY.k {s t : SpC} (h : KpY s t) : zK t = zK s := by
  unfold zK
  rw [h.2.1.1]
theorem kp_acc {s : SpC} : KpY s (accY s) := ⟨gl_acc s, gn_acc s, gd_acc s⟩
theorem kp_rai {c : Int} {s : SpC} : KpY s (raiY c s) := ⟨gl_rai s, gn_rai s, gd_rai s⟩
theorem kp_xp {c : Int} {s : SpC} : KpY s (xpY c s) := ⟨gl_xp s, gn_xp s, gd_xp s⟩
theorem kp_typ {s : SpC} : KpY s (typY s) := ⟨gl_typ s, gn_typ s, gd_typ s⟩
theorem kp_dcl {ty f h : Int} {s : SpC} : KpY s (dclY ty f h s) := ⟨gl_dcl s, gn_dcl s, gd_dcl s⟩
theorem kp_e {N : Int → Int} {n : Nat} {z : ZS} : KpY z.1 (eM N n z).1 := by rw [lf_e z]; exact ⟨gl_e _, gn_e _, gd_e _⟩
theorem kp_st {N : Int → Int} {n : Nat} {z : ZS} : KpY z.1 (stM N n z).1 := by rw [lf_st z]; exact ⟨gl_st _, gn_st _, gd_st _⟩
theorem kp_rw {N : Int → Int} {n : Nat} {sw : Int} {js : Nat} {z : ZS} : KpY z.1 (rwM N n sw js z).1.1 := by rw [lf_rw sw js z]; exact ⟨gl_rw _, gn_rw _, gd_rw _⟩
theorem e_b {N : Int → Int} {n : Nat} {z : ZS} (h : zFt (eM N n z).1 = 0) : zFt z.1 = 0 := gf_z lf_e gd_e h
theorem st_b {N : Int → Int} {n : Nat} {z : ZS} (h : zFt (stM N n z).1 = 0) : zFt z.1 = 0 := gf_z lf_st gd_st h
theorem rw_b {N : Int → Int} {n : Nat} {sw : Int} {js : Nat} {z : ZS} (h : zFt (rwM N n sw js z).1.1 = 0) : zFt z.1 = 0 := (gd_rw (n := n) (sw := sw) z.1).z (by rw [← lf_rw sw js z]; exact h)
/-- in the midst of S number snM z: its record, what is laid, the S around -/
def Pz (z : ZS) (x : SrZ) (p : Ps) (a : Int) (w : ZS) : Prop := (∀ i, i < snM z → reS w i = reS z i) ∧ reS w (snM z) = x ∧ psM w = p ∧ w.2.2.2.1.2 = a ∧ KpY z.1 w.1
def bR (k : Int) (n : Nat) (z : ZS) : SrZ := ((k, zAt z.1, lvN n, z.2.2.2.1.2), z.2.2.2.1.1, (-1, -1, -1, -1, -1, -1, (tnM z : Int)))
section
variable {z w : ZS} {x : SrZ} {p : Ps} {a : Int} {N : Int → Int} {n : Nat}
theorem Pz.be {k : Int} : Pz z (bR k n z) (snM z + 1, tnM z, z.2.1) z.2.2.2.1.2 (beM k (lvN n) z) := by
  refine ⟨fun i hi => ?_, ?_, rfl, rfl, KpY.rf⟩
  · show (if i = snM z then _ else z.2.2.1.2 i) = _
    rw [if_neg (by omega)]
    rfl
  · show (if snM z = z.2.2.1.1 then _ else _) = _
    exact if_pos rfl
theorem Pz.bg {k : Int} : Pz z (bR k n z) (snM z + 1, tnM z, cIy 20 0 0 (zAt z.1) :: z.2.1) z.2.2.2.1.2 (bgM k n z) := ⟨Pz.be.1, Pz.be.2.1, rfl, rfl, KpY.rf⟩
theorem Pz.bh {k : Int} : Pz z (bR k n z) (snM z + 1, tnM z + 1, cIy 20 0 0 (zAt z.1) :: z.2.1) z.2.2.2.1.2 (bgH k n z) := ⟨Pz.be.1, Pz.be.2.1, rfl, rfl, KpY.rf⟩
theorem Pz.ac (h : Pz z x p a w) : Pz z x p a (accM w) := ⟨h.1, h.2.1, h.2.2.1, h.2.2.2.1, h.2.2.2.2.tr kp_acc⟩
theorem Pz.xp {c : Int} (h : Pz z x p a w) : Pz z x p a (xpM c w) := ⟨h.1, h.2.1, h.2.2.1, h.2.2.2.1, h.2.2.2.2.tr kp_xp⟩
theorem Pz.ra {c : Int} (h : Pz z x p a w) : Pz z x p a (raiM c w) := ⟨h.1, h.2.1, h.2.2.1, h.2.2.2.1, h.2.2.2.2.tr kp_rai⟩
theorem Pz.ty (h : Pz z x p a w) : Pz z x p a (typM w) := ⟨h.1, h.2.1, h.2.2.1, h.2.2.2.1, h.2.2.2.2.tr kp_typ⟩
theorem Pz.dc {ty f g : Int} (h : Pz z x p a w) : Pz z x p a (dcM N ty f g w) := ⟨h.1, h.2.1, h.2.2.1, h.2.2.2.1, h.2.2.2.2.tr kp_dcl⟩
theorem Pz.ve {t : Int} {o : List (Int × Int)} (h : Pz z x p a w) : Pz z x p a (veM t o w) := h
theorem Pz.ar {i : Int} (h : Pz z x p a w) : Pz z x p i (arM i w) := ⟨h.1, h.2.1, h.2.2.1, rfl, h.2.2.2.2⟩
theorem Pz.un (h : Pz z x p a w) : Pz z x p x.1.2.2.2 (unM (snM z) w) := ⟨h.1, h.2.1, h.2.2.1, by show (reS w (snM z)).1.2.2.2 = _; rw [h.2.1], h.2.2.2.2⟩
theorem Pz.fi (h : Pz z x p a w) : fiS w (snM z) = x.1.2.1 := by unfold fiS; rw [h.2.1]
theorem Pz.l (h : Pz z x p a w) : w.2.1 = p.2.2 := congrArg (fun q : Ps => q.2.2) h.2.2.1
theorem Pz.sn (h : Pz z x p a w) : snM w = p.1 := congrArg (fun q : Ps => q.1) h.2.2.1
theorem Pz.tn (h : Pz z x p a w) : tnM w = p.2.1 := congrArg (fun q : Ps => q.2.1) h.2.2.1
theorem Pz.it {y : ItZ} (h : Pz z x p a w) : Pz z x (p.1, p.2.1, y :: p.2.2) a (w.1, y :: w.2.1, w.2.2) := ⟨h.1, h.2.1, by
  have e := h.2.2.1
  rw [← e]
  rfl, h.2.2.2.1, h.2.2.2.2⟩
theorem Pz.co {o b c t : Int} (h : Pz z x p a w) : Pz z x (p.1, p.2.1, cIy o b c t :: p.2.2) a (coM o b c t w) := h.it
theorem Pz.cx {o b c t : Int} (h : Pz z x p a w) : Pz z x (p.1, p.2.1, cEy o b c t p.2.2 :: p.2.2) a (cxM o b c t w) := by
  rw [← h.l]
  exact ⟨h.1, h.2.1, by rw [← h.sn, ← h.tn]; rfl, h.2.2.2.1, h.2.2.2.2⟩
theorem Pz.se {f : SrZ → SrZ} (h : Pz z x p a w) : Pz z (f x) p a (seM (snM z) f w) := by
  refine ⟨fun i hi => ?_, ?_, h.2.2.1, h.2.2.2.1, h.2.2.2.2⟩
  · show (if i = snM z then f (w.2.2.1.2 (snM z)) else w.2.2.1.2 i) = _
    rw [if_neg (by omega)]
    exact h.1 i hi
  · show (if snM z = snM z then f (w.2.2.1.2 (snM z)) else w.2.2.1.2 (snM z)) = _
    rw [if_pos rfl, ← h.2.1]
    rfl
/-- another S's record -/
theorem Pz.so {j : Nat} {f : SrZ → SrZ} (h : Pz z x p a w) (q : snM z < j) : Pz z x p a (seM j f w) := by
  refine ⟨fun i hi => ?_, ?_, h.2.2.1, h.2.2.2.1, h.2.2.2.2⟩
  · show (if i = j then f (w.2.2.1.2 j) else w.2.2.1.2 i) = _
    rw [if_neg (by omega)]
    exact h.1 i hi
  · show (if snM z = j then f (w.2.2.1.2 j) else w.2.2.1.2 (snM z)) = _
    rw [if_neg (by omega)]
    exact h.2.1
theorem Pz.en {c : Nat} (h : Pz z x p a w) : Pz z x (p.1, p.2.1, cIy 45 c 0 x.1.2.1 :: p.2.2) a (enM (snM z) c w) := by
  show Pz z x _ a (coM 45 c 0 (fiS w (snM z)) w)
  rw [h.fi]
  exact h.co
theorem Pz.ee (h : Pz z x p a w) (hf : zFt (eM N n w).1 = 0) : ∃ m r, ExX (lvN n) p.2.2 m r ∧ Pz z x (p.1, p.2.1, m) a (eM N n w) := by
  obtain ⟨r, hr⟩ := ex_lay hf
  have k := (ks_lv (N := N) n).1 w
  rw [h.l] at hr
  refine ⟨_, r, hr, fun i hi => ?_, ?_, ?_, ?_, h.2.2.2.2.tr kp_e⟩
  · rw [← h.1 i hi]
    unfold reS
    rw [k]
  · rw [← h.2.1]
    unfold reS
    rw [k]
  · rw [← h.sn, ← h.tn]
    unfold psM snM tnM
    rw [k]
  · rw [k]
    exact h.2.2.2.1
theorem Pz.ex (h : Pz z x p a w) (hf : zFt (exS N (snM z) n w).1 = 0) : ∃ m r, ExX (lvN n) p.2.2 m r ∧ Pz z (sEx ((xcZ m : Int) - 1) x) (p.1, p.2.1, m) a (exS N (snM z) n w) := by
  obtain ⟨m, r, h1, h2⟩ := h.ee (N := N) (n := n) hf
  refine ⟨m, r, h1, ?_⟩
  have q := h2.se (f := sEx ((xnM (eM N n w) : Int) - 1))
  have e : xnM (eM N n w) = xcZ m := by unfold xnM; rw [h2.l]
  rw [e] at q
  show Pz z _ _ a (seM (snM z) (sEx ((xnM (eM N n w) : Int) - 1)) (eM N n w))
  rw [e]
  exact q
theorem Pz.cd (h : Pz z x p a w) (hf : zFt (cdM N (snM z) n w).1 = 0) : ∃ m r, ExX (lvN n) p.2.2 m r ∧ Pz z (sEx ((xcZ m : Int) - 1) x) (p.1, p.2.1, m) a (cdM N (snM z) n w) := by
  obtain ⟨m, r, h1, h2⟩ := (h.xp (c := 0)).ex (N := N) (n := n) (xp_b hf)
  exact ⟨m, r, h1, h2.xp⟩
theorem Pz.po {r : XrZ} {m l : List ItZ} (h : Pz z x p a w) (e : p.2.2 = .inl r :: l) : Pz z x (p.1, p.2.1, cEy 21 (acZ r) 0 r.1.2.2.1 p.2.2 :: p.2.2) a (poM w) := by
  have q : rtM w = r := by unfold rtM; rw [h.l, e]
  unfold poM
  rw [q]
  exact h.cx
end
/-- Z is all that was read: what stood when z was read -/
def Cq (Z : ZS) (M : Int) (z : ZS) : Prop := (((zMs z.1).length : Int) - 1 = M ∧ zK Z.1 = zK z.1 ∧ 0 ≤ zAt z.1 ∧ zAt z.1 ≤ 500) ∧ z.2.2.2.1.2 < (snM z : Int) ∧ (∀ i, i < snM Z → paS Z i < (i : Int)) ∧ snM z ≤ snM Z ∧ ∀ i, i < snM z → (reS Z i).1 = (reS z i).1 ∧ thS Z i = thS z i ∧ (kjS z i = 6 → ljS Z i = ljS z i)
/-- Z's S's from j on are those of z, but for j's next -/
def AgN (Z z : ZS) (j : Nat) : Prop := snM z ≤ snM Z ∧ ((reS Z j).1 = (reS z j).1 ∧ (reS Z j).2.1 = (reS z j).2.1 ∧ (reS Z j).2.2.2 = (reS z j).2.2.2) ∧ ∀ i, j < i → i < snM z → reS Z i = reS z i
def AgF (Z z : ZS) (j : Nat) : Prop := snM z ≤ snM Z ∧ ∀ i, j ≤ i → i < snM z → reS Z i = reS z i
theorem AgF.n {Z z : ZS} {j : Nat} (h : AgF Z z j) (q : j < snM z) : AgN Z z j := ⟨h.1, by rw [h.2 j (Nat.le_refl _) q]; exact ⟨rfl, rfl, rfl⟩, fun i a b => h.2 i (by omega) b⟩
/-- from w on only j changes -/
def FwJ (j : Nat) (w z : ZS) : Prop := snM w ≤ snM z ∧ ∀ i, i < snM w → ¬ i = j → reS z i = reS w i
theorem Gu.fw {w z : ZS} {j m : Nat} {k0 js : Int} (h : Gu w (snM w) j k0 js m z) : FwJ j w z := ⟨h.2.2.1, h.2.2.2⟩
theorem AgN.f {Z z' w : ZS} {j i : Nat} (h : AgN Z z' j) (f : FwJ j w z') (q : j < i) : AgF Z w i := ⟨Nat.le_trans f.1 h.1, fun k a b => by rw [h.2.2 k (by omega) (by have := f.1; omega), f.2 k b (by omega)]⟩
theorem Cq.mid {Z z w z' : ZS} {M : Int} {x y : SrZ} {p q : Ps} {a b : Int} (C : Cq Z M z) (P : Pz z x p a w) (P' : Pz z y q b z') (ag : AgN Z z' (snM z)) (f : FwJ (snM z) w z') (ha : a < (p.1 : Int)) (hx : x.1 = y.1 ∧ x.2.2.2.2.2.2.2.2 = y.2.2.2.2.2.2.2.2) (hl : x.1.1 = 6 → x.2.2.2.2.2.2.2.1 = y.2.2.2.2.2.2.2.1) : Cq Z M w := by
  obtain ⟨⟨c1, c2, c7, c8⟩, c3, c4, c5, c6⟩ := C
  have gp := P.2.2.2.2.2.2.2 c8
  refine ⟨⟨by rw [P.2.2.2.2.1.1]; exact c1, by rw [P.2.2.2.2.k]; exact c2, Int.le_trans c7 gp.1, gp.2⟩, by rw [P.2.2.2.1, P.sn]; exact ha, c4, Nat.le_trans f.1 ag.1, fun i hi => ?_⟩
  by_cases e : i = snM z
  · subst e
    have u0 : thS Z (snM z) = thS z' (snM z) := congrArg (fun v : Int × Int × Int × Int × Int × Int => v.2.2.2.2.2) ag.2.1.2.2
    rw [ag.2.1.1, u0]
    unfold thS
    rw [P'.2.1, P.2.1]
    refine ⟨hx.1.symm, hx.2.symm, fun k => ?_⟩
    have k : x.1.1 = 6 := by rw [← P.2.1]; exact k
    have u : ljS Z (snM z) = ljS z' (snM z) := congrArg (fun v : Int × Int × Int × Int × Int × Int => v.2.2.2.2.1) ag.2.1.2.2
    rw [u]
    unfold ljS
    rw [P'.2.1, P.2.1]
    exact (hl k).symm
  · by_cases g : i < snM z
    · have r := P.1 i g
      unfold kjS ljS thS
      rw [r]
      exact c6 i g
    · have r : reS Z i = reS w i := by rw [ag.2.2 i (by omega) (by have := f.1; omega), f.2 i hi e]
      unfold ljS thS
      rw [r]
      exact ⟨rfl, rfl, fun _ => rfl⟩
/-- what is shown of an S that was read -/
def SdQ (N : Int → Int) (n : Nat) (z z' : ZS) : Prop := snM z < snM z' ∧ njS z' (snM z) = -1 ∧ z'.2.2.2.1.2 = z.2.2.2.1.2 ∧ ∀ (Z : ZS) (M : Int), Cq Z M z → AgN Z z' (snM z) → StD N M Z n z.2.2.2.1.2 (psM z) (psM z')
def SdR (N : Int → Int) (n : Nat) (sw : Int) (js : Nat) (z : ZS) (r : ZS × Int) : Prop := ∃ L : List Nat, r.2 = hdI L ∧ r.1.2.2.2.1.2 = z.2.2.2.1.2 ∧ (∀ j L', L = j :: L' → j = snM z ∧ j < snM r.1 ∧ (sw = 1 → kjS r.1 j = 62 ∨ kjS r.1 j = 63)) ∧ ∀ (Z : ZS) (M : Int), Cq Z M z → AgF Z r.1 (snM z) → RwD (StD N M Z n) Z (lvN n) sw js z.2.2.2.1.2 L (psM z) (psM r.1)
abbrev SdS (N : Int → Int) (n : Nat) : Prop := ∀ z, zFt (stM N n z).1 = 0 → SdQ N n z (stM N n z)
abbrev SdW (N : Int → Int) (n : Nat) : Prop := ∀ sw js z, zFt (rwM N n sw js z).1.1 = 0 → SdR N n sw js z (rwM N n sw js z)
theorem pg_gu {z z' : ZS} {e : Nat} {js : Int} (h : Gu z (snM z) e (tnM z) js (tnM z) z') : PgD js (psM z) (psM z') := ⟨h.2.2.1, h.2.1.1, h.1⟩
/-- the end of it all, for an S -/
theorem SdQ.mk {N : Int → Int} {n : Nat} {z z' : ZS} {x : SrZ} {q : Ps} {e m : Nat} (P : Pz z x (q.1, q.2.1, cIy 45 z.2.1.length 0 (zAt z.1) :: q.2.2) z.2.2.2.1.2 z') (hq : snM z < q.1) (hx : x.2.2.1 = -1) (g : Gu z (snM z) e (tnM z) (-1) m z') (hm : tnM z ≤ m)
    (hI : ∀ (Z : ZS) (M : Int), Cq Z M z → AgN Z z' (snM z) → ReD Z (snM z) x.1 x.2.2.2 → InD N M (StD N M Z n) (RwD (StD N M Z n) Z (lvN n)) Z (lvN (n + 1)) z.2.2.2.1.2 (snM z) (tnM z) (zAt z.1) (cIy 20 0 0 (zAt z.1) :: z.2.1) q) : SdQ N (n + 1) z z' := by
  refine ⟨by rw [P.sn]; exact hq, by unfold njS; rw [P.2.1]; exact hx, P.2.2.2.1, fun Z M C ag => ⟨zAt z.1, q, pg_gu (g.mo hm), ⟨by rw [P.2.2.1]; exact hq, C.1.2.2⟩, hI Z M C ag ⟨ag.2.1.1.trans (by rw [P.2.1]), ag.2.1.2.2.trans (by rw [P.2.1])⟩, ?_⟩⟩
  rw [P.2.2.1]
  rfl

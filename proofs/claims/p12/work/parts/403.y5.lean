/-! what reading lays: one S of each kind -/
theorem FwJ.tr {j : Nat} {w x z : ZS} (h : FwJ j w x) (g : FwJ j x z) : FwJ j w z := ⟨Nat.le_trans h.1 g.1, fun i a b => by rw [g.2 i (by have := h.1; omega) b, h.2 i a b]⟩
theorem fw_st {N : Int → Int} {n j : Nat} {w : ZS} : FwJ j w (stM N n w) := (gv_st w (snM w) j (tnM w) (-1) (tnM w) w Gu.rf).fw
theorem fw_rw {N : Int → Int} {n j js : Nat} {sw : Int} {w : ZS} : FwJ j w (rwM N n sw js w).1 := (gv_rw sw js w (snM w) j (tnM w) js (tnM w) w Gu.rf (fun _ => Or.inr rfl)).fw
section
variable {z w : ZS} {x : SrZ} {p : Ps} {a : Int} {N : Int → Int} {n : Nat}
theorem Pz.st (h : Pz z x p a w) (hp : snM z < p.1) (hf : zFt (stM N n w).1 = 0) (s : SdS N n) : Pz z x (psM (stM N n w)) a (stM N n w) := by
  have f := (fw_st (N := N) (n := n) (j := snM w) (w := w)).2
  have e := h.sn
  refine ⟨fun i hi => ?_, ?_, rfl, ?_, h.2.2.2.2.tr kp_st⟩
  · rw [f i (by omega) (by omega)]
    exact h.1 i hi
  · rw [f _ (by omega) (by omega)]
    exact h.2.1
  · rw [(s w hf).2.2.1]
    exact h.2.2.2.1
theorem Pz.rw (h : Pz z x p a w) {sw : Int} {js : Nat} (hp : snM z < p.1) (hf : zFt (rwM N n sw js w).1.1 = 0) (s : SdW N n) : Pz z x (psM (rwM N n sw js w).1) a (rwM N n sw js w).1 := by
  have f := (fw_rw (N := N) (n := n) (j := snM w) (w := w) (sw := sw) (js := js)).2
  have e := h.sn
  obtain ⟨L, _, ha, _⟩ := s sw js w hf
  refine ⟨fun i hi => ?_, ?_, rfl, ?_, h.2.2.2.2.tr kp_rw⟩
  · rw [f i (by omega) (by omega)]
    exact h.1 i hi
  · rw [f _ (by omega) (by omega)]
    exact h.2.1
  · rw [ha]
    exact h.2.2.2.1
/-- an S inside -/
theorem Pz.sd {z' : ZS} {y : SrZ} {q : Ps} {b : Int} {Z : ZS} {M : Int} (P : Pz z x p a w) (hp : snM z < p.1) (hf : zFt (stM N n w).1 = 0) (s : SdS N n) (C : Cq Z M z) (P' : Pz z y q b z') (ag : AgN Z z' (snM z)) (F : FwJ (snM z) (stM N n w) z') (ha : a < (p.1 : Int)) (hx : x.1 = y.1 ∧ x.2.2.2.2.2.2.2.2 = y.2.2.2.2.2.2.2.2) (hl : x.1.1 = 6 → x.2.2.2.2.2.2.2.1 = y.2.2.2.2.2.2.2.1) : StD N M Z n a p (psM (stM N n w)) := by
  have e := P.sn
  have r := (s w hf).2.2.2 Z M (C.mid P P' ag (fw_st.tr F) ha hx hl) ((ag.f F (by omega)).n (s w hf).1)
  rw [P.2.2.2.1, P.2.2.1] at r
  exact r
/-- a row inside -/
theorem Pz.rd {z' : ZS} {y : SrZ} {q : Ps} {b : Int} (P : Pz z x p a w) {sw : Int} {js : Nat} (hp : snM z < p.1) (hf : zFt (rwM N n sw js w).1.1 = 0) (s : SdW N n) (P' : Pz z y q b z') (F : FwJ (snM z) (rwM N n sw js w).1 z') (ha : a < (p.1 : Int)) (hx : x.1 = y.1 ∧ x.2.2.2.2.2.2.2.2 = y.2.2.2.2.2.2.2.2) (hl : x.1.1 = 6 → x.2.2.2.2.2.2.2.1 = y.2.2.2.2.2.2.2.1) : ∃ L, (rwM N n sw js w).2 = hdI L ∧ ∀ (Z : ZS) (M : Int), Cq Z M z → AgN Z z' (snM z) → RwD (StD N M Z n) Z (lvN n) sw js a L p (psM (rwM N n sw js w).1) ∧ ∀ i L', L = i :: L' → sw = 1 → kjS Z i = 62 ∨ kjS Z i = 63 := by
  have e := P.sn
  obtain ⟨L, e1, e2, e3, e4⟩ := s sw js w hf
  refine ⟨L, e1, fun Z M C ag => ?_⟩
  have af := ag.f F (i := snM w) (by omega)
  have r := e4 Z M (C.mid P P' ag (fw_rw.tr F) ha hx hl) af
  rw [P.2.2.2.1, P.2.2.1] at r
  refine ⟨r, fun i L' hL h1 => ?_⟩
  obtain ⟨g1, g2, g3⟩ := e3 i L' hL
  unfold kjS
  rw [af.2 i (by omega) g2]
  exact g3 h1
end
theorem lv_ar {z : ZS} {p : Ps} (h : snM z < p.1) : ((snM z : Nat) : Int) < (p.1 : Int) := by omega
section
variable {z : ZS} {N : Int → Int} {n : Nat}
theorem sd_xs (h : zFt (xsM N (n + 1) z).1 = 0) : SdQ N (n + 1) z (xsM N (n + 1) z) := by
  obtain ⟨m, r, hx, P⟩ := (Pz.bg (z := z) (n := n + 1) (k := 90)).ex (N := N) (n := n + 1) (xp_b h)
  obtain ⟨m1, e, _⟩ := id hx
  have P2 := ((P.po (m := m) e).xp (c := 4)).en (c := cnM z)
  exact SdQ.mk (q := (snM z + 1, tnM z, cEy 21 (acZ r) 0 r.1.2.2.1 m :: m)) P2 (Nat.lt_succ_self _) rfl ((Gu.rf (e := 0)).xs) (Nat.le_refl _) (fun Z M C ag R => inXs ⟨m, r, hx, R, rfl⟩)
theorem sd_em : SdQ N (n + 1) z (emM (n + 1) z) := by
  have P2 := (Pz.bg (z := z) (n := n + 1) (k := 4)).ac.en (c := cnM z)
  exact SdQ.mk (q := (snM z + 1, tnM z, cIy 20 0 0 (zAt z.1) :: z.2.1)) P2 (Nat.lt_succ_self _) rfl ((Gu.rf (e := 0)).em) (Nat.le_refl _) (fun Z M C ag R => inEm ⟨R, rfl⟩)
theorem Pz.va {w : ZS} {p : Ps} {a nx th : Int} {h : Int × Int × Int × Int} {kn : List (Int × Int)} (P : Pz z (h, kn, (nx, -1, -1, -1, -1, -1, th)) p a w) (hl : h.2.2.1 = lvN n) (hf : zFt (vaM N (snM z) n w).1 = 0) : ∃ m y, Pz z y (p.1, p.2.1, m) a (vaM N (snM z) n w) ∧ (y.1 = h ∧ y.2.1 = kn ∧ y.2.2.1 = nx) ∧ ∀ Z, ReD Z (snM z) y.1 y.2.2.2 → VaD Z (snM z) h th p.2.2 m := by
  have key : ∀ (f ty : Int) (w : ZS), Pz z (h, kn, (nx, -1, -1, -1, -1, -1, th)) p a w → zFt (va1M N (snM z) n f ty w).1 = 0 → ∃ m y, Pz z y (p.1, p.2.1, m) a (va1M N (snM z) n f ty w) ∧ (y.1 = h ∧ y.2.1 = kn ∧ y.2.2.1 = nx) ∧ ∀ Z, ReD Z (snM z) y.1 y.2.2.2 → VaD Z (snM z) h th p.2.2 m := by
    intro f ty w P hf
    have P1 := (P.dc (N := N) (ty := ty) (f := f) (g := 1)).se (f := sLk ((zVs w.1).length : Int))
    unfold va1M at hf ⊢
    have b : zFt (dclY ty f 1 w.1) = 0 := by
      unfold va2M at hf
      split at hf
      · exact xp_b (e_b hf)
      · exact hf
    have v6 := (dcl_nz b).1.2.2
    unfold va2M at hf ⊢
    split at hf
    · rename_i c
      rw [if_pos c]
      have P2 := (P1.co (o := 22) (b := ((zVs w.1).length : Int)) (c := 2) (t := zAt w.1)).xp (c := 8)
      obtain ⟨m, r, hx, P3⟩ := P2.ex (N := N) (n := n) hf
      have eX : xnM (exS N (snM z) n (xpM 8 (coM 22 ((zVs w.1).length : Int) 2 (zAt w.1) (seM (snM z) (sLk ((zVs w.1).length : Int)) (dcM N ty f 1 w))))) = xcZ m := by unfold xnM; rw [P3.l]
      dsimp only
      generalize exS N (snM z) n (xpM 8 (coM 22 ((zVs w.1).length : Int) 2 (zAt w.1) (seM (snM z) (sLk ((zVs w.1).length : Int)) (dcM N ty f 1 w)))) = w3 at P3 eX ⊢
      refine ⟨_, _, P3.it, ⟨rfl, rfl, rfl⟩, fun Z R => ⟨((zVs w.1).length : Int), zAt w.1, ⟨by omega, by omega⟩, Or.inr ⟨m, r, _, hl ▸ hx, R, ⟨rfl, rfl, ?_⟩, rfl⟩⟩⟩
      show ((xnM w3 : Nat) : Int) - 1 = _
      rw [eX]
    · rename_i c
      rw [if_neg c]
      exact ⟨_, _, P1.co, ⟨rfl, rfl, rfl⟩, fun Z R => ⟨((zVs w.1).length : Int), zAt w.1, ⟨by omega, by omega⟩, Or.inl ⟨R, rfl⟩⟩⟩
  unfold vaM at hf ⊢
  split at hf
  · rename_i c
    rw [if_pos c]
    exact key _ _ _ P.ac.ty hf
  · rename_i c
    rw [if_neg c]
    exact key _ _ _ P.ty hf
theorem sd_to (h : zFt (toM N (n + 1) z).1 = 0) : SdQ N (n + 1) z (toM N (n + 1) z) := by
  obtain ⟨m, y, P, ⟨y1, y2, y3⟩, hv⟩ := Pz.va (N := N) (n := n + 1) (Pz.bg (z := z) (n := n + 1) (k := 91)) rfl (xp_b h)
  have P2 := (P.xp (c := 4)).en (c := cnM z)
  rw [show y.1.2.1 = zAt z.1 by rw [y1]] at P2
  exact SdQ.mk (q := (snM z + 1, tnM z, m)) P2 (Nat.lt_succ_self _) y3 ((Gu.rf (e := 0)).to) (Nat.le_refl _) (fun Z M C ag R => inTo ⟨m, hv Z R, rfl⟩)
theorem Pz.cof {w : ZS} {x : SrZ} {p : Ps} {a o b c f t : Int} (h : Pz z x p a w) (e : f = t) : Pz z x (p.1, p.2.1, cIy o b c t :: p.2.2) a (coM o b c f w) := e ▸ h.co
theorem Pz.cxf {w : ZS} {x : SrZ} {p : Ps} {a o b c f t : Int} (h : Pz z x p a w) (e : f = t) : Pz z x (p.1, p.2.1, cEy o b c t p.2.2 :: p.2.2) a (cxM o b c f w) := e ▸ h.cx
theorem lt_s1 : ((snM z : Nat) : Int) < ((snM z + 1 : Nat) : Int) := by omega
theorem sd_la (s : SdS N n) (h : zFt (laM (n + 1) (stM N n) z).1 = 0) : SdQ N (n + 1) z (laM (n + 1) (stM N n) z) := by
  have h1 : zFt (stM N n (laB (n + 1) z)).1 = 0 := h
  have P0 : Pz z (sLk (zAt z.1) (bR 6 (n + 1) z)) (snM z + 1, tnM z + 1, cIy 41 (tnM z) 0 (zAt z.1) :: cIy 20 0 0 (zAt z.1) :: z.2.1) (snM z) (laB (n + 1) z) := ((((Pz.bh (k := 6)).co).se).ac.xp).ar
  have P1 := P0.st (Nat.lt_succ_self _) h1 s
  have e0 := (s _ h1).1
  have F : FwJ (snM z) (stM N n (laB (n + 1) z)) (laM (n + 1) (stM N n) z) := ((((Gu.rf (z := stM N n (laB (n + 1) z)) (e := snM z) (js := tnM z)).bd (j := snM z) (k := snM z + 1) (Or.inr rfl)).ck (o := 42) (by decide) (Or.inr rfl)).en).fw
  have P3 := (((P1.se (f := sBd ((snM z + 1 : Nat) : Int))).un).cof (o := 42) (b := tnM z) (c := 0) P1.fi).en (c := cnM z)
  have e1 : snM z < snM (stM N n (laB (n + 1) z)) := Nat.lt_of_lt_of_le (Nat.lt_succ_self _) (Nat.le_of_lt e0)
  exact SdQ.mk (z' := laM (n + 1) (stM N n) z) (q := (snM (stM N n (laB (n + 1) z)), tnM (stM N n (laB (n + 1) z)), cIy 42 (tnM z) 0 (zAt z.1) :: (stM N n (laB (n + 1) z)).2.1)) P3 e1 rfl ((Gu.rf (e := 0)).la gv_st) (Nat.le_refl _) (fun Z M C ag R => inLa ⟨_, P0.sd (Nat.lt_succ_self _) h1 s C P3 ag F lt_s1 ⟨rfl, rfl⟩ (fun _ => rfl), R, rfl⟩)
theorem sd_wh (s : SdS N n) (h : zFt (whM N (n + 1) (stM N n) z).1 = 0) : SdQ N (n + 1) z (whM N (n + 1) (stM N n) z) := by
  have h1 : zFt (stM N n (whB N (n + 1) z)).1 = 0 := h
  obtain ⟨m, r, hx, Q⟩ := (((Pz.bh (z := z) (n := n + 1) (k := 58)).co (o := 26) (b := tnM z) (c := 0) (t := zAt z.1)).ac).cd (N := N) (n := n + 1) (show zFt (whB N (n + 1) z).1 = 0 from st_b h1)
  have P0 : Pz z _ _ _ (whB N (n + 1) z) := (Q.cx (o := 27) (b := tnM z) (c := 0) (t := zAt z.1)).ar (i := snM z)
  have P1 := P0.st (Nat.lt_succ_self _) h1 s
  have e0 := (s _ h1).1
  have eS : snM (whB N (n + 1) z) = snM z + 1 := P0.sn
  have F : FwJ (snM z) (stM N n (whB N (n + 1) z)) (whM N (n + 1) (stM N n) z) := ((((Gu.rf (z := stM N n (whB N (n + 1) z)) (e := snM z) (js := tnM z)).bd (j := snM z) (k := snM z + 1) (Or.inr rfl)).ck (o := 28) (by decide) (Or.inr rfl)).en).fw
  have P3 := (((P1.se (f := sBd ((snM z + 1 : Nat) : Int))).un).cof (o := 28) (b := tnM z) (c := 0) P1.fi).en (c := cnM z)
  exact SdQ.mk (z' := whM N (n + 1) (stM N n) z) (q := (snM (stM N n (whB N (n + 1) z)), tnM (stM N n (whB N (n + 1) z)), cIy 28 (tnM z) 0 (zAt z.1) :: (stM N n (whB N (n + 1) z)).2.1)) P3 (by show snM z < snM (stM N n (whB N (n + 1) z)); omega) rfl ((Gu.rf (e := 0)).wh gv_st) (Nat.le_refl _) (fun Z M C ag R => inWh ⟨m, r, _, hx, P0.sd (Nat.lt_succ_self _) h1 s C P3 ag F lt_s1 ⟨rfl, rfl⟩ (fun _ => rfl), R, rfl⟩)
theorem sd_do (s : SdS N n) (h : zFt (doM N (n + 1) (stM N n) z).1 = 0) : SdQ N (n + 1) z (doM N (n + 1) (stM N n) z) := by
  have h0 : zFt (cdM N (snM z) (n + 1) (coM 30 (tnM z) 0 (fiS (stM N n (doB (n + 1) z)) (snM z)) (xpM 58 (bdM (snM z) (snM z + 1) (stM N n (doB (n + 1) z)))))).1 = 0 := xp_b h
  have h1 : zFt (stM N n (doB (n + 1) z)).1 = 0 := xp_b (xp_b (e_b (xp_b h0)))
  have P0 : Pz z (bR 59 (n + 1) z) (snM z + 1, tnM z + 1, cIy 29 (tnM z) 0 (zAt z.1) :: cIy 20 0 0 (zAt z.1) :: z.2.1) (snM z) (doB (n + 1) z) := (((Pz.bh (k := 59)).co).ac).ar
  have P1 := P0.st (Nat.lt_succ_self _) h1 s
  have e0 := (s _ h1).1
  have eS : snM (doB (n + 1) z) = snM z + 1 := P0.sn
  obtain ⟨m, r, hx, P2⟩ := ((((P1.se (f := sBd ((snM z + 1 : Nat) : Int))).un).xp (c := 58)).cof (o := 30) (b := tnM z) (c := 0) P1.fi).cd (N := N) (n := n + 1) h0
  have P2' := P2.xp (c := 4)
  have P3 := (P2'.cxf (o := 31) (b := tnM z) (c := 0) P2'.fi).en (c := cnM z)
  have F : FwJ (snM z) (stM N n (doB (n + 1) z)) (doM N (n + 1) (stM N n) z) := (((((((Gu.rf (z := stM N n (doB (n + 1) z)) (e := snM z) (js := tnM z)).bd (j := snM z) (k := snM z + 1) (Or.inr rfl)).xp (c := 58)).ck (o := 30) (by decide) (Or.inr rfl)).cd (N := N) (n := n + 1) (j := snM z) (Or.inr rfl)).xp (c := 4)).xk (o := 31) (by decide) (Or.inr rfl)).en.fw
  exact SdQ.mk (z' := doM N (n + 1) (stM N n) z) (q := (snM (stM N n (doB (n + 1) z)), tnM (stM N n (doB (n + 1) z)), cEy 31 (tnM z) 0 (zAt z.1) m :: m)) P3 (by show snM z < snM (stM N n (doB (n + 1) z)); omega) rfl ((Gu.rf (e := 0)).do gv_st) (Nat.le_refl _) (fun Z M C ag R => inDo ⟨m, r, _, P0.sd (Nat.lt_succ_self _) h1 s C P3 ag F lt_s1 ⟨rfl, rfl⟩ (fun _ => rfl), hx, R, rfl⟩)
theorem sd_if (s : SdS N n) (h : zFt (ifM N (n + 1) (stM N n) z).1 = 0) : SdQ N (n + 1) z (ifM N (n + 1) (stM N n) z) := by
  have hh : zFt (if2M (stM N n) (snM z) (tnM z) (cnM z) (bdM (snM z) (snM z + 1) (stM N n (ifB N (n + 1) z)))).1 = 0 := h
  have h1 : zFt (stM N n (ifB N (n + 1) z)).1 = 0 := by
    unfold if2M at hh
    split at hh
    · exact (acc_n (st_b hh)).2.1
    · exact hh
  obtain ⟨m, r, hx, Q⟩ := ((Pz.bh (z := z) (n := n + 1) (k := 56)).ac).cd (N := N) (n := n + 1) (show zFt (ifB N (n + 1) z).1 = 0 from st_b h1)
  have P0 : Pz z _ _ _ (ifB N (n + 1) z) := (Q.cx (o := 23) (b := tnM z) (c := 0) (t := zAt z.1)).ar (i := snM z)
  have P1 := P0.st (Nat.lt_succ_self _) h1 s
  have e0 := (s _ h1).1
  have eS : snM (ifB N (n + 1) z) = snM z + 1 := P0.sn
  have P2 := (P1.se (f := sBd ((snM z + 1 : Nat) : Int))).un
  have G : Gu z (snM z) 0 (tnM z) (-1) (tnM z) (ifM N (n + 1) (stM N n) z) := (Gu.rf (e := 0)).if gv_st
  have F : FwJ (snM z) (stM N n (ifB N (n + 1) z)) (ifM N (n + 1) (stM N n) z) := (((Gu.rf (z := stM N n (ifB N (n + 1) z)) (e := snM z) (js := tnM z)).bd (j := snM z) (k := snM z + 1) (Or.inr rfl)).if2 gv_st (Or.inr rfl) (Or.inr rfl)).fw
  have eI : ifM N (n + 1) (stM N n) z = if2M (stM N n) (snM z) (tnM z) (cnM z) (bdM (snM z) (snM z + 1) (stM N n (ifB N (n + 1) z))) := rfl
  unfold if2M at hh eI
  split at hh
  · rename_i c
    rw [if_pos c] at eI
    have P4 := ((P2.co (o := 24) (b := tnM z) (c := 0) (t := zAt (bdM (snM z) (snM z + 1) (stM N n (ifB N (n + 1) z))).1)).ac).ar (i := snM z)
    have lt1 : snM z < snM (stM N n (ifB N (n + 1) z)) := by omega
    have P5 := P4.st (N := N) (n := n) lt1 hh s
    have e5 := (s _ hh).1
    have P6 := (P5.se (f := sOt ((snM (stM N n (ifB N (n + 1) z)) : Nat) : Int))).un
    have P7 := (P6.cof (o := 25) (b := tnM z) (c := 0) P6.fi).en (c := cnM z)
    have F2 : FwJ (snM z) (stM N n (arM (snM z) (accM (coM 24 (tnM z) 0 (zAt (bdM (snM z) (snM z + 1) (stM N n (ifB N (n + 1) z))).1) (bdM (snM z) (snM z + 1) (stM N n (ifB N (n + 1) z))))))) (ifM N (n + 1) (stM N n) z) := by
      rw [eI]
      exact (((Gu.se (j := snM z) (f := sOt ((snM (stM N n (ifB N (n + 1) z)) : Nat) : Int)) (Gu.rf (e := snM z) (js := tnM z)) (Or.inr rfl)).un.ck (o := 25) (by decide) (Or.inr rfl)).en).fw
    rw [eI] at F F2 G ⊢
    refine SdQ.mk P7 (q := (snM (stM N n (arM (snM z) (accM (coM 24 (tnM z) 0 (zAt (bdM (snM z) (snM z + 1) (stM N n (ifB N (n + 1) z))).1) (bdM (snM z) (snM z + 1) (stM N n (ifB N (n + 1) z))))))), tnM (stM N n (arM (snM z) (accM (coM 24 (tnM z) 0 (zAt (bdM (snM z) (snM z + 1) (stM N n (ifB N (n + 1) z))).1) (bdM (snM z) (snM z + 1) (stM N n (ifB N (n + 1) z))))))), cIy 25 (tnM z) 0 (zAt z.1) :: (stM N n (arM (snM z) (accM (coM 24 (tnM z) 0 (zAt (bdM (snM z) (snM z + 1) (stM N n (ifB N (n + 1) z))).1) (bdM (snM z) (snM z + 1) (stM N n (ifB N (n + 1) z))))))).2.1)) (Nat.lt_trans lt1 e5) rfl G (Nat.le_refl _) (fun Z M C ag R => inIf ⟨m, r, _, hx, P0.sd (Nat.lt_succ_self _) h1 s C P7 ag F lt_s1 ⟨rfl, rfl⟩ (fun _ => rfl), Or.inr ⟨_, _, P4.sd lt1 hh s C P7 ag F2 (by show ((snM z : Nat) : Int) < ((snM (stM N n (ifB N (n + 1) z)) : Nat) : Int); omega) ⟨rfl, rfl⟩ (fun _ => rfl), R, rfl⟩⟩)
  · rename_i c
    rw [if_neg c] at eI
    have P7 := (P2.cof (o := 25) (b := tnM z) (c := 0) P2.fi).en (c := cnM z)
    rw [eI] at F G ⊢
    exact SdQ.mk P7 (q := (snM (stM N n (ifB N (n + 1) z)), tnM (stM N n (ifB N (n + 1) z)), cIy 25 (tnM z) 0 (zAt z.1) :: (stM N n (ifB N (n + 1) z)).2.1)) (by show snM z < snM (stM N n (ifB N (n + 1) z)); omega) rfl G (Nat.le_refl _) (fun Z M C ag R => inIf ⟨m, r, _, hx, P0.sd (Nat.lt_succ_self _) h1 s C P7 ag F lt_s1 ⟨rfl, rfl⟩ (fun _ => rfl), Or.inl ⟨R, rfl⟩⟩)
end

/-! what reading lays: blocks, switch, try, for, jumps -/
theorem Pz.ne {z w u : ZS} {x y : SrZ} {p q : Ps} {a b : Int} (P : Pz z x p a w) (Q : Pz w y q b u) (hp : snM z < p.1) : Pz z x q b u := by
  have e := P.sn
  exact ⟨fun i hi => (Q.1 i (by omega)).trans (P.1 i hi), (Q.1 _ (by omega)).trans P.2.1, Q.2.2.1, Q.2.2.2.1, P.2.2.2.2.tr Q.2.2.2.2⟩
theorem fw_pz {z w u : ZS} {x y : SrZ} {q : Ps} {b : Int} (Q : Pz w y q b u) (hq : snM w ≤ q.1) {j : Nat} : FwJ j w u := ⟨by rw [Q.sn]; exact hq, fun i hi _ => Q.1 i hi⟩
/-- Z has the record of another S that was begun at w -/
theorem ag_re {Z z' w u : ZS} {j : Nat} {y : SrZ} {q : Ps} {b : Int} (ag : AgN Z z' j) (Q : Pz w y q b u) (F : FwJ j u z') (hj : j < snM w) (hq : snM w < q.1) : reS Z (snM w) = y := by
  have e := Q.sn
  rw [(ag.f F hj).2 _ (Nat.le_refl _) (by omega), Q.2.1]
section
variable {z : ZS} {N : Int → Int} {n : Nat}
theorem sd_bl (s : SdW N n) (h : zFt (blM (rwM N n) (n + 1) z).1 = 0) : SdQ N (n + 1) z (blM (rwM N n) (n + 1) z) := by
  have P0 : Pz z (bR 2 (n + 1) z) (snM z + 1, tnM z + 1, cIy 20 0 0 (zAt z.1) :: z.2.1) (snM z) (xpM 2 (arM (snM z) (bgH 2 (n + 1) z))) := ((Pz.bh (k := 2)).ar).xp
  have h1 : zFt (rwM N n 0 0 (xpM 2 (arM (snM z) (bgH 2 (n + 1) z)))).1.1 = 0 := xp_b h
  have P1 := P0.rw (Nat.lt_succ_self _) h1 s
  have P3 := (((P1.se (f := sBd (rwM N n 0 0 (xpM 2 (arM (snM z) (bgH 2 (n + 1) z)))).2)).un).ve (t := zAt (rwM N n 0 0 (xpM 2 (arM (snM z) (bgH 2 (n + 1) z)))).1.1) (o := z.2.2.2.1.1)).xp (c := 3) |>.en (c := cnM z)
  have F : FwJ (snM z) (rwM N n 0 0 (xpM 2 (arM (snM z) (bgH 2 (n + 1) z)))).1 (blM (rwM N n) (n + 1) z) := (((((Gu.rf (z := (rwM N n 0 0 (xpM 2 (arM (snM z) (bgH 2 (n + 1) z)))).1) (e := snM z) (js := -1)).se (j := snM z) (f := sBd (rwM N n 0 0 (xpM 2 (arM (snM z) (bgH 2 (n + 1) z)))).2) (Or.inr rfl)).un).ve.xp).en).fw
  obtain ⟨L, eL, hL⟩ := P0.rd (z' := blM (rwM N n) (n + 1) z) (Nat.lt_succ_self _) h1 s P3 F lt_s1 ⟨rfl, rfl⟩ (fun _ => rfl)
  have F0 := (fw_rw (N := N) (n := n) (sw := 0) (js := 0) (j := 0) (w := xpM 2 (arM (snM z) (bgH 2 (n + 1) z)))).1
  have e1 : snM (xpM 2 (arM (snM z) (bgH 2 (n + 1) z))) = snM z + 1 := rfl
  refine SdQ.mk (z' := blM (rwM N n) (n + 1) z) (q := (snM (rwM N n 0 0 (xpM 2 (arM (snM z) (bgH 2 (n + 1) z)))).1, tnM (rwM N n 0 0 (xpM 2 (arM (snM z) (bgH 2 (n + 1) z)))).1, (rwM N n 0 0 (xpM 2 (arM (snM z) (bgH 2 (n + 1) z)))).1.2.1)) P3 (by show snM z < snM (rwM N n 0 0 (xpM 2 (arM (snM z) (bgH 2 (n + 1) z)))).1; omega) rfl ((Gu.rf (e := 0)).bl gv_rw) (Nat.le_refl _) (fun Z M C ag R => inBl ⟨L, (hL Z M C ag).1, ?_⟩)
  rw [← eL]
  exact R
theorem sd_sw (s : SdW N n) (h : zFt (swM N (n + 1) (rwM N n) z).1 = 0) : SdQ N (n + 1) z (swM N (n + 1) (rwM N n) z) := by
  have h1 : zFt (rwM N n 1 (tnM z) (swB N (n + 1) z)).1.1 = 0 := xp_b h
  obtain ⟨m, r, hx, Q⟩ := ((Pz.bh (z := z) (n := n + 1) (k := 61)).ac).cd (N := N) (n := n + 1) (xp_b (rw_b h1))
  have P0 : Pz z _ _ _ (swB N (n + 1) z) := ((Q.cx (o := 37) (b := tnM z) (c := 0) (t := zAt z.1)).ar (i := snM z)).xp (c := 2)
  have P1 := P0.rw (Nat.lt_succ_self _) h1 s
  have P2 := (((P1.se (f := sBd (rwM N n 1 (tnM z) (swB N (n + 1) z)).2)).un).ve (t := zAt (rwM N n 1 (tnM z) (swB N (n + 1) z)).1.1) (o := knS (rwM N n 1 (tnM z) (swB N (n + 1) z)).1 (snM z))).xp (c := 3)
  have P3 := (P2.cof (o := 40) (b := tnM z) (c := 0) P2.fi).en (c := cnM z)
  have F : FwJ (snM z) (rwM N n 1 (tnM z) (swB N (n + 1) z)).1 (swM N (n + 1) (rwM N n) z) := ((((((Gu.rf (z := (rwM N n 1 (tnM z) (swB N (n + 1) z)).1) (e := snM z) (js := tnM z)).se (j := snM z) (f := sBd (rwM N n 1 (tnM z) (swB N (n + 1) z)).2) (Or.inr rfl)).un).ve.xp).ck (o := 40) (by decide) (Or.inr rfl)).en).fw
  obtain ⟨L, eL, hL⟩ := P0.rd (z' := swM N (n + 1) (rwM N n) z) (Nat.lt_succ_self _) h1 s P3 F lt_s1 ⟨rfl, rfl⟩ (fun _ => rfl)
  have F0 := (fw_rw (N := N) (n := n) (sw := 1) (js := tnM z) (j := 0) (w := swB N (n + 1) z)).1
  have e1 : snM (swB N (n + 1) z) = snM z + 1 := P0.sn
  refine SdQ.mk (z' := swM N (n + 1) (rwM N n) z) (q := (snM (rwM N n 1 (tnM z) (swB N (n + 1) z)).1, tnM (rwM N n 1 (tnM z) (swB N (n + 1) z)).1, cIy 40 (tnM z) 0 (zAt z.1) :: (rwM N n 1 (tnM z) (swB N (n + 1) z)).1.2.1)) P3 (by show snM z < snM (rwM N n 1 (tnM z) (swB N (n + 1) z)).1; omega) rfl ((Gu.rf (e := 0)).sw gv_rw) (Nat.le_refl _) (fun Z M C ag R => inSw ⟨m, r, L, _, hx, (hL Z M C ag).1, fun i L' hi => (hL Z M C ag).2 i L' hi rfl, ?_, rfl⟩)
  rw [← eL]
  exact R
/-- a block that is no S of its own -/
def SbQ (N : Int → Int) (n : Nat) (z z' : ZS) : Prop := (∃ x q, Pz z x q z.2.2.2.1.2 z' ∧ snM z < q.1) ∧ ∀ (Z : ZS) (M : Int), Cq Z M z → AgN Z z' (snM z) → BkD (RwD (StD N M Z n) Z (lvN n)) Z (lvN (n + 1)) z.2.2.2.1.2 (psM z) (psM z')
theorem sb_bo {out : List (Int × Int)} (s : SdW N n) (h : zFt (boM (rwM N n) (n + 1) out z).1 = 0) : SbQ N n z (boM (rwM N n) (n + 1) out z) := by
  have P0 : Pz z (bR 92 (n + 1) z) (snM z + 1, tnM z, z.2.1) (snM z) (xpM 2 (arM (snM z) (beM 92 (lvN (n + 1)) z))) := ((Pz.be (k := 92)).ar).xp
  have h1 : zFt (rwM N n 0 0 (xpM 2 (arM (snM z) (beM 92 (lvN (n + 1)) z)))).1.1 = 0 := xp_b h
  have P1 := P0.rw (Nat.lt_succ_self _) h1 s
  have P3 := (((P1.se (f := sBd (rwM N n 0 0 (xpM 2 (arM (snM z) (beM 92 (lvN (n + 1)) z)))).2)).un).ve (t := zAt (rwM N n 0 0 (xpM 2 (arM (snM z) (beM 92 (lvN (n + 1)) z)))).1.1) (o := out)).xp (c := 3)
  have F : FwJ (snM z) (rwM N n 0 0 (xpM 2 (arM (snM z) (beM 92 (lvN (n + 1)) z)))).1 (boM (rwM N n) (n + 1) out z) := ((((Gu.rf (z := (rwM N n 0 0 (xpM 2 (arM (snM z) (beM 92 (lvN (n + 1)) z)))).1) (e := snM z) (js := -1)).se (j := snM z) (f := sBd (rwM N n 0 0 (xpM 2 (arM (snM z) (beM 92 (lvN (n + 1)) z)))).2) (Or.inr rfl)).un).ve.xp).fw
  obtain ⟨L, eL, hL⟩ := P0.rd (z' := boM (rwM N n) (n + 1) out z) (Nat.lt_succ_self _) h1 s P3 F lt_s1 ⟨rfl, rfl⟩ (fun _ => rfl)
  have F0 := (fw_rw (N := N) (n := n) (sw := 0) (js := 0) (j := 0) (w := xpM 2 (arM (snM z) (beM 92 (lvN (n + 1)) z)))).1
  have e1 : snM (xpM 2 (arM (snM z) (beM 92 (lvN (n + 1)) z))) = snM z + 1 := rfl
  refine ⟨⟨_, _, P3, by show snM z < snM (rwM N n 0 0 (xpM 2 (arM (snM z) (beM 92 (lvN (n + 1)) z)))).1; omega⟩, fun Z M C ag => ⟨L, zAt z.1, ?_, ?_⟩⟩
  · have r := (hL Z M C ag).1
    have e : psM (boM (rwM N n) (n + 1) out z) = psM (rwM N n 0 0 (xpM 2 (arM (snM z) (beM 92 (lvN (n + 1)) z)))).1 := P3.2.2.1
    rw [e]
    exact r
  · rw [← eL]
    exact ⟨ag.2.1.1.trans (congrArg (fun v : SrZ => v.1) P3.2.1), ag.2.1.2.2.trans (congrArg (fun v : SrZ => v.2.2.2) P3.2.1)⟩
theorem bo_b {out : List (Int × Int)} {m : Nat} (h : zFt (boM (rwM N n) m out z).1 = 0) : zFt z.1 = 0 := xp_b (rw_b (xp_b h))
/-- such a block inside -/
theorem Pz.bk {w z' : ZS} {x y : SrZ} {p q : Ps} {a b : Int} {out : List (Int × Int)} {Z : ZS} {M : Int} (P : Pz z x p a w) (hp : snM z < p.1) (hf : zFt (boM (rwM N n) (n + 1) out w).1 = 0) (s : SdW N n) (C : Cq Z M z) (P' : Pz z y q b z') (ag : AgN Z z' (snM z)) (F : FwJ (snM z) (boM (rwM N n) (n + 1) out w) z') (ha : a < (p.1 : Int)) (hx : x.1 = y.1 ∧ x.2.2.2.2.2.2.2.2 = y.2.2.2.2.2.2.2.2) (hl : x.1.1 = 6 → x.2.2.2.2.2.2.2.1 = y.2.2.2.2.2.2.2.1) : BkD (RwD (StD N M Z n) Z (lvN n)) Z (lvN (n + 1)) a p (psM (boM (rwM N n) (n + 1) out w)) := by
  have e := P.sn
  obtain ⟨⟨x1, q1, Q, hq⟩, hB⟩ := sb_bo s hf
  have r := hB Z M (C.mid P P' ag ((fw_pz (z := z) (x := x) Q (Nat.le_of_lt hq)).tr F) ha hx hl) ((ag.f F (by omega)).n (by rw [Q.sn]; exact hq))
  rw [P.2.2.2.1, P.2.2.1] at r
  exact r
theorem Pz.bo {w : ZS} {x : SrZ} {p : Ps} {a : Int} {out : List (Int × Int)} (P : Pz z x p a w) (hp : snM z < p.1) (hf : zFt (boM (rwM N n) (n + 1) out w).1 = 0) (s : SdW N n) : Pz z x (psM (boM (rwM N n) (n + 1) out w)) a (boM (rwM N n) (n + 1) out w) ∧ p.1 < snM (boM (rwM N n) (n + 1) out w) := by
  have e := P.sn
  obtain ⟨⟨x1, q1, Q, hq⟩, hB⟩ := sb_bo s hf
  have r := P.ne Q hp
  rw [P.2.2.2.1] at r
  exact ⟨⟨r.1, r.2.1, rfl, r.2.2.2.1, r.2.2.2.2⟩, by rw [Q.sn]; omega⟩
end

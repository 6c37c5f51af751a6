/-! what reading lays: try, for, jumps, return, throw -/
theorem fw_se {w : ZS} {j : Nat} {f : SrZ → SrZ} : FwJ j w (seM j f w) := ⟨Nat.le_refl _, fun i _ q => if_neg q⟩
theorem tr1_no {z : ZS} (h : zFt (tr1M z).1 = 0) : tr1M z = z ∧ (codY z.1 = 69 ∨ codY z.1 = 70) := by
  unfold tr1M at h ⊢
  split at h
  · rename_i c
    rw [if_pos c]
    exact ⟨rfl, c⟩
  · exact absurd h (raiY_z (by decide))
theorem vs_xa {c : Int} {s : SpC} (h : zFt (xpY c (accY s)) = 0) : zVs (xpY c (accY s)) = zVs s := by
  have a := xp_b h
  have e := (xp_nz h).2
  rw [e] at h
  rw [e, (acc_n h).2.2]
  show zVs (accY s) = _
  rw [(acc_n a).2.2]
  rfl
section
variable {z : ZS} {N : Int → Int} {n : Nat}
theorem tr2_q (s : SdW N n) {w : ZS} {p : Ps} {k : Nat} {h : Int × Int × Int × Int} {kn : List (Int × Int)} {nx b g th : Int} (P : Pz z (h, kn, (nx, b, -1, g, -1, -1, th)) p (snM z) w) (hp : snM z < p.1) (hf : zFt (tr2M N (rwM N n) (snM z) k (n + 1) w).1 = 0) (h6 : ¬ h.1 = 6) :
    ∃ (q2 : Ps) (o v : Int), Pz z (h, kn, (nx, b, o, g, -1, v, th)) q2 (snM z) (tr2M N (rwM N n) (snM z) k (n + 1) w) ∧ p.1 ≤ q2.1 ∧ (codY w.1 = 69 → 0 ≤ o) ∧ ∀ (Z : ZS) (M : Int) (z' : ZS) (y : SrZ) (q : Ps) (c : Int), Cq Z M z → Pz z y q c z' → AgN Z z' (snM z) → FwJ (snM z) (tr2M N (rwM N n) (snM z) k (n + 1) w) z' → (h = y.1 ∧ th = y.2.2.2.2.2.2.2.2) →
      ((o = -1 ∧ v = -1 ∧ q2 = p) ∨ (o = p.1 ∧ (0 ≤ v ∧ v < 60) ∧ ∃ t2, BkD (RwD (StD N M Z n) Z (lvN n)) Z (lvN (n + 1)) (snM z) (p.1, p.2.1, .inr (51, (k : Int), 0, t2, -2 - v) :: p.2.2) q2)) := by
  unfold tr2M at hf ⊢
  split at hf
  · rename_i c69
    rw [if_pos c69]
    dsimp only at hf ⊢
    have hf : zFt (boM (rwM N n) (n + 1) (knS w (snM z)) (xpM 1 (seM (snM z) (sLk ((zVs (xpM 0 (accM (caM k w))).1).length : Int)) (dcM N 3 0 1 (xpM 0 (accM (caM k w))))))).1 = 0 := hf
    have b1 : zFt (dclY 3 0 1 (xpM 0 (accM (caM k w))).1) = 0 := xp_b (bo_b hf)
    have b2 := dcl_nz b1
    have ev : zVs (xpM 0 (accM (caM k w))).1 = zVs w.1 := vs_xa (s := w.1) b2.2.1
    have Pc : Pz z (h, kn, (nx, b, -1, g, -1, -1, th)) (p.1, p.2.1, .inr (51, (k : Int), 0, zAt w.1, -2 - ((zVs w.1).length : Int)) :: p.2.2) (snM z) (caM k w) := P.it
    have P1 := ((((Pc.ac.xp (c := 0)).dc (N := N) (ty := 3) (f := 0) (g := 1)).se (f := sLk ((zVs (xpM 0 (accM (caM k w))).1).length : Int))).xp (c := 1))
    have v6 := b2.1.2.2
    rw [ev] at P1 hf v6 ⊢
    generalize xpM 1 (seM (snM z) (sLk ((zVs w.1).length : Int)) (dcM N 3 0 1 (xpM 0 (accM (caM k w))))) = w3 at P1 hf ⊢
    have hp3 : snM z < p.1 := hp
    obtain ⟨P2, lt⟩ := P1.bo hp3 hf s
    have e3 : snM w3 = p.1 := P1.sn
    rw [e3]
    refine ⟨_, ((p.1 : Nat) : Int), ((zVs w.1).length : Int), P2.se (f := sOt ((p.1 : Nat) : Int)), Nat.le_of_lt lt, fun _ => Int.natCast_nonneg _, fun Z M z' y q c C P' ag F hy => Or.inr ⟨rfl, ⟨Int.natCast_nonneg _, by omega⟩, zAt w.1, ?_⟩⟩
    exact P1.bk hp3 hf s C P' ag (fw_se.tr F) (lv_ar (z := z) (p := p) hp3) hy (fun q => absurd q h6)
  · rename_i c69
    rw [if_neg c69]
    exact ⟨p, -1, -1, P, Nat.le_refl _, fun q => absurd q c69, fun _ _ _ _ _ _ _ _ _ _ _ => Or.inl ⟨rfl, rfl, rfl⟩⟩
theorem tr3_q (s : SdW N n) {w : ZS} {p : Ps} {k : Nat} {h : Int × Int × Int × Int} {kn : List (Int × Int)} {nx b o v th : Int} (P : Pz z (h, kn, (nx, b, o, -1, -1, v, th)) p (snM z) w) (hp : snM z < p.1) (hf : zFt (tr3M (rwM N n) (snM z) k (n + 1) w).1 = 0) (h6 : ¬ h.1 = 6) :
    ∃ (q3 : Ps) (g : Int), Pz z (h, kn, (nx, b, o, g, -1, v, th)) q3 (snM z) (tr3M (rwM N n) (snM z) k (n + 1) w) ∧ p.1 ≤ q3.1 ∧ (codY w.1 = 70 → 0 ≤ g) ∧ ∀ (Z : ZS) (M : Int) (z' : ZS) (y : SrZ) (q : Ps) (c : Int), Cq Z M z → Pz z y q c z' → AgN Z z' (snM z) → FwJ (snM z) (tr3M (rwM N n) (snM z) k (n + 1) w) z' → (h = y.1 ∧ th = y.2.2.2.2.2.2.2.2) →
      ((g = -1 ∧ q3 = p) ∨ (g = p.1 ∧ ∃ t3, BkD (RwD (StD N M Z n) Z (lvN n)) Z (lvN (n + 1)) (snM z) (p.1, p.2.1, cIy 52 k 0 t3 :: p.2.2) q3)) := by
  unfold tr3M at hf ⊢
  split at hf
  · rename_i c70
    rw [if_pos c70]
    dsimp only at hf ⊢
    have hf : zFt (boM (rwM N n) (n + 1) (knS w (snM z)) (accM (coM 52 k 0 (zAt w.1) w))).1 = 0 := hf
    have P1 := (P.co (o := 52) (b := k) (c := 0) (t := zAt w.1)).ac
    generalize accM (coM 52 k 0 (zAt w.1) w) = w3 at P1 hf ⊢
    have hp3 : snM z < p.1 := hp
    obtain ⟨P2, lt⟩ := P1.bo hp3 hf s
    have e3 : snM w3 = p.1 := P1.sn
    rw [e3]
    refine ⟨_, ((p.1 : Nat) : Int), P2.se (f := sLs ((p.1 : Nat) : Int)), Nat.le_of_lt lt, fun _ => Int.natCast_nonneg _, fun Z M z' y q c C P' ag F hy => Or.inr ⟨rfl, zAt w.1, ?_⟩⟩
    exact P1.bk hp3 hf s C P' ag (fw_se.tr F) (lv_ar (z := z) (p := p) hp3) hy (fun q => absurd q h6)
  · rename_i c70
    rw [if_neg c70]
    exact ⟨p, -1, P, Nat.le_refl _, fun q => absurd q c70, fun _ _ _ _ _ _ _ _ _ _ _ => Or.inl ⟨rfl, rfl⟩⟩
theorem tr2_b {w : ZS} {j k m : Nat} (h : zFt (tr2M N (rwM N n) j k m w).1 = 0) : zFt w.1 = 0 := by
  unfold tr2M at h
  split at h
  · exact (acc_n (xp_b (dcl_nz (xp_b (bo_b (N := N) (n := n) (m := m) h))).2.1)).2.1
  · exact h
theorem tr3_b {w : ZS} {j k m : Nat} (h : zFt (tr3M (rwM N n) j k m w).1 = 0) : zFt w.1 = 0 := by
  unfold tr3M at h
  split at h
  · exact (acc_n (bo_b (N := N) (n := n) (m := m) h)).2.1
  · exact h
theorem sd_tr (s : SdW N n) (h : zFt (trM N (n + 1) (rwM N n) z).1 = 0) : SdQ N (n + 1) z (trM N (n + 1) (rwM N n) z) := by
  have h3 : zFt (tr3M (rwM N n) (snM z) (tnM z) (n + 1) (tr2M N (rwM N n) (snM z) (tnM z) (n + 1) (tr1M (seM (snM z) (sBd (snM z + 1)) (boM (rwM N n) (n + 1) z.2.2.2.1.1 (trB (n + 1) z)))))).1 = 0 := h
  have h2 := tr3_b h3
  have h1 := tr2_b h2
  obtain ⟨e1, c67⟩ := tr1_no h1
  have G : Gu z (snM z) 0 (tnM z) (-1) (tnM z) (trM N (n + 1) (rwM N n) z) := (Gu.rf (e := 0)).tr gv_rw
  have eT : trM N (n + 1) (rwM N n) z = trE (snM z) (tnM z) (cnM z) (tr3M (rwM N n) (snM z) (tnM z) (n + 1) (tr2M N (rwM N n) (snM z) (tnM z) (n + 1) (tr1M (seM (snM z) (sBd (snM z + 1)) (boM (rwM N n) (n + 1) z.2.2.2.1.1 (trB (n + 1) z)))))) := rfl
  rw [e1] at h1 h2 h3 eT
  rw [eT] at G ⊢
  have h0 : zFt (boM (rwM N n) (n + 1) z.2.2.2.1.1 (trB (n + 1) z)).1 = 0 := h1
  have P0 : Pz z (bR 68 (n + 1) z) (snM z + 1, tnM z + 1, cIy 50 (tnM z) 0 (zAt z.1) :: cIy 20 0 0 (zAt z.1) :: z.2.1) (snM z) (trB (n + 1) z) := (((Pz.bh (k := 68)).ac).co).ar
  obtain ⟨P1, lt1⟩ := P0.bo (N := N) (n := n) (out := z.2.2.2.1.1) (Nat.lt_succ_self _) h0 s
  have lt1 : snM z + 1 < snM (boM (rwM N n) (n + 1) z.2.2.2.1.1 (trB (n + 1) z)) := lt1
  have P2 := P1.se (f := sBd ((snM z : Int) + 1))
  have F1 : FwJ (snM z) (boM (rwM N n) (n + 1) z.2.2.2.1.1 (trB (n + 1) z)) (seM (snM z) (sBd ((snM z : Int) + 1)) (boM (rwM N n) (n + 1) z.2.2.2.1.1 (trB (n + 1) z))) := fw_se
  generalize hw1 : seM (snM z) (sBd ((snM z : Int) + 1)) (boM (rwM N n) (n + 1) z.2.2.2.1.1 (trB (n + 1) z)) = w1 at h1 h2 h3 G P2 F1 c67 ⊢
  obtain ⟨q2, o, v, P3, le2, c2, H2⟩ := tr2_q s (k := tnM z) P2 (by show snM z < snM _; omega) h2 (by show ¬ (68 : Int) = 6; decide)
  have le2 : snM (boM (rwM N n) (n + 1) z.2.2.2.1.1 (trB (n + 1) z)) ≤ q2.1 := le2
  have F2 : FwJ (snM z) w1 (tr2M N (rwM N n) (snM z) (tnM z) (n + 1) w1) := ((Gu.rf (z := w1) (e := snM z) (js := tnM z)).tr2 gv_rw (Or.inr rfl) (Or.inr rfl)).fw
  have ec : codY (tr2M N (rwM N n) (snM z) (tnM z) (n + 1) w1).1 = 70 ∨ codY w1.1 = 69 := by
    rcases c67 with c | c
    · exact Or.inr c
    · left
      unfold tr2M
      rw [if_neg (by omega)]
      exact c
  generalize tr2M N (rwM N n) (snM z) (tnM z) (n + 1) w1 = w2 at h2 h3 G P3 H2 F2 ec ⊢
  obtain ⟨q3, g, P4, le3, c3, H3⟩ := tr3_q s (k := tnM z) P3 (by omega) h3 (by show ¬ (68 : Int) = 6; decide)
  have F3 : FwJ (snM z) w2 (tr3M (rwM N n) (snM z) (tnM z) (n + 1) w2) := ((Gu.rf (z := w2) (e := snM z) (js := tnM z)).tr3 gv_rw (Or.inr rfl) (Or.inr rfl)).fw
  generalize tr3M (rwM N n) (snM z) (tnM z) (n + 1) w2 = w3 at h3 G P4 H3 F3 ⊢
  have P5 := (P4.un.cof (o := 53) (b := tnM z) (c := 0) P4.fi).en (c := cnM z)
  have F4 : FwJ (snM z) w3 (trE (snM z) (tnM z) (cnM z) w3) := (((Gu.rf (z := w3) (e := snM z) (js := tnM z)).un.ck (o := 53) (by decide) (Or.inr rfl)).en).fw
  refine SdQ.mk (q := (q3.1, q3.2.1, cIy 53 (tnM z) 0 (zAt z.1) :: q3.2.2)) P5 (by show snM z < q3.1; omega) rfl G (Nat.le_refl _) (fun Z M C ag R => inTy ⟨_, q2, q3, o, g, v, P0.bk (Nat.lt_succ_self _) h0 s C P5 ag (F1.tr (F2.tr (F3.tr F4))) lt_s1 ⟨rfl, rfl⟩ (fun q => absurd (show (68 : Int) = 6 from q) (by decide)), ?_, ?_, ?_, R, rfl⟩)
  · exact H2 Z M _ _ _ _ C P5 ag (F3.tr F4) ⟨rfl, rfl⟩
  · exact H3 Z M _ _ _ _ C P5 ag F4 ⟨rfl, rfl⟩
  · exact ec.elim (fun c => Or.inr (c3 c)) (fun c => Or.inl (c2 c))
end

/-! what reading lays: return, throw; rows; all S's -/
section
variable {z : ZS} {N : Int → Int} {n : Nat}
theorem sd_g6 (h : zFt (giM N 66 (n + 1) z).1 = 0) : SdQ N (n + 1) z (giM N 66 (n + 1) z) := by
  have P0 := (Pz.bg (z := z) (n := n + 1) (k := 66)).ac
  have G : Gu z (snM z) 0 (tnM z) (-1) (tnM z) (giM N 66 (n + 1) z) := (Gu.rf (e := 0)).gi (Or.inl rfl)
  by_cases c : codY (accY z.1) = 4
  · rw [gi_6e c] at h G ⊢
    have P3 := (((P0.se (f := sLk (((zMs (accM (bgM 66 (n + 1) z)).1).length : Int) - 1))).co (o := 48) (b := 0) (c := -2) (t := zAt z.1)).xp (c := 4)).en (c := cnM z)
    refine SdQ.mk (q := (snM z + 1, tnM z, cIy 48 0 (-2) (zAt z.1) :: cIy 20 0 0 (zAt z.1) :: z.2.1)) P3 (Nat.lt_succ_self _) rfl G (Nat.le_refl _) (fun Z M C ag R => inGi (Or.inl ⟨?_, rfl⟩))
    have e : ((zMs (accM (bgM 66 (n + 1) z)).1).length : Int) - 1 = M := by rw [P0.2.2.2.2.1.1]; exact C.1.1
    rw [← e]
    exact R
  · rw [gi_6x c] at h G ⊢
    obtain ⟨m, r, hx, Q⟩ := P0.ex (N := N) (n := n + 1) (xp_b h)
    have eC : cnM (exS N (snM z) (n + 1) (accM (bgM 66 (n + 1) z))) = m.length := by unfold cnM; rw [Q.l]
    have P3 := (((Q.se (f := sLk (((zMs (exS N (snM z) (n + 1) (accM (bgM 66 (n + 1) z))).1).length : Int) - 1))).cx (o := 48) (b := 1) (c := (cnM (exS N (snM z) (n + 1) (accM (bgM 66 (n + 1) z))) : Int) - 1) (t := zAt z.1)).xp (c := 4)).en (c := cnM z)
    have eM : ∀ M : Int, ((zMs z.1).length : Int) - 1 = M → ((zMs (exS N (snM z) (n + 1) (accM (bgM 66 (n + 1) z))).1).length : Int) - 1 = M := fun M hM => by rw [Q.2.2.2.2.1.1]; exact hM
    refine SdQ.mk (q := (snM z + 1, tnM z, cEy 48 1 ((cnM (exS N (snM z) (n + 1) (accM (bgM 66 (n + 1) z))) : Int) - 1) (zAt z.1) m :: m)) P3 (Nat.lt_succ_self _) rfl G (Nat.le_refl _) (fun Z M C ag R => inGi (Or.inr ⟨m, r, hx, Or.inl ⟨?_, ?_⟩⟩))
    · rw [← eM M C.1.1]
      exact R
    · rw [eC]
theorem gi_7x : giM N 67 (n + 1) z = enM (snM z) (cnM z) (xpM 4 (cxM 49 1 ((cnM (exS N (snM z) (n + 1) (accM (bgM 67 (n + 1) z))) : Int) - 1) (zAt z.1) (exS N (snM z) (n + 1) (accM (bgM 67 (n + 1) z))))) := by
  unfold giM
  dsimp only
  rw [if_pos (Or.inl rfl), if_neg (by decide)]
  rfl
theorem sd_g7 (h : zFt (giM N 67 (n + 1) z).1 = 0) : SdQ N (n + 1) z (giM N 67 (n + 1) z) := by
  have P0 := (Pz.bg (z := z) (n := n + 1) (k := 67)).ac
  have G : Gu z (snM z) 0 (tnM z) (-1) (tnM z) (giM N 67 (n + 1) z) := (Gu.rf (e := 0)).gi (Or.inr rfl)
  rw [gi_7x] at h G ⊢
  obtain ⟨m, r, hx, Q⟩ := P0.ex (N := N) (n := n + 1) (xp_b h)
  have eC : cnM (exS N (snM z) (n + 1) (accM (bgM 67 (n + 1) z))) = m.length := by unfold cnM; rw [Q.l]
  have P3 := ((Q.cx (o := 49) (b := 1) (c := (cnM (exS N (snM z) (n + 1) (accM (bgM 67 (n + 1) z))) : Int) - 1) (t := zAt z.1)).xp (c := 4)).en (c := cnM z)
  refine SdQ.mk (q := (snM z + 1, tnM z, cEy 49 1 ((cnM (exS N (snM z) (n + 1) (accM (bgM 67 (n + 1) z))) : Int) - 1) (zAt z.1) m :: m)) P3 (Nat.lt_succ_self _) rfl G (Nat.le_refl _) (fun Z M C ag R => inGi (Or.inr ⟨m, r, hx, Or.inr ⟨R, ?_⟩⟩))
  rw [eC]
/-- an S -/
theorem sd_sm (s : SdS N n) (w : SdW N n) : SdS N (n + 1) := by
  intro z h
  have e : stM N (n + 1) z = smM N (n + 1) (stM N n) (rwM N n) z := rfl
  rw [e] at h ⊢
  unfold smM at h ⊢
  by_cases c1 : codY z.1 = 56
  · rw [if_pos c1] at h ⊢; exact sd_if s h
  rw [if_neg c1] at h ⊢
  by_cases c2 : codY z.1 = 58
  · rw [if_pos c2] at h ⊢; exact sd_wh s h
  rw [if_neg c2] at h ⊢
  by_cases c3 : codY z.1 = 59
  · rw [if_pos c3] at h ⊢; exact sd_do s h
  rw [if_neg c3] at h ⊢
  by_cases c4 : codY z.1 = 60
  · rw [if_pos c4] at h ⊢; exact sd_fo s h
  rw [if_neg c4] at h ⊢
  by_cases c5 : codY z.1 = 61
  · rw [if_pos c5] at h ⊢; exact sd_sw w h
  rw [if_neg c5] at h ⊢
  by_cases c6 : codY z.1 = 68
  · rw [if_pos c6] at h ⊢; exact sd_tr w h
  rw [if_neg c6] at h ⊢
  by_cases c7 : codY z.1 = 2
  · rw [if_pos c7] at h ⊢; exact sd_bl w h
  rw [if_neg c7] at h ⊢
  by_cases c8 : codY z.1 = 4
  · rw [if_pos c8]; exact sd_em
  rw [if_neg c8] at h ⊢
  by_cases c9 : codY z.1 = 64 ∨ codY z.1 = 65
  · rw [if_pos c9] at h ⊢; exact sd_ju c9 rfl h
  rw [if_neg c9] at h ⊢
  by_cases c10 : codY z.1 = 66 ∨ codY z.1 = 67
  · rw [if_pos c10] at h ⊢
    rcases c10 with q | q
    · rw [q] at h ⊢; exact sd_g6 h
    · rw [q] at h ⊢; exact sd_g7 h
  rw [if_neg c10] at h ⊢
  by_cases c11 : codY z.1 = 80
  · rw [if_pos c11] at h ⊢
    by_cases c12 : cobY z.1 = 6
    · rw [if_pos c12] at h ⊢; exact sd_la s h
    · rw [if_neg c12] at h ⊢; exact sd_xs h
  · rw [if_neg c11] at h ⊢; exact sd_xs h
/-- a part of a row -/
def SpQ (N : Int → Int) (n : Nat) (sw : Int) (js : Nat) (b : Int) (z z' : ZS) : Prop := snM z < snM z' ∧ njS z' (snM z) = -1 ∧ z'.2.2.2.1.2 = z.2.2.2.1.2 ∧ KpY z.1 z'.1 ∧ (∀ i, i < snM z → reS z' i = reS z i) ∧ (sw = 1 → b = 1 → kjS z' (snM z) = 62 ∨ kjS z' (snM z) = 63) ∧ ∀ (Z : ZS) (M : Int), Cq Z M z → AgN Z z' (snM z) → (sw = 1 ∧ CsD Z (lvN n) js z.2.2.2.1.2 (psM z) (psM z')) ∨ StD N M Z n z.2.2.2.1.2 (psM z) (psM z')
theorem sp_cs {js : Nat} {b : Int} (h : zFt (csM N js n z).1 = 0) (hc : codY z.1 = 62 ∨ codY z.1 = 63) : SpQ N n 1 js b z (csM N js n z) := by
  unfold csM at h ⊢
  by_cases c : codY z.1 = 62
  · rw [if_pos c] at h ⊢
    obtain ⟨m, r, hx, Q⟩ := ((Pz.be (z := z) (n := n) (k := 62)).ac).ex (N := N) (n := n) (xp_b h)
    have eC : cnM (exS N (snM z) n (accM (beM 62 (lvN n) z))) = m.length := by unfold cnM; rw [Q.l]
    have P3 := (Q.cx (o := 38) (b := js) (c := (cnM (exS N (snM z) n (accM (beM 62 (lvN n) z))) : Int) - 1) (t := zAt z.1)).xp (c := 6)
    have P3 : Pz z _ _ _ ((fun (z1 : ZS) => xpM 6 (cxM 38 js ((cnM z1 : Int) - 1) (zAt z.1) z1)) (exS N (snM z) n (accM (beM 62 (lvN n) z)))) := P3
    generalize (fun (z1 : ZS) => xpM 6 (cxM 38 js ((cnM z1 : Int) - 1) (zAt z.1) z1)) (exS N (snM z) n (accM (beM 62 (lvN n) z))) = z' at P3 ⊢
    refine ⟨by rw [P3.sn]; exact Nat.lt_succ_self _, by unfold njS; rw [P3.2.1]; rfl, P3.2.2.2.1, P3.2.2.2.2, P3.1, fun _ _ => Or.inl (by unfold kjS; rw [P3.2.1]; rfl), fun Z M C ag => Or.inl ⟨rfl, Or.inl ⟨zAt z.1, m, r, ?_, hx, ?_⟩⟩⟩
    · exact ⟨ag.2.1.1.trans (congrArg (fun v : SrZ => v.1) P3.2.1), ag.2.1.2.2.trans (congrArg (fun v : SrZ => v.2.2.2) P3.2.1)⟩
    · rw [P3.2.2.1, eC]
      rfl
  · rw [if_neg c] at h ⊢
    have c3 : codY z.1 = 63 := by omega
    rw [c3]
    have P3 := ((((Pz.be (z := z) (n := n) (k := 63)).ac).co (o := 39) (b := js) (c := 0) (t := zAt z.1))).xp (c := 6)
    generalize xpM 6 (coM 39 js 0 (zAt z.1) (accM (beM 63 (lvN n) z))) = z' at P3 ⊢
    refine ⟨by rw [P3.sn]; exact Nat.lt_succ_self _, by unfold njS; rw [P3.2.1]; rfl, P3.2.2.2.1, P3.2.2.2.2, P3.1, fun _ _ => Or.inr (by unfold kjS; rw [P3.2.1]; rfl), fun Z M C ag => Or.inl ⟨rfl, Or.inr ⟨zAt z.1, ?_, ?_⟩⟩⟩
    · exact ⟨ag.2.1.1.trans (congrArg (fun v : SrZ => v.1) P3.2.1), ag.2.1.2.2.trans (congrArg (fun v : SrZ => v.2.2.2) P3.2.1)⟩
    · rw [P3.2.2.1]
      rfl
theorem kp_to : KpY z.1 (toM N n z).1 := by
  rw [lf_to]
  exact ⟨(pl_var (n := n)).1.tr (gl_xp _), (pn_var (n := n)).1.tr (gn_xp _), (pg_var (n := n)).1.tr (gd_xp _)⟩
theorem sp_2 (s : SdS N (n + 1)) {sw : Int} {js : Nat} (h : zFt (rp2M N (n + 1) (stM N (n + 1)) z).1 = 0) : SpQ N (n + 1) sw js 0 z (rp2M N (n + 1) (stM N (n + 1)) z) := by
  unfold rp2M at h ⊢
  by_cases c : codY z.1 = 71 ∨ (50 ≤ codY z.1 ∧ codY z.1 ≤ 54)
  · rw [if_pos c] at h ⊢
    have q := sd_to h
    have F := ((Gu.rf (z := z) (e := snM z) (js := -1)).to (N := N) (n := n + 1)).fw
    exact ⟨q.1, q.2.1, q.2.2.1, kp_to, fun i hi => F.2 i hi (by omega), fun _ b => absurd b (by decide), fun Z M C ag => Or.inr (q.2.2.2 Z M C ag)⟩
  · rw [if_neg c] at h ⊢
    have q := s z h
    have F := fw_st (N := N) (n := n + 1) (j := snM z) (w := z)
    exact ⟨q.1, q.2.1, q.2.2.1, kp_st, fun i hi => F.2 i hi (by omega), fun _ b => absurd b (by decide), fun Z M C ag => Or.inr (q.2.2.2 Z M C ag)⟩
theorem rp2_b (h : zFt (rp2M N n (stM N n) z).1 = 0) : zFt z.1 = 0 := by
  unfold rp2M at h
  split at h
  · exact va_b (N := N) (n := n) (w := bgM 91 n z) (j := snM z) (xp_b h)
  · exact st_b h
theorem sp_rp (s : SdS N (n + 1)) {sw b : Int} {js : Nat} (hb : b = 0 ∨ b = 1) (h : zFt (rpM N (n + 1) (stM N (n + 1)) sw js b z).1 = 0) : SpQ N (n + 1) sw js b z (rpM N (n + 1) (stM N (n + 1)) sw js b z) := by
  unfold rpM at h ⊢
  by_cases c : sw = 1
  · rw [if_pos c] at h ⊢
    by_cases c2 : codY z.1 = 62 ∨ codY z.1 = 63
    · rw [if_pos c2] at h ⊢
      rw [c]
      exact sp_cs h c2
    · rw [if_neg c2] at h ⊢
      by_cases c3 : b = 1
      · rw [if_pos c3] at h
        exact absurd (rp2_b h) (raiY_z (by decide))
      · rw [if_neg c3] at h ⊢
        have q := sp_2 s (sw := sw) (js := js) h
        exact ⟨q.1, q.2.1, q.2.2.1, q.2.2.2.1, q.2.2.2.2.1, fun _ b => absurd b c3, q.2.2.2.2.2.2⟩
  · rw [if_neg c] at h ⊢
    have q := sp_2 s (sw := sw) (js := js) h
    exact ⟨q.1, q.2.1, q.2.2.1, q.2.2.2.1, q.2.2.2.2.1, fun a => absurd a c, q.2.2.2.2.2.2⟩
end

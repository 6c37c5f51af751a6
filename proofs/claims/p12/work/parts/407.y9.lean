/-! what reading lays: for, jumps, return, throw; rows; all S's -/
theorem tg_ag {N : Int → Int} {f g : Nat → SrZ} {on : Bool} {t : Int} {m : Nat} (hh : ∀ i, i < m → (f i).1 = (g i).1 ∧ ((g i).1.1 = 6 → (f i).2.2.2.2.2.2.2.1 = (g i).2.2.2.2.2.2.2.1)) (hp : ∀ i, i < m → (f i).1.2.2.2 < (i : Int)) : ∀ (k k' : Nat) (x : Int), x < (k : Int) → x < (k' : Int) → x + 1 < (m : Int) → tgZ N f on t k x = tgZ N g on t k' x ∧ tgZ N f on t k x < (m : Int) := by
  intro k
  induction k with
  | zero =>
    intro k' x h1 h2 h3
    have h0 : x < 0 := h1
    rw [tg_neg h0, tg_neg h0]
    exact ⟨rfl, by omega⟩
  | succ k ih =>
    intro k' x h1 h2 h3
    by_cases c : x < 0
    · rw [tg_neg c, tg_neg c]
      exact ⟨rfl, by omega⟩
    · obtain ⟨j, rfl⟩ : ∃ j, k' = j + 1 := ⟨k' - 1, by omega⟩
      have hx := hh x.toNat (by omega)
      have hx1 := hh (x.toNat + 1) (by omega)
      have hpx := hp x.toNat (by omega)
      have r := ih j (f x.toNat).1.2.2.2 (by omega) (by omega) (by omega)
      rw [tgZ, tgZ, if_neg c, if_neg c, ← hx.1, ← hx1.1, r.1]
      by_cases c1 : t < 0
      · rw [if_pos c1, if_pos c1]
        split
        · exact ⟨rfl, by omega⟩
        · exact ⟨rfl, by rw [← r.1]; exact r.2⟩
      · rw [if_neg c1, if_neg c1]
        by_cases c6 : (f x.toNat).1.1 = 6
        · rw [hx.2 (by rw [← hx.1]; exact c6)]
          split
          · split
            · exact ⟨rfl, by omega⟩
            · split
              · exact ⟨rfl, h3⟩
              · exact ⟨rfl, by omega⟩
          · exact ⟨rfl, by rw [← r.1]; exact r.2⟩
        · rw [if_neg (fun q => c6 q.1), if_neg (fun q => c6 q.1)]
          exact ⟨rfl, by rw [← r.1]; exact r.2⟩
section
variable {z : ZS} {N : Int → Int} {n : Nat}
theorem fo2_q {w : ZS} {p : Ps} {k : Nat} {h : Int × Int × Int × Int} {kn : List (Int × Int)} {nx b o g lk th : Int} (P : Pz z (h, kn, (nx, b, o, g, -1, lk, th)) p (snM z) w) (hf : zFt (fo2M N (snM z) k n w).1 = 0) :
    ∃ (m : List ItZ) (x : Int), Pz z (h, kn, (nx, b, o, g, x, lk, th)) (p.1, p.2.1, m) (snM z) (fo2M N (snM z) k n w) ∧ FcD (lvN n) k h.2.1 x p.2.2 m := by
  unfold fo2M at hf ⊢
  split at hf
  · rename_i c
    rw [if_pos c]
    exact ⟨_, -1, P.cof P.fi, Or.inl ⟨rfl, rfl⟩⟩
  · rename_i c
    rw [if_neg c]
    obtain ⟨m, r, hx, Q⟩ := P.ex (N := N) (n := n) hf
    exact ⟨_, _, Q.cxf Q.fi, Or.inr ⟨m, r, hx, rfl, rfl⟩⟩
theorem fo1_b {w : ZS} {j : Nat} (h : zFt (fo1M N j n w).1 = 0) : zFt w.1 = 0 := by
  unfold fo1M at h
  split at h
  · exact va_b (N := N) (n := n) (w := beM 93 (lvN n) w) (j := snM w) h
  split at h
  · exact h
  · exact e_b (N := N) (n := n) (z := beM 94 (lvN n) w) (fxl_b (N := N) (n := n) (f := 501) (i := snM w) (w := fx1M N n w) h)
theorem fo2_b {w : ZS} {j k : Nat} (h : zFt (fo2M N j k n w).1 = 0) : zFt w.1 = 0 := by
  unfold fo2M at h
  split at h
  · exact h
  · exact e_b (N := N) (n := n) h
theorem fo3_b {w : ZS} {j : Nat} (h : zFt (fo3M N j n w).1 = 0) : zFt w.1 = 0 := by
  unfold fo3M at h
  split at h
  · exact h
  · exact e_b (N := N) (n := n) (z := beM 94 (lvN n) w) (fxl_b (N := N) (n := n) (f := 501) (i := snM w) (w := fx1M N n w) h)
theorem sd_fo (s : SdS N n) (h : zFt (foM2 N (n + 1) (stM N n) z).1 = 0) : SdQ N (n + 1) z (foM2 N (n + 1) (stM N n) z) := by
  have h4 : zFt (stM N n (foB N (snM z) (tnM z) (n + 1) (accM (bgH 60 (n + 1) z)))).1 = 0 := h
  have G : Gu z (snM z) 0 (tnM z) (-1) (tnM z) (foM2 N (n + 1) (stM N n) z) := (Gu.rf (e := 0)).fo gv_st
  have eF : foM2 N (n + 1) (stM N n) z = foE (snM z) (tnM z) (cnM z) (snM (foB N (snM z) (tnM z) (n + 1) (accM (bgH 60 (n + 1) z)))) (stM N n (foB N (snM z) (tnM z) (n + 1) (accM (bgH 60 (n + 1) z)))) := rfl
  rw [eF] at G ⊢
  have hB := st_b h4
  have P0 : Pz z (bR 60 (n + 1) z) (snM z + 1, tnM z + 1, cIy 20 0 0 (zAt z.1) :: z.2.1) (snM z) (arM (snM z) (xpM 0 (accM (bgH 60 (n + 1) z)))) := (((Pz.bh (k := 60)).ac).xp).ar
  unfold foB at hB h4 G ⊢
  generalize arM (snM z) (xpM 0 (accM (bgH 60 (n + 1) z))) = w0 at P0 hB h4 G ⊢
  dsimp only at hB h4 G ⊢
  have b3 : zFt (fo3M N (snM z) (n + 1) (coM 34 (tnM z) 0 (fiS (xpM 4 (fo2M N (snM z) (tnM z) (n + 1) (coM 32 (tnM z) 0 (fiS (xpM 4 (fo1M N (snM z) (n + 1) w0)) (snM z)) (xpM 4 (fo1M N (snM z) (n + 1) w0))))) (snM z)) (xpM 4 (fo2M N (snM z) (tnM z) (n + 1) (coM 32 (tnM z) 0 (fiS (xpM 4 (fo1M N (snM z) (n + 1) w0)) (snM z)) (xpM 4 (fo1M N (snM z) (n + 1) w0))))))).1 = 0 := xp_b hB
  have b2 : zFt (fo2M N (snM z) (tnM z) (n + 1) (coM 32 (tnM z) 0 (fiS (xpM 4 (fo1M N (snM z) (n + 1) w0)) (snM z)) (xpM 4 (fo1M N (snM z) (n + 1) w0)))).1 = 0 := xp_b (fo3_b b3)
  have b1 : zFt (fo1M N (snM z) (n + 1) w0).1 = 0 := xp_b (fo2_b b2)
  obtain ⟨q1, o, P1, le1, H1⟩ := fo1_q (N := N) (n := n + 1) P0 (Nat.lt_succ_self _) b1
  have le1 : snM z + 1 ≤ q1.1 := le1
  generalize fo1M N (snM z) (n + 1) w0 = w1 at P1 H1 hB h4 G b1 b2 b3 ⊢
  have P1' := (P1.xp (c := 4)).cof (o := 32) (b := tnM z) (c := 0) (P1.xp (c := 4)).fi
  have F1 : FwJ (snM z) w1 (coM 32 (tnM z) 0 (fiS (xpM 4 w1) (snM z)) (xpM 4 w1)) := ⟨Nat.le_refl _, fun _ _ _ => rfl⟩
  generalize coM 32 (tnM z) 0 (fiS (xpM 4 w1) (snM z)) (xpM 4 w1) = w1' at P1' hB h4 G b2 b3 F1 ⊢
  obtain ⟨m2, x, P2, H2⟩ := fo2_q (N := N) (n := n + 1) (k := tnM z) P1' b2
  have F2 : FwJ (snM z) w1' (fo2M N (snM z) (tnM z) (n + 1) w1') := ((Gu.rf (z := w1') (e := snM z) (js := tnM z)).fo2 (Or.inr rfl) (Or.inr rfl)).fw
  generalize fo2M N (snM z) (tnM z) (n + 1) w1' = w2 at P2 hB h4 G b2 b3 F2 ⊢
  have P2' := (P2.xp (c := 4)).cof (o := 34) (b := tnM z) (c := 0) (P2.xp (c := 4)).fi
  have F2' : FwJ (snM z) w2 (coM 34 (tnM z) 0 (fiS (xpM 4 w2) (snM z)) (xpM 4 w2)) := ⟨Nat.le_refl _, fun _ _ _ => rfl⟩
  generalize coM 34 (tnM z) 0 (fiS (xpM 4 w2) (snM z)) (xpM 4 w2) = w2' at P2' hB h4 G b3 F2' ⊢
  obtain ⟨q3, g, P3, le3, H3⟩ := fo3_q (N := N) (n := n + 1) P2' (by show snM z < q1.1; omega) b3
  have le3 : q1.1 ≤ q3.1 := le3
  have F3 : FwJ (snM z) w2' (fo3M N (snM z) (n + 1) w2') := ((Gu.rf (z := w2') (e := snM z) (js := tnM z)).fo3 (Or.inr rfl)).fw
  generalize fo3M N (snM z) (n + 1) w2' = w3 at P3 hB h4 G b3 F3 H3 ⊢
  have P3' := (P3.xp (c := 1)).cof (o := 35) (b := tnM z) (c := 0) (P3.xp (c := 1)).fi
  have F3' : FwJ (snM z) w3 (coM 35 (tnM z) 0 (fiS (xpM 1 w3) (snM z)) (xpM 1 w3)) := ⟨Nat.le_refl _, fun _ _ _ => rfl⟩
  generalize coM 35 (tnM z) 0 (fiS (xpM 1 w3) (snM z)) (xpM 1 w3) = w4 at P3' hB h4 G F3' ⊢
  have lt4 : snM z < q3.1 := by omega
  have P4 := P3'.st lt4 h4 s
  have e4 := (s _ h4).1
  have eS : snM w4 = q3.1 := P3'.sn
  have F4 : FwJ (snM z) w4 (stM N n w4) := fw_st
  have P5 := ((((P4.se (f := sBd ((snM w4 : Nat) : Int))).un).ve (t := zAt (stM N n w4).1 - 1) (o := knS (stM N n w4) (snM z))).cof (o := 36) (b := tnM z) (c := 0) P4.fi).en (c := cnM z)
  have F5 : FwJ (snM z) (stM N n w4) (foE (snM z) (tnM z) (cnM z) (snM w4) (stM N n w4)) := ((((Gu.rf (z := stM N n w4) (e := snM z) (js := tnM z)).bd (j := snM z) (k := snM w4) (Or.inr rfl)).ve.ck (o := 36) (by decide) (Or.inr rfl)).en).fw
  refine SdQ.mk (q := (snM (stM N n w4), tnM (stM N n w4), cIy 36 (tnM z) 0 (zAt z.1) :: (stM N n w4).2.1)) P5 (by show snM z < snM (stM N n w4); omega) rfl G (Nat.le_refl _) (fun Z M C ag R => inFo ⟨q1, q3, psM (stM N n w4), m2, o, g, x, ?_, H2, ?_, ?_, ?_, rfl⟩)
  · exact H1 Z _ ag (F1.tr (F2.tr (F2'.tr (F3.tr (F3'.tr (F4.tr F5))))))
  · exact H3 Z _ ag (F3'.tr (F4.tr F5))
  · exact P3'.sd lt4 h4 s C P5 ag F5 (by show ((snM z : Nat) : Int) < ((q3.1 : Nat) : Int); omega) ⟨rfl, rfl⟩ (fun q => absurd (show (60 : Int) = 6 from q) (by decide))
  · rw [← eS]
    exact R
theorem tq_d {Z : ZS} {M lk : Int} {j : Nat} {on : Bool} (C : Cq Z M z) (hz : snM z = j + 1) (ha : z.2.2.2.1.2 < (j : Int)) (hn : snM z ≤ snM Z) (h1 : kjS Z j = (if on = true then 65 else 64)) (h2 : ljS Z j = lk) (h3 : paS Z j = z.2.2.2.1.2) : tqM N on lk z = tqD N Z j := by
  obtain ⟨_, _, c4, _, c6⟩ := C
  have hh : ∀ i, i < snM z → ((reS z i).1 = (reS Z i).1) ∧ ((reS Z i).1.1 = 6 → (reS z i).2.2.2.2.2.2.2.1 = (reS Z i).2.2.2.2.2.2.2.1) := fun i hi => ⟨(c6 i hi).1.symm, fun q => ((c6 i hi).2.2 (by unfold kjS; rw [← (c6 i hi).1]; exact q)).symm⟩
  have r := tg_ag (N := N) (f := reS z) (g := reS Z) (on := on) (t := lk) hh (fun i hi => by rw [(hh i hi).1]; exact c4 i (by omega)) (snM z) (snM Z) z.2.2.2.1.2 (by omega) (by omega) (by omega)
  have eo : decide (kjS Z j = 65) = on := by
    rw [h1]
    cases on <;> rfl
  have e : tjT N Z j = tgM N on lk z := by
    unfold tjT
    rw [eo, h2, h3]
    exact r.1.symm
  unfold tqM tqD
  rw [e]
  split
  · rfl
  · exact ((c6 _ (by have := r.2; have : tgM N on lk z < (snM z : Int) := r.2; omega)).2.1).symm
theorem sd_ju {kd : Int} (hk : kd = 64 ∨ kd = 65) (hc : codY z.1 = kd) (h : zFt (juM N kd (n + 1) z).1 = 0) : SdQ N (n + 1) z (juM N kd (n + 1) z) := by
  have P0 := (Pz.bg (z := z) (n := n + 1) (k := kd)).ac
  have G : Gu z (snM z) 0 (tnM z) (-1) (tnM z) (juM N kd (n + 1) z) := (Gu.rf (e := 0)).ju hk
  have eJ : juM N kd (n + 1) z = enM (snM z) (cnM z) (xpM 4 (if codY (accM (bgM kd (n + 1) z)).1 = 80 then accM (coM (kd - 18) (tqM N (decide (kd = 65)) (zAt (accM (bgM kd (n + 1) z)).1) (accM (bgM kd (n + 1) z))) 0 (zAt (accM (bgM kd (n + 1) z)).1) (seM (snM z) (sLk (zAt (accM (bgM kd (n + 1) z)).1)) (accM (bgM kd (n + 1) z)))) else coM (kd - 18) (tqM N (decide (kd = 65)) (-1) (accM (bgM kd (n + 1) z))) 0 (zAt z.1) (accM (bgM kd (n + 1) z)))) := rfl
  have hz0 : zFt z.1 = 0 := by
    have z3 := xp_b (show zFt (xpY 4 _) = 0 from (by rw [eJ] at h; exact h))
    by_cases c : codY (accM (bgM kd (n + 1) z)).1 = 80
    · rw [if_pos c] at z3
      exact (acc_n (acc_n z3).2.1).2.1
    · rw [if_neg c] at z3
      exact (acc_n z3).2.1
  have hkz : zK z.1 (zAt z.1).toNat = kd := by
    unfold codY at hc
    rw [if_pos hz0] at hc
    exact hc
  have kd65 : kd = if decide (kd = 65) = true then 65 else 64 := by
    rcases hk with rfl | rfl <;> rfl
  have key : ∀ (Z : ZS) (M lk : Int), Cq Z M z → (reS Z (snM z)).1 = (kd, zAt z.1, lvN (n + 1), z.2.2.2.1.2) → ljS Z (snM z) = lk → thS Z (snM z) = (tnM z : Int) → snM z + 1 ≤ snM Z → tqM N (decide (kd = 65)) lk (accM (bgM kd (n + 1) z)) = tqD N Z (snM z) := by
    intro Z M lk C e1 e2 e3 e4
    refine tq_d (z := accM (bgM kd (n + 1) z)) (M := M) ⟨?_, ?_, C.2.2.1, e4, fun i hi => ?_⟩ rfl C.2.1 e4 ?_ e2 ?_
    · have gp := (P0.2.2.2.2.2.2.2 C.1.2.2.2)
      exact ⟨by rw [P0.2.2.2.2.1.1]; exact C.1.1, by rw [P0.2.2.2.2.k]; exact C.1.2.1, Int.le_trans C.1.2.2.1 gp.1, gp.2⟩
    · have := C.2.1
      show z.2.2.2.1.2 < ((snM z + 1 : Nat) : Int)
      omega
    · by_cases e : i = snM z
      · subst e
        unfold kjS thS at *
        rw [P0.2.1]
        refine ⟨e1, e3, fun q => ?_⟩
        have q : kd = 6 := q
        omega
      · have hi : i < snM z + 1 := hi
        have r := P0.1 i (by omega)
        unfold kjS ljS thS
        rw [r]
        exact C.2.2.2.2 i (by omega)
    · unfold kjS
      rw [e1]
      exact kd65
    · unfold paS
      rw [e1]
      rfl
  rw [eJ] at G ⊢
  by_cases c : codY (accM (bgM kd (n + 1) z)).1 = 80
  · rw [if_pos c] at G ⊢
    have P3 := ((((P0.se (f := sLk (zAt (accM (bgM kd (n + 1) z)).1))).co (o := kd - 18) (b := tqM N (decide (kd = 65)) (zAt (accM (bgM kd (n + 1) z)).1) (accM (bgM kd (n + 1) z))) (c := 0) (t := zAt (accM (bgM kd (n + 1) z)).1)).ac).xp (c := 4)).en (c := cnM z)
    refine SdQ.mk (q := (snM z + 1, tnM z, cIy (kd - 18) (tqM N (decide (kd = 65)) (zAt (accM (bgM kd (n + 1) z)).1) (accM (bgM kd (n + 1) z))) 0 (zAt (accM (bgM kd (n + 1) z)).1) :: cIy 20 0 0 (zAt z.1) :: z.2.1)) P3 (Nat.lt_succ_self _) rfl G (Nat.le_refl _) (fun Z M C ag R => inJu ⟨kd, zAt (accM (bgM kd (n + 1) z)).1, zAt (accM (bgM kd (n + 1) z)).1, hk, Or.inr ⟨rfl, ?_, ?_⟩, R, ?_⟩)
    · exact Int.le_trans C.1.2.2.1 (P0.2.2.2.2.2.2.2 C.1.2.2.2).1
    · rw [C.1.2.1, ← P0.2.2.2.2.k]
      unfold codY at c
      split at c
      · exact c
      · exact absurd c (by decide)
    · rw [key Z M (zAt (accM (bgM kd (n + 1) z)).1) C R.1 (congrArg (fun v : Int × Int × Int × Int × Int × Int => v.2.2.2.2.1) R.2) (congrArg (fun v : Int × Int × Int × Int × Int × Int => v.2.2.2.2.2) R.2) (by have := ag.1; have e := P3.sn; dsimp only at e; omega)]
  · rw [if_neg c] at G ⊢
    have P3 := ((P0.co (o := kd - 18) (b := tqM N (decide (kd = 65)) (-1) (accM (bgM kd (n + 1) z))) (c := 0) (t := zAt z.1)).xp (c := 4)).en (c := cnM z)
    refine SdQ.mk (q := (snM z + 1, tnM z, cIy (kd - 18) (tqM N (decide (kd = 65)) (-1) (accM (bgM kd (n + 1) z))) 0 (zAt z.1) :: cIy 20 0 0 (zAt z.1) :: z.2.1)) P3 (Nat.lt_succ_self _) rfl G (Nat.le_refl _) (fun Z M C ag R => inJu ⟨kd, -1, zAt z.1, hk, Or.inl ⟨rfl, rfl, ?_⟩, R, ?_⟩)
    · rw [C.1.2.1]
      exact hkz
    · rw [key Z M (-1) C R.1 (congrArg (fun v : Int × Int × Int × Int × Int × Int => v.2.2.2.2.1) R.2) (congrArg (fun v : Int × Int × Int × Int × Int × Int => v.2.2.2.2.2) R.2) (by have := ag.1; have e := P3.sn; dsimp only at e; omega)]
end

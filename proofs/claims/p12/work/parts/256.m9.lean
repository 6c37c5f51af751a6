/-! S's leave the pile as it was: all of them -/
theorem sk_if2 {St : ZS → ZS} (hS : SsM St) {j k c : Nat} : SsM (if2M St j k c) := by
  intro z S h hz
  unfold if2M at hz ⊢
  split at hz
  · next hc =>
    rw [if_pos hc]
    have h1 := hS (arM j (accM (coM 24 k 0 (zAt z.1) z))) S (h.co.z rfl) hz
    exact SkM.co (z := coM _ _ _ _ _) (SkM.co (z := unM j _) (h1.z rfl))
  · next hc =>
    rw [if_neg hc]
    exact h.co.co
theorem sk_sm {N : Int → Int} {n : Nat} {St : ZS → ZS} {Rw : Int → Nat → ZS → ZS × Int} {st : SpC → SpC} {rw_ : Int → SpC → SpC} (lS : LfM St st) (lR : LrM Rw rw_) (gS : GdY st) (gR : ∀ sw, GdY (rw_ sw)) (hS : SsM St) (hR : SrM Rw) : SsM (smM N n St Rw) := by
  intro z S h hz
  have bg : ∀ k, SkM (bgM k n z) S := fun k => SkM.co (z := beM k (lvN n) z) (h.z rfl)
  have bt : ∀ k, SkM (bgH k n z) S := fun k => (bg k).z rfl
  unfold smM at hz ⊢
  by_cases hc : codY z.1 = 56
  · rw [if_pos hc] at hz ⊢
    have hz1 := hz
    unfold ifM at hz1
    rw [lf_if2 lS] at hz1
    have hz2 : zFt (St (ifB N n z)).1 = 0 := by
      refine GpY.z ?_ hz1
      exact gd_if2 gS _
    have hz3 := hz2
    rw [lS] at hz3
    have hz4 : zFt (cdM N (snM z) n (accM (bgH 56 n z))).1 = 0 := GpY.z (gS _) hz3
    have h1 : SkM (ifB N n z) S := SkM.z (z := cxM 23 (tnM z) 0 (zAt z.1) (cdM N (snM z) n (accM (bgH 56 n z)))) (sk_cd ((bt 56).z (z' := accM _) rfl) hz4).cx rfl
    exact sk_if2 hS _ S ((hS _ S h1 hz2).z rfl) hz
  rw [if_neg hc] at hz ⊢
  by_cases hc : codY z.1 = 58
  · rw [if_pos hc] at hz ⊢
    have hz2 : zFt (St (whB N n z)).1 = 0 := hz
    have hz3 := hz2
    rw [lS] at hz3
    have hz4 : zFt (cdM N (snM z) n (accM (coM 26 (tnM z) 0 (zAt z.1) (bgH 58 n z)))).1 = 0 := GpY.z (gS _) hz3
    have h1 : SkM (whB N n z) S := SkM.z (z := cxM 27 (tnM z) 0 (zAt z.1) (cdM N (snM z) n (accM (coM 26 (tnM z) 0 (zAt z.1) (bgH 58 n z))))) (sk_cd ((bt 58).co.z (z' := accM _) rfl) hz4).cx rfl
    exact SkM.co (z := coM _ _ _ _ _) (SkM.co (z := bdM _ _ _) ((hS _ S h1 hz2).z rfl))
  rw [if_neg hc] at hz ⊢
  by_cases hc : codY z.1 = 59
  · rw [if_pos hc] at hz ⊢
    have hz1 : zFt (cdM N (snM z) n (coM 30 (tnM z) 0 (fiS (St (doB n z)) (snM z)) (xpM 58 (bdM (snM z) (snM z + 1) (St (doB n z)))))).1 = 0 := GpY.z (gd_xp (c := 4) _) hz
    have hz2 := hz1
    rw [lf_cd] at hz2
    have hz3 : zFt (St (doB n z)).1 = 0 := GpY.z (gd_xp (c := 58) _) (GpY.z (gd_cnd _) hz2)
    have h1 : SkM (doB n z) S := (bt 59).co.z rfl
    have h2 := hS _ S h1 hz3
    have h3 := sk_cd (SkM.co (z := xpM 58 (bdM _ _ _)) (h2.z rfl)) hz1
    exact SkM.co (z := cxM _ _ _ _ _) (SkM.cx (z := xpM 4 _) (h3.z rfl))
  rw [if_neg hc] at hz ⊢
  by_cases hc : codY z.1 = 60
  · rw [if_pos hc] at hz ⊢
    have hz2 : zFt (St (foB N (snM z) (tnM z) n (accM (bgH 60 n z)))).1 = 0 := hz
    have hz3 := hz2
    rw [lS] at hz3
    have hz4 : zFt (foB N (snM z) (tnM z) n (accM (bgH 60 n z))).1 = 0 := GpY.z (gS _) hz3
    have h1 := sk_foB (accM (bgH 60 n z)) S ((bt 60).z rfl) hz4
    exact SkM.co (z := coM _ _ _ _ _) (SkM.co (z := veM _ _ _) ((hS _ S h1 hz2).z rfl))
  rw [if_neg hc] at hz ⊢
  by_cases hc : codY z.1 = 61
  · rw [if_pos hc] at hz ⊢
    have hz2 : zFt (Rw 1 (tnM z) (swB N n z)).1.1 = 0 := GpY.z (gd_xp (c := 3) _) hz
    have hz3 := hz2
    rw [lR] at hz3
    have hz4 : zFt (cdM N (snM z) n (accM (bgH 61 n z))).1 = 0 := GpY.z (gd_xp (c := 2) _) (GpY.z (gR 1 _) hz3)
    have h1 : SkM (swB N n z) S := SkM.z (z := cxM 37 (tnM z) 0 (zAt z.1) (cdM N (snM z) n (accM (bgH 61 n z)))) (sk_cd ((bt 61).z (z' := accM _) rfl) hz4).cx rfl
    exact SkM.co (z := coM _ _ _ _ _) (SkM.co (z := xpM 3 _) ((hR 1 _ _ S h1 hz2).z rfl))
  rw [if_neg hc] at hz ⊢
  by_cases hc : codY z.1 = 68
  · rw [if_pos hc] at hz ⊢
    have hz1 : zFt (tr3M Rw (snM z) (tnM z) n (tr2M N Rw (snM z) (tnM z) n (tr1M (seM (snM z) (sBd (snM z + 1)) (boM Rw n z.2.2.2.1.1 (trB n z)))))).1 = 0 := hz
    have hz2 := hz1
    rw [lf_tr3 lR] at hz2
    have hz3 := GpY.z (gd_tr3 gR _) hz2
    have hz4 := hz3
    rw [lf_tr2 lR] at hz4
    have hz5 := GpY.z (gd_tr2 gR _) hz4
    have hz6 := hz5
    rw [lf_tr1] at hz6
    have hz7 : zFt (boM Rw n z.2.2.2.1.1 (trB n z)).1 = 0 := GpY.z (gd_tr1 _) hz6
    have h1 : SkM (trB n z) S := (SkM.co (z := accM (bgH 68 n z)) ((bt 68).z rfl)).z rfl
    have h2 := sk_bo hR _ S h1 hz7
    have h3 : SkM (tr1M (seM (snM z) (sBd (snM z + 1)) (boM Rw n z.2.2.2.1.1 (trB n z)))) S := by
      unfold tr1M
      split
      · exact h2.z rfl
      · exact h2.z rfl
    have h4 := sk_tr2 hR _ S h3 hz3
    have h5 := sk_tr3 hR _ S h4 hz1
    exact SkM.co (z := coM _ _ _ _ _) (SkM.co (z := unM _ _) (h5.z rfl))
  rw [if_neg hc] at hz ⊢
  by_cases hc : codY z.1 = 2
  · rw [if_pos hc] at hz ⊢
    exact (sk_blk hR _ S (bt 2) hz).co
  rw [if_neg hc] at hz ⊢
  by_cases hc : codY z.1 = 4
  · rw [if_pos hc] at hz ⊢
    exact SkM.co (z := accM _) ((bg 4).z rfl)
  rw [if_neg hc] at hz ⊢
  by_cases hc : codY z.1 = 64 ∨ codY z.1 = 65
  · rw [if_pos hc] at hz ⊢
    exact sk_ju z S h hz
  rw [if_neg hc] at hz ⊢
  by_cases hc : codY z.1 = 66 ∨ codY z.1 = 67
  · rw [if_pos hc] at hz ⊢
    exact sk_gi z S h hz
  rw [if_neg hc] at hz ⊢
  by_cases hc : codY z.1 = 80
  · rw [if_pos hc] at hz ⊢
    by_cases hb : cobY z.1 = 6
    · rw [if_pos hb] at hz ⊢
      have h1 : SkM (laB n z) S := (SkM.z (z := coM 41 (tnM z) 0 (zAt z.1) (bgH 6 n z)) (bt 6).co rfl)
      exact SkM.co (z := coM _ _ _ _ _) (SkM.co (z := bdM _ _ _) ((hS _ S h1 hz).z rfl))
    · rw [if_neg hb] at hz ⊢
      exact sk_xs z S h hz
  · rw [if_neg hc] at hz ⊢
    exact sk_xs z S h hz
theorem sk_rp {N : Int → Int} {n : Nat} {S_ : ZS → ZS} (hS : SsM S_) {sw b : Int} {js : Nat} : SsM (rpM N n S_ sw js b) := by
  have h2 : SsM (rp2M N n S_) := by
    intro z S h hz
    unfold rp2M at hz ⊢
    split at hz
    · next hc => rw [if_pos hc]; exact sk_to z S h hz
    · next hc => rw [if_neg hc]; exact hS z S h hz
  intro z S h hz
  unfold rpM at hz ⊢
  split at hz
  · next hc =>
    rw [if_pos hc]
    split at hz
    · next hc => rw [if_pos hc]; exact sk_cs z S h hz
    next hc =>
    rw [if_neg hc]
    split at hz
    · next hc => rw [if_pos hc]; exact h2 (raiM 2 z) S (h.z rfl) hz
    · next hc => rw [if_neg hc]; exact h2 z S h hz
  · next hc => rw [if_neg hc]; exact h2 z S h hz
theorem sk_nx {l : Int} {j : Nat} {z : ZS} {S : List Int} (h : SkM z S) : SkM (nxM l j z) S := by
  unfold nxM
  split
  · exact h
  · exact h.z rfl
theorem sk_rwl {N : Int → Int} {n : Nat} {S_ : ZS → ZS} {st : SpC → SpC} (lS : LfM S_ st) (gS : ∀ (k : Nat) (b : Int) (sw : Int), GdY (rwlY n st sw k b)) (hS : SsM S_) {sw : Int} {js : Nat} {S : List Int} : ∀ (k : Nat) (f l : Int) (z : ZS), SkM z S → zFt (rwlM N n S_ sw js k f l z).1.1 = 0 → SkM (rwlM N n S_ sw js k f l z).1 S := by
  intro k
  induction k with
  | zero => intro f l z h _; exact h
  | succ k ih =>
    intro f l z h hz
    rw [rwlM] at hz ⊢
    by_cases h0 : zFt z.1 = 0
    · rw [if_pos h0] at hz ⊢
      by_cases h3 : codY z.1 = 3
      · rw [if_pos h3]
        exact h
      · rw [if_neg h3] at hz ⊢
        refine ih _ _ _ ?_ hz
        rw [lf_rwl lS] at hz
        have hz1 := GpY.z (gS k _ sw _) hz
        rw [lf_nx] at hz1
        exact sk_nx (sk_rp hS z S h hz1)
    · rw [if_neg h0]
      exact h
theorem sk_ls {N : Int → Int} : ∀ n, SsM (stM N n) ∧ SrM (rwM N n) := by
  intro n
  induction n with
  | zero => exact ⟨fun z S _ hz => absurd hz (raiY_z (by decide)), fun sw j z S _ hz => absurd hz (raiY_z (by decide))⟩
  | succ n ih =>
    have h1 : SsM (stM N (n + 1)) := sk_sm lf_st lf_rw gd_st (fun _ => gd_rw) ih.1 ih.2
    exact ⟨h1, fun sw j z S h hz => sk_rwl (lf_st (N := N) (n := n + 1)) (fun k b sw => gd_rwl gd_st _ _) h1 501 (-1) (-1) z h hz⟩
theorem sk_st {N : Int → Int} {n : Nat} : SsM (stM N n) := (sk_ls n).1
theorem sk_rw {N : Int → Int} {n : Nat} : SrM (rwM N n) := (sk_ls n).2
theorem it_pal {N : Int → Int} : ∀ (f i : Nat) (z : ZS), (palM N f i z).2.1 = z.2.1 := by
  have e : ∀ i z, (pa1M N i z).2.1 = z.2.1 := by
    intro i z
    unfold pa1M pa2M
    split <;> split <;> rfl
  intro f
  induction f with
  | zero => intro i z; rfl
  | succ f ih =>
    intro i z
    rw [palM]
    split
    · rw [ih]
      exact e i z
    · exact e i z
theorem it_pa {N : Int → Int} {z : ZS} : (paM N z).2.1 = z.2.1 := by
  show (pa3M N (xpM 0 z)).2.1 = _
  unfold pa3M
  split
  · rfl
  · rw [it_pal]
    rfl
theorem sk_me {N : Int → Int} : SsM (meM N) := by
  intro z S h hz
  have e1 : (me2M (accM (me1M z))).2.1 = z.2.1 := by
    have a : ∀ y : ZS, (me1M y).2.1 = y.2.1 := fun y => by unfold me1M; split <;> rfl
    have b : ∀ y : ZS, (me2M y).2.1 = y.2.1 := fun y => by unfold me2M; split <;> (try split) <;> rfl
    rw [b]
    exact a z
  unfold meM me3M at hz ⊢
  split at hz
  · next hc =>
    rw [if_pos hc]
    refine SkM.co ?_
    exact sk_bo sk_rw _ S (h.z (it_pa.trans e1)) hz
  · next hc =>
    rw [if_neg hc]
    exact h.z e1
theorem sk_pr {N : Int → Int} {S : List Int} : ∀ (f : Nat) (z : ZS), SkM z S → zFt (prM N f z).1 = 0 → SkM (prM N f z) S := by
  intro f
  induction f with
  | zero => intro z h _; exact h
  | succ f ih =>
    intro z h hz
    rw [prM] at hz ⊢
    by_cases h0 : zFt z.1 = 0
    · rw [if_pos h0] at hz ⊢
      by_cases h3 : codY z.1 = 84
      · rw [if_pos h3]
        exact h
      · rw [if_neg h3] at hz ⊢
        refine ih _ ?_ hz
        rw [lf_pr] at hz
        have hz1 : zFt (meM N z).1 = 0 := by
          by_cases q : zFt (meM N z).1 = 0
          · exact q
          · exfalso
            have e : prlY f (meM N z).1 = (meM N z).1 := by
              cases f with
              | zero => rfl
              | succ f => rw [prlY, if_neg q]
            rw [e] at hz
            exact q hz
        exact sk_me z S h hz1
    · rw [if_neg h0]
      exact h

/-! S's leave the pile as it was -/
theorem sk_pos : ∀ {l : List ItZ} {S : List Int}, SkP l S → ∀ x ∈ S, 0 ≤ x := by
  intro l
  induction l with
  | nil =>
    intro S h x hx
    have h : S = [] := h
    rw [h] at hx
    cases hx
  | cons y l ih =>
    intro S h x hx
    obtain ⟨T, rfl, h⟩ := h
    rcases List.mem_append.mp hx with hx | hx
    · cases y with
      | inl y =>
        have hx : x ∈ (if y.1.1 ≤ 10 then [((xcZ l : Nat) : Int)] else []) := hx
        split at hx
        · rw [List.mem_singleton.mp hx]; omega
        · cases hx
      | inr y => cases hx
    · exact ih h x (List.mem_append.mpr (Or.inr hx))
theorem SkM.co {z : ZS} {S : List Int} {op a b t : Int} (h : SkM z S) : SkM (coM op a b t z) S := ⟨S, rfl, by show SkP z.2.1 ((if (-1 : Int) < 0 then [] else [(-1 : Int)]) ++ S); rw [if_pos (by decide)]; exact h⟩
theorem SkM.ca {z : ZS} {S : List Int} {k : Nat} (h : SkM z S) : SkM (caM k z) S := ⟨S, rfl, by show SkP z.2.1 ((if (-2 - ((zVs z.1).length : Int)) < 0 then [] else [-2 - ((zVs z.1).length : Int)]) ++ S); rw [if_pos (by omega)]; exact h⟩
theorem SkM.cx {z : ZS} {S : List Int} {op a b t : Int} (h : SkM z (laZ z :: S)) : SkM (cxM op a b t z) S := ⟨S, rfl, by
  have p := sk_pos h (laZ z) List.mem_cons_self
  show SkP z.2.1 ((if laZ z < 0 then [] else [laZ z]) ++ S)
  rw [if_neg (by omega)]
  exact h⟩
theorem SkM.sto {z : ZS} {S : List Int} {v j st : Int} (h : SkM z (laZ z :: S)) : SkM (puM (stoZ v j st (xnM z) z.1) z) S := by
  refine ⟨S, rfl, ?_⟩
  exact h
theorem sk_ex {N : Int → Int} {j n : Nat} {z : ZS} {S : List Int} (h : SkM z S) (hz : zFt (exS N j n z).1 = 0) : SkM (exS N j n z) (laZ (exS N j n z) :: S) := (sk_e z S h hz).z rfl
theorem sk_cd {N : Int → Int} {j n : Nat} {z : ZS} {S : List Int} (h : SkM z S) (hz : zFt (cdM N j n z).1 = 0) : SkM (cdM N j n z) (laZ (cdM N j n z) :: S) := by
  have hz1 : zFt (exS N j n (xpM 0 z)).1 = 0 := GpY.z (gd_xp (c := 1) _) hz
  exact (sk_ex (h.z (z' := xpM 0 z) rfl) hz1).z rfl
abbrev SsM (f : ZS → ZS) : Prop := ∀ z S, SkM z S → zFt (f z).1 = 0 → SkM (f z) S
theorem sk_xs {N : Int → Int} {n : Nat} : SsM (xsM N n) := by
  intro z S h hz
  have hz1 : zFt (exS N (snM z) n (bgM 90 n z)).1 = 0 := GpY.z (gd_xp (c := 4) _) hz
  exact ((sk_ex (z := bgM 90 n z) (SkM.co (z := beM 90 (lvN n) z) (h.z rfl)) hz1).cx.z (z' := xpM 4 _) rfl).co
theorem sk_va2 {N : Int → Int} {j n : Nat} {f v t : Int} {z : ZS} {S : List Int} (h : SkM z S) (hz : zFt (va2M N j n f v t z).1 = 0) : SkM (va2M N j n f v t z) S := by
  unfold va2M at hz ⊢
  split at hz
  · next hc =>
    rw [if_pos hc]
    have h1 : SkM (xpM 8 (coM 22 v 2 t z)) S := h.co.z rfl
    exact (sk_ex h1 hz).sto
  · next hc =>
    rw [if_neg hc]
    exact h.co
theorem sk_va {N : Int → Int} {j n : Nat} : SsM (vaM N j n) := by
  intro z S h hz
  unfold vaM at hz ⊢
  split at hz
  · next hc =>
    rw [if_pos hc]
    exact sk_va2 (z := seM j _ _) (h.z rfl) hz
  · next hc =>
    rw [if_neg hc]
    exact sk_va2 (z := seM j _ _) (h.z rfl) hz
theorem sk_to {N : Int → Int} {n : Nat} : SsM (toM N n) := by
  intro z S h hz
  have hz1 : zFt (vaM N (snM z) n (bgM 91 n z)).1 = 0 := GpY.z (gd_xp (c := 4) _) hz
  exact SkM.co (z := xpM 4 _) ((sk_va _ S (SkM.co (z := beM 91 (lvN n) z) (h.z rfl)) hz1).z rfl)
theorem sk_fx1 {N : Int → Int} {n : Nat} : SsM (fx1M N n) := by
  intro z S h hz
  exact (sk_ex (z := beM 94 (lvN n) z) (h.z rfl) hz).cx
theorem sk_fxl {N : Int → Int} {n : Nat} {S : List Int} : ∀ (f j : Nat) (z : ZS), SkM z S → zFt (fxlM N n f j z).1 = 0 → SkM (fxlM N n f j z) S := by
  intro f
  induction f with
  | zero => intro j z h _; exact h
  | succ f ih =>
    intro j z h hz
    rw [fxlM] at hz ⊢
    by_cases hc : codY z.1 = 5
    · rw [if_pos hc] at hz ⊢
      refine ih _ _ ?_ hz
      have hz1 := hz
      rw [lf_fxl] at hz1
      have hz2 : zFt (fx1M N n (accM z)).1 = 0 := GpY.z (gd_clp gd_e f _) hz1
      exact (sk_fx1 (accM z) S (h.z rfl) hz2).z rfl
    · rw [if_neg hc]
      exact h
theorem sk_fx {N : Int → Int} {n : Nat} : SsM (fxM N n) := by
  intro z S h hz
  have hz1 := hz
  unfold fxM at hz1
  rw [lf_fxl] at hz1
  exact sk_fxl 501 _ _ (sk_fx1 z S h (GpY.z (gd_clp gd_e 501 _) hz1)) hz
theorem sk_cs {N : Int → Int} {js : Int} {n : Nat} : SsM (csM N js n) := by
  intro z S h hz
  unfold csM at hz ⊢
  split at hz
  · next hc =>
    rw [if_pos hc]
    have hz1 : zFt (exS N (snM z) n (accM (beM 62 (lvN n) z))).1 = 0 := GpY.z (gd_xp (c := 6) _) hz
    exact (sk_ex (z := accM (beM 62 (lvN n) z)) (h.z rfl) hz1).cx.z rfl
  · next hc =>
    rw [if_neg hc]
    exact (SkM.co (z := accM (beM (codY z.1) (lvN n) z)) (h.z rfl)).z rfl
theorem sk_ju {N : Int → Int} {k : Int} {n : Nat} : SsM (juM N k n) := by
  intro z S h hz
  have h1 : SkM (accM (bgM k n z)) S := (SkM.co (z := beM k (lvN n) z) (h.z rfl)).z rfl
  refine SkM.co (z := xpM 4 _) (SkM.z (z := (if codY (accM (bgM k n z)).1 = 80 then _ else _ : ZS)) ?_ rfl)
  split
  · exact (SkM.co (z := seM _ _ (accM (bgM k n z))) (h1.z rfl)).z rfl
  · exact h1.co
theorem sk_gi {N : Int → Int} {k : Int} {n : Nat} : SsM (giM N k n) := by
  intro z S h hz
  have h1 : SkM (accM (bgM k n z)) S := (SkM.co (z := beM k (lvN n) z) (h.z rfl)).z rfl
  have hz0 := GpY.z (gd_xp (c := 4) _) hz
  refine SkM.co (z := xpM 4 _) (SkM.z (z := (if k = 67 ∨ ¬ codY (accM (bgM k n z)).1 = 4 then _ else _ : ZS)) ?_ rfl)
  by_cases hc : k = 67 ∨ ¬ codY (accM (bgM k n z)).1 = 4
  · rw [if_pos hc] at hz0 ⊢
    have hz1 : zFt (exS N (snM z) n (accM (bgM k n z))).1 = 0 := by
      dsimp only at hz0
      split at hz0
      · exact hz0
      · exact hz0
    have h2 := sk_ex h1 hz1
    dsimp only
    split
    · exact SkM.cx (z := seM _ _ _) (h2.z rfl)
    · exact h2.cx
  · rw [if_neg hc]
    exact SkM.co (z := seM _ _ _) (h1.z rfl)
abbrev SrM (F : Int → Nat → ZS → ZS × Int) : Prop := ∀ sw j z S, SkM z S → zFt (F sw j z).1.1 = 0 → SkM (F sw j z).1 S
theorem sk_blk {Rw : Int → Nat → ZS → ZS × Int} (hR : SrM Rw) {j : Nat} {out : List (Int × Int)} : SsM (blkM Rw j out) := by
  intro z S h hz
  have hz1 : zFt (Rw 0 0 (xpM 2 (arM j z))).1.1 = 0 := GpY.z (gd_xp (c := 3) _) hz
  exact (hR 0 0 (xpM 2 (arM j z)) S (h.z rfl) hz1).z rfl
theorem sk_bo {Rw : Int → Nat → ZS → ZS × Int} (hR : SrM Rw) {n : Nat} {out : List (Int × Int)} : SsM (boM Rw n out) := fun z S h hz => sk_blk hR (beM 92 (lvN n) z) S (h.z rfl) hz
theorem sk_fo1 {N : Int → Int} {j n : Nat} : SsM (fo1M N j n) := by
  intro z S h hz
  unfold fo1M at hz ⊢
  split at hz
  · next hc =>
    rw [if_pos hc]
    exact (sk_va (beM 93 (lvN n) z) S (h.z rfl) hz).z rfl
  next hc =>
  rw [if_neg hc]
  split at hz
  · next h4 => rw [if_pos h4]; exact h
  · next h4 =>
    rw [if_neg h4]
    exact (sk_fx z S h hz).z rfl
theorem sk_fo2 {N : Int → Int} {j k n : Nat} : SsM (fo2M N j k n) := by
  intro z S h hz
  unfold fo2M at hz ⊢
  split at hz
  · next h4 => rw [if_pos h4]; exact h.co
  · next h4 =>
    rw [if_neg h4]
    exact (sk_ex h hz).cx
theorem sk_fo3 {N : Int → Int} {j n : Nat} : SsM (fo3M N j n) := by
  intro z S h hz
  unfold fo3M at hz ⊢
  split at hz
  · next h4 => rw [if_pos h4]; exact h
  · next h4 =>
    rw [if_neg h4]
    exact (sk_fx z S h hz).z rfl
theorem sk_foB {N : Int → Int} {j k n : Nat} : SsM (foB N j k n) := by
  intro z S h hz
  unfold foB at hz ⊢
  have hz1 := GpY.z (gd_xp (c := 1) _) hz
  have hz2 := hz1
  rw [lf_fo3] at hz2
  have hz3 := GpY.z (gd_fo3 _) hz2
  have hz4 := GpY.z (gd_xp (c := 4) _) hz3
  have hz5 := hz4
  rw [lf_fo2] at hz5
  have hz6 := GpY.z (gd_fo2 _) hz5
  have hz7 := GpY.z (gd_xp (c := 4) _) hz6
  have h1 := sk_fo1 (arM j (xpM 0 z)) S (h.z rfl) hz7
  have h2 := sk_fo2 _ S (SkM.co (z := xpM 4 _) (h1.z rfl)) hz4
  have h3 := sk_fo3 _ S (SkM.co (z := xpM 4 _) (h2.z rfl)) hz1
  exact SkM.co (z := xpM 1 _) (h3.z rfl)
theorem sk_tr2 {N : Int → Int} {Rw : Int → Nat → ZS → ZS × Int} (hR : SrM Rw) {j k n : Nat} : SsM (tr2M N Rw j k n) := by
  intro z S h hz
  unfold tr2M at hz ⊢
  split at hz
  · next hc =>
    rw [if_pos hc]
    have e : ∀ z2 : ZS, SkM z2 S → SkM (xpM 1 (seM j (sLk (zVs z2.1).length) (dcM N 3 0 1 z2))) S := fun z2 h2 => h2.z rfl
    have h1 := e (xpM 0 (accM (caM k z))) (SkM.z (z := caM k z) h.ca rfl)
    have g : ∀ z1 : ZS, SkM z1 S → zFt (seM j (sOt (snM z1)) (boM Rw n (knS z j) z1)).1 = 0 → SkM (seM j (sOt (snM z1)) (boM Rw n (knS z j) z1)) S := fun z1 h1 q => (sk_bo hR (n := n) (out := knS z j) z1 S h1 q).z rfl
    exact g _ h1 hz
  · next hc => rw [if_neg hc]; exact h
theorem sk_tr3 {Rw : Int → Nat → ZS → ZS × Int} (hR : SrM Rw) {j k n : Nat} : SsM (tr3M Rw j k n) := by
  intro z S h hz
  unfold tr3M at hz ⊢
  split at hz
  · next hc =>
    rw [if_pos hc]
    have g : ∀ z1 : ZS, SkM z1 S → zFt (seM j (sLs (snM z1)) (boM Rw n (knS z j) z1)).1 = 0 → SkM (seM j (sLs (snM z1)) (boM Rw n (knS z j) z1)) S := fun z1 h1 q => (sk_bo hR (n := n) (out := knS z j) z1 S h1 q).z rfl
    exact g (accM (coM 52 k 0 (zAt z.1) z)) (SkM.z (z := coM 52 k 0 (zAt z.1) z) h.co rfl) hz
  · next hc => rw [if_neg hc]; exact h

/-! what judging asks of one code of an S, whole; all that judging asks -/
section
variable {N : Int → Int} {σ : RS} {z : ZS} {Ko Ki : Int} {l : List ItZ} {y : Int × Int × Int × Int × Int} {L : List Nat}
theorem lb_in : ∀ {l : List ItZ} {p : Int × Int}, p ∈ lbZ l → ∃ w u, (.inr w :: u) <:+ l ∧ w.1 = 41 ∧ p = (w.2.1, w.2.2.2.1) := by
  intro l
  induction l with
  | nil => exact fun h => absurd h List.not_mem_nil
  | cons x l ih =>
    intro p h
    have up : p ∈ lbZ l → ∃ w u, (.inr w :: u) <:+ (x :: l) ∧ w.1 = 41 ∧ p = (w.2.1, w.2.2.2.1) := fun q => by
      obtain ⟨w, u, h1, h2⟩ := ih q
      exact ⟨w, u, h1.trans (List.suffix_cons _ _), h2⟩
    cases x with
    | inl x => exact up h
    | inr w =>
      have h : p ∈ (if w.1 = 41 then (w.2.1, w.2.2.2.1) :: lbZ l else if w.1 = 42 then (lbZ l).tail else lbZ l) := h
      by_cases a : w.1 = 41
      · rw [if_pos a] at h
        rcases List.mem_cons.mp h with q | q
        · exact ⟨w, l, List.suffix_rfl, a, q⟩
        · exact up q
      · rw [if_neg a] at h
        by_cases b : w.1 = 42
        · rw [if_pos b] at h
          exact up (List.mem_of_mem_tail h)
        · rw [if_neg b] at h
          exact up h
/-- a token that a code names -/
theorem ck_y (A : AkI z) (hy : (.inr y :: l) <:+ z.2.1) (k : y.1 = 41 ∨ y.1 = 46 ∨ y.1 = 47) : 0 ≤ y.2.2.2.1 ∧ y.2.2.2.1 < zAt z.1 := by
  refine (A.1 y.2.2.2.1).2 ?_
  have key : ∀ {L : List ItZ}, (.inr y :: l) <:+ L → 0 < (tkL L).count y.2.2.2.1 := by
    rintro L ⟨t, rfl⟩
    rw [tkl_app, List.count_append]
    have e : tkL (Sum.inr y :: l) = y.2.2.2.1 :: tkL l := if_pos k
    rw [e, ct_1, if_pos rfl]
    omega
  have := key hy
  unfold ckZ
  omega
theorem ytx_of (R : RdW N σ z) (A : AkI z) (D : DvI z) (P : PrD N z L 0 (0, 0, []) (psM z)) (hL : L.length = (zMs z.1).length) (hy : (.inr y :: l) <:+ z.2.1) : YtxR (fun t => (aI σ 3 t).toInt) (sI σ 68 1) (CxM N z.1 (msM N Ko Ki z.1)) N (tnM z) l y := by
  obtain ⟨⟨⟨y19, yt1, yt2⟩, y38, y42⟩, ym⟩ := (cor_all P).2 y l hy
  have m := hy.subset List.mem_cons_self
  have ls : l <:+ z.2.1 := (List.suffix_cons _ _).trans hy
  refine ⟨⟨iy_of R hy, y19⟩, fun k => ?_, ⟨yt1, yt2⟩, fun k => ?_, fun k => ?_, fun k p hp => ?_, y42, fun k => (ck_y A hy k).1, fun k Y hY h89 => ?_, fun t => rfl⟩
  · obtain ⟨d1, d2, d3⟩ := D y m k
    have v := (R.vt (Nv := N) (ms := msM N Ko Ki z.1) (Y := sI σ 68 1) JfR.rf d2 d3)
    have e := v.2.1
    have r := v.2.2.2
    rw [← e] at r
    exact ⟨d1, r.1, r.2, d2⟩
  · have t := tc_of R hy (by unfold thO; simp only [Bool.or_eq_true, Bool.and_eq_true, decide_eq_true_eq]; omega)
    exact ⟨t.1, t.2.1⟩
  · have t := tc_of R hy (by unfold thO; simp only [Bool.or_eq_true, Bool.and_eq_true, decide_eq_true_eq]; omega)
    have kt := R.1.2.2.2.2.2.1
    have t0 := (kt.2.1 y.2.1.toNat (by have a := t.1; have b := t.2.1; omega)).1
    refine ⟨y38 k, ⟨t0, t.2.2.1⟩, fun o x hx k2 e => ?_⟩
    have tx := kt.2.2 o x (itN_g ls hx) (by unfold thO; simp only [Bool.or_eq_true, Bool.and_eq_true, decide_eq_true_eq]; omega)
    rw [← e]
    exact tx.2.2.1
  · obtain ⟨w, u, hw, k2, rfl⟩ := lb_in hp
    have hwz := hw.trans ls
    have t := tc_of R hwz (by unfold thO; simp only [Bool.or_eq_true, Bool.and_eq_true, decide_eq_true_eq]; omega)
    refine ⟨t.1, ?_⟩
    have e60 := t.2.2.2.2.1 k2
    have cw := ck_y A hwz (Or.inl k2)
    have cy := ck_y A hy (Or.inl k)
    have tw := R.tk cw.1 cw.2 (A.2.1 _ (hwz.subset List.mem_cons_self) k2)
    have ty := R.tk cy.1 cy.2 (A.2.1 _ m k)
    have nw : (aI σ 60 w.2.1.toNat).toNatClampNeg = w.2.2.2.1.toNat := by
      show (aI σ 60 w.2.1.toNat).toInt.toNat = _
      rw [e60]
    have nm := R.1.2.2.2.1.2 w.2.2.2.1.toNat y.2.2.2.1.toNat tw.1 ty.1 tw.2.1 ty.2.1 tw.2.2 ty.2.2
    rw [Int.toNat_of_nonneg cw.1, Int.toNat_of_nonneg cy.1] at nm
    show sameR (sI σ 68 1) (aI σ 60 w.2.1.toNat).toNatClampNeg y.2.2.2.1.toNat ↔ N w.2.2.2.1 = N y.2.2.2.1
    rw [nw]
    exact nm
  · obtain ⟨⟨r1, r2⟩, r3, _⟩ := R.ms
    have n36 := (nt_pos r1).1
    have l36 := Int32.le_iff_toInt_le.mp r2
    have l36 : (gI σ 36).toInt ≤ 10 := l36
    have lm : (zMs z.1).length = nT (gI σ 36) := by rw [r3, ml_len]
    have own := ms_own (Ko := Ko) (Ki := Ki) R (i := mdZ l) (by omega)
    have n10 : ¬ gI Y 89 = 10 := fun q => by rw [q] at h89; have h : (10 : Int) = (mdZ l : Int) := h89; omega
    have n11 : ¬ gI Y 89 = 11 := fun q => by rw [q] at h89; have h : (11 : Int) = (mdZ l : Int) := h89; omega
    have nn : (gI Y 89).toNatClampNeg = mdZ l := nT_x h89
    have e38 : aI Y 38 = aI σ 38 := hY.2.2.1 38 rfl
    rw [if_neg n10, if_neg n11, nn, e38]
    unfold mtyT
    have own : (CxM N z.1 (msM N Ko Ki z.1)).2.2.2 ((mdZ l : Int)).toNat = some (N (aI σ 37 (mdZ l)).toInt, (aI σ 38 (mdZ l)).toInt, (plR (aI σ 44) (nT (aI σ 40 (mdZ l))) (nT (aI σ 39 (mdZ l)))).reverse) := own
    rw [own]
end

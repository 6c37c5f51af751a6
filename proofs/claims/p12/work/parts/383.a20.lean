/-! one code of an S more: by the code -/
theorem lb_len : ∀ {l : List ItZ}, (lbZ l).length ≤ l.length := by
  intro l
  induction l with
  | nil => exact Nat.le_refl _
  | cons x l ih =>
    rw [List.length_cons]
    cases x with
    | inl x => show (lbZ l).length ≤ _; omega
    | inr y =>
      show (if y.1 = 41 then (y.2.1, y.2.2.2.1) :: lbZ l else if y.1 = 42 then (lbZ l).tail else lbZ l).length ≤ _
      split
      · rw [List.length_cons]; omega
      · split
        · rw [List.length_tail]; omega
        · omega
theorem md_len : ∀ {l : List ItZ}, mdZ l ≤ l.length := by
  intro l
  induction l with
  | nil => exact Nat.le_refl _
  | cons x l ih =>
    rw [List.length_cons]
    cases x with
    | inl x => show mdZ l ≤ _; omega
    | inr y => show (if y.1 = 54 then mdZ l + 1 else mdZ l) ≤ _; split <;> omega
set_option maxHeartbeats 4000000 in
theorem y_st {b kd : Nat → Int} {σ0 σ : RS} {C : CxT} {tn : Nat} {l : List ItZ} {T : TbT} {S U : List Int} {N : Int → Int} {y : Int × Int × Int × Int × Int} {c : Int32} {ok : Prop} {F : RS → Prop} (hJ : JR b kd σ0 σ C tn l T S) (hS : S = iopZ (.inr y) ++ U) (hU : SkP (.inr y :: l) U) (hc : c.toInt = (l.length : Int)) (hb : (l.length : Int) < 2147483647) (hY : YtxR kd σ0 C N tn l y)
    (hst : StR σ c (opT T y.2.2.2.2) ((aI σ0 44 y.2.1.toNat).toInt, (aI σ0 45 y.2.1.toNat).toInt) (mtyT C (mdZ l)) (opT T (swZ y.2.1 l)).1 ok F) : (ok ↔ okS C N T l y) ∧ ∀ τ, ok → F τ → JR b kd σ0 τ C tn (.inr y :: l) T U := by
  have hJ' := hJ
  obtain ⟨⟨hf, h66, hk⟩, ⟨hs1, hs2⟩, ⟨h74, ht⟩, hv, hh, hl, h89, hmn⟩ := hJ'
  obtain ⟨⟨y1, y19⟩, y2, y3, y4, y5, y6, y7, y8, y9, y10⟩ := hY
  have hn : c.toNatClampNeg = l.length := nT_x hc
  have rg := sk_rg hk
  have aa : ∀ k, k < 59 → aI σ k = aI σ0 k := fun k q => hf.2.2.1 k (bj_n (Or.inl q))
  obtain ⟨i1, i2, i3, i4⟩ : itR id σ0 l.length (.inr y) := y1.1
  have o : (aI σ 19 c.toNatClampNeg).toInt = y.1 := by rw [hn, aa 19 (by decide)]; exact i1
  have k : (aI σ 20 c.toNatClampNeg).toInt = y.2.1 := by rw [hn, aa 20 (by decide)]; exact i2
  have d : (aI σ 21 c.toNatClampNeg).toInt = y.2.2.1 := by rw [hn, aa 21 (by decide)]; exact i3
  have t : (aI σ 22 c.toNatClampNeg).toInt = y.2.2.2.1 := by rw [hn, aa 22 (by decide)]; exact i4
  have kn : (aI σ 20 c.toNatClampNeg).toNatClampNeg = y.2.1.toNat := by show (aI σ 20 c.toNatClampNeg).toInt.toNat = _; rw [k]
  have tkn : (aI σ 22 c.toNatClampNeg).toNatClampNeg = y.2.2.2.1.toNat := by show (aI σ 22 c.toNatClampNeg).toInt.toNat = _; rw [t]
  have d0 := i32_kk (k := 0) (K := 0) d rfl
  have d2 := i32_kk (k := 2) (K := 2) d rfl
  have k0 := i32_kk (k := 0) (K := 0) k rfl
  have ss : ∀ a b, sameR σ a b ↔ sameR σ0 a b := fun a b => by
    unfold sameR
    rw [hf.2.2.2 7 (by decide) (by decide) (by decide) (by decide), aa 8 (by decide), aa 5 (by decide)]
  have tkS : tkO y → (gI σ 69 - 1).toInt = (U.length : Int) ∧ TeR σ (gI σ 69 - 1).toNatClampNeg (opT T y.2.2.2.2) := fun z => by
    have e0 := y3.1 z
    have sy : S = y.2.2.2.2 :: U := by rw [hS]; show (if y.2.2.2.2 < 0 then [] else [y.2.2.2.2]) ++ U = _; rw [if_neg (by omega)]; rfl
    have w := hs2 0 y.2.2.2.2 (by rw [sy]; rfl)
    have g := (g69 (k := 1) (m := 1) hs1 rfl (by rw [sy, List.length_cons]; omega))
    have sl : S.length = U.length + 1 := by rw [sy, List.length_cons]
    exact ⟨by rw [g.2, sl]; rfl, w.ix (by omega)⟩
  have rgE : tkO y → y.2.2.2.2 < (xcZ l : Int) := fun z => by
    have e0 := y3.1 z
    have sy : S = y.2.2.2.2 :: U := by rw [hS]; show (if y.2.2.2.2 < 0 then [] else [y.2.2.2.2]) ++ U = _; rw [if_neg (by omega)]; rfl
    exact (rg _ (by rw [sy]; exact List.mem_cons_self)).2
  have ntk : ¬ tkO y → (gI σ 69).toInt = (U.length : Int) := fun z => by
    have e0 := y3.2 z
    have sy : S = U := by rw [hS]; show (if y.2.2.2.2 < 0 then [] else [y.2.2.2.2]) ++ U = _; rw [if_pos e0]; rfl
    rw [hs1, sy]
  have kev : ∀ τ : RS, ¬ (y.1 = 21 ∨ y.1 = 23 ∨ y.1 = 27 ∨ y.1 = 31 ∨ y.1 = 33 ∨ y.1 = 38) → keR τ T l.length y := fun τ z => ⟨fun q => absurd q (by omega), fun q => absurd q (by omega), fun q => absurd q (by omega), fun q => absurd q (by omega)⟩
  have hhD : ∀ τ : RS, aI τ 88 = aI σ 88 → aI τ 59 = aI σ 59 → ¬ y.1 = 37 → ¬ y.1 = 39 → JhR τ T tn (.inr y :: l) := fun τ e1 e2 z1 z2 => hh.t (fun _ _ => rfl) e1 e2 (fun _ => if_neg (fun q => z1 q.1)) (fun _ => if_neg (fun q => z2 q.1)) (Nat.le_refl _)
  have hlD : ∀ τ : RS, gI τ 91 = gI σ 91 → aI τ 90 = aI σ 90 → ¬ y.1 = 41 → ¬ y.1 = 42 → JlR τ (.inr y :: l) := fun τ e1 e2 z1 z2 => hl.t e1 e2 ((if_neg z1).trans (if_neg z2))
  have mdD : ∀ τ : RS, gI τ 89 = gI σ 89 → ¬ y.1 = 54 → (gI τ 89).toInt = (mdZ (.inr y :: l) : Int) := fun τ e z => by
    rw [e, h89]
    show _ = ((if y.1 = 54 then mdZ l + 1 else mdZ l : Nat) : Int)
    rw [if_neg z]
  have hnD : ∀ τ : RS, aI τ 80 = aI σ 80 → ¬ (y.1 = 41 ∨ ((y.1 = 46 ∨ y.1 = 47) ∧ kd y.2.2.2.1.toNat = 1)) → JnR b kd τ T (.inr y :: l) := fun τ e z q => by
    rw [e, meZ, if_neg (fun r => z r.1)]
    exact hmn q
  rcases hst with ⟨hop, rfl, rfl⟩ | ⟨⟨hop, hb0⟩, rfl, rfl⟩ | ⟨⟨hop, hb0⟩, rfl, rfl⟩ | ⟨hop, rfl, rfl⟩ | ⟨⟨hop, hb0⟩, rfl, rfl⟩ | ⟨⟨hop, hb0⟩, rfl, rfl⟩ | ⟨hop, rfl, rfl⟩ | ⟨hop, rfl, rfl⟩ | ⟨hop, rfl, rfl⟩ | ⟨hop, rfl, rfl⟩ | ⟨hop, rfl, rfl⟩ | ⟨hop, rfl, rfl⟩ | ⟨hop, rfl, rfl⟩ | ⟨hop, rfl, rfl⟩ | ⟨hop, rfl, rfl⟩ | ⟨hop, rfl, rfl⟩
  · refine ⟨?_, fun τ hok hF => ?_⟩
    · exact (not_congr k0).trans (ok_0 (by omega)).symm
    · obtain rfl : τ = _ := hF
      have g := (tkS (by unfold tkO; omega))
      exact JR.inr hJ hS hU ((hf.i (by omega)).a rfl) h66 (g.1) ⟨rfl, rfl, rfl⟩ rfl ⟨rfl, rfl, rfl, rfl, rfl⟩ ⟨rfl, rfl⟩ (fun d hd => ⟨upd_ne (by omega), rfl, rfl⟩) y3.1 (⟨fun q => absurd q (by omega), fun q => absurd q (by omega), fun q => absurd q (by omega), fun _ => by show (upd (aI σ 82) c.toNatClampNeg _ l.length).toInt = _; rw [hn, upd_eq]; exact g.2.1⟩) ⟨rfl, rfl⟩ (hhD _ rfl rfl (by omega) (by omega)) (hlD _ rfl rfl (by omega) (by omega)) (mdD _ rfl (by omega)) (hnD _ rfl (by omega))
  · refine ⟨?_, fun τ hok hF => ?_⟩
    · exact ⟨fun _ => ok_x (by omega), fun _ => trivial⟩
    · obtain rfl : τ = σ := hF
      exact JR.inr hJ hS hU (hf) h66 (ntk (by unfold tkO; omega)) ⟨rfl, rfl, rfl⟩ rfl ⟨rfl, rfl, rfl, rfl, rfl⟩ ⟨rfl, rfl⟩ (fun _ _ => ⟨rfl, rfl, rfl⟩) y3.1 (kev _ (by omega)) ⟨rfl, rfl⟩ (hhD _ rfl rfl (by omega) (by omega)) (hlD _ rfl rfl (by omega) (by omega)) (mdD _ rfl (by omega)) (hnD _ rfl (by omega))
  · refine ⟨?_, fun τ hok hF => ?_⟩
    · exact ⟨fun _ => ok_x (by omega), fun _ q => absurd (d0.mpr (by have := (y2 (by omega)).1; have := (not_congr d2).mp hb0; omega)) q⟩
    · obtain rfl : τ = σ := hF.1 (d0.mpr (by have := (y2 (by omega)).1; have := (not_congr d2).mp hb0; omega))
      exact JR.inr hJ hS hU (hf) h66 (ntk (by unfold tkO; omega)) ⟨rfl, rfl, rfl⟩ rfl ⟨rfl, rfl, rfl, rfl, rfl⟩ ⟨rfl, rfl⟩ (fun _ _ => ⟨rfl, rfl, rfl⟩) y3.1 (kev _ (by omega)) ⟨rfl, rfl⟩ (hhD _ rfl rfl (by omega) (by omega)) (hlD _ rfl rfl (by omega) (by omega)) (mdD _ rfl (by omega)) (hnD _ rfl (by omega))
  · refine ⟨?_, fun τ hok hF => ?_⟩
    · exact (ok_1 (by omega)).symm
    · obtain ⟨su, hsu, rfl⟩ := hF
      have g := (tkS (by unfold tkO; omega))
      exact JR.inr hJ hS hU (((hf.i (by omega)).a rfl).m (by omega)) h66 (g.1) ⟨rfl, rfl, rfl⟩ rfl ⟨rfl, rfl, rfl, rfl, rfl⟩ ⟨rfl, rfl⟩ (fun d hd => ⟨rfl, upd_ne (by omega), uL_ne (by omega)⟩) y3.1 (⟨fun _ => ⟨by show ¬ upd (aI σ 84) c.toNatClampNeg su l.length = 0 ↔ _; rw [hn, upd_eq]; exact hsu, fun z => by show vp_updL (aL σ 85) c.toNatClampNeg _ l.length = _; rw [hn, uL_eq]; exact g.2.2.2.1 z⟩, fun q => absurd q (by omega), fun q => absurd q (by omega), fun q => absurd q (by omega)⟩) ⟨rfl, rfl⟩ (hhD _ rfl rfl (by omega) (by omega)) (hlD _ rfl rfl (by omega) (by omega)) (mdD _ rfl (by omega)) (hnD _ rfl (by omega))
  · refine ⟨?_, fun τ hok hF => ?_⟩
    · exact ⟨fun _ => ok_x (by have := d0.mp hb0; omega), fun _ => trivial⟩
    · obtain rfl : τ = _ := hF
      have b0 := d0.mp hb0
      exact JR.inr hJ hS hU ((hf.a rfl).m (by omega)) h66 (ntk (by unfold tkO; omega)) ⟨rfl, rfl, rfl⟩ rfl ⟨rfl, rfl, rfl, rfl, rfl⟩ ⟨rfl, rfl⟩ (fun d hd => ⟨rfl, upd_ne (by omega), uL_ne (by omega)⟩) y3.1 (⟨fun q => absurd q (by omega), fun _ => ⟨by show upd (aI σ 84) c.toNatClampNeg 1 l.length = _; rw [hn, upd_eq], by show vp_updL (aL σ 85) c.toNatClampNeg 1 l.length = _; rw [hn, uL_eq]⟩, fun q => absurd q (by omega), fun q => absurd q (by omega)⟩) ⟨rfl, rfl⟩ (hhD _ rfl rfl (by omega) (by omega)) (hlD _ rfl rfl (by omega) (by omega)) (mdD _ rfl (by omega)) (hnD _ rfl (by omega))
  · refine ⟨?_, fun τ hok hF => ?_⟩
    · exact (ok_1 (by have := (not_congr d0).mp hb0; omega)).symm
    · obtain ⟨su, hsu, rfl⟩ := hF
      have b0 := (not_congr d0).mp hb0
      have g := (tkS (by unfold tkO; omega))
      exact JR.inr hJ hS hU (((((hf.a rfl).m (by omega)).i (by omega)).a rfl).m (by omega)) h66 (g.1) ⟨rfl, rfl, rfl⟩ rfl ⟨rfl, rfl, rfl, rfl, rfl⟩ ⟨rfl, rfl⟩ (fun d hd => ⟨rfl, (upd_ne (by omega)).trans (upd_ne (by omega)), (uL_ne (by omega)).trans (uL_ne (by omega))⟩) y3.1 (⟨fun _ => ⟨by show ¬ upd (upd (aI σ 84) c.toNatClampNeg 1) c.toNatClampNeg su l.length = 0 ↔ _; rw [hn, upd_eq]; exact hsu, fun z => by show vp_updL (vp_updL (aL σ 85) c.toNatClampNeg 1) c.toNatClampNeg _ l.length = _; rw [hn, uL_eq]; exact g.2.2.2.1 z⟩, fun q => absurd q (by omega), fun q => absurd q (by omega), fun q => absurd q (by omega)⟩) ⟨rfl, rfl⟩ (hhD _ rfl rfl (by omega) (by omega)) (hlD _ rfl rfl (by omega) (by omega)) (mdD _ rfl (by omega)) (hnD _ rfl (by omega))
  · refine ⟨?_, fun τ hok hF => ?_⟩
    · exact (ok_2 (by omega)).symm
    · obtain rfl : τ = _ := hF
      have g := (tkS (by unfold tkO; omega))
      have kr := y4 (by omega)
      have e0 := y3.1 (by unfold tkO; omega)
      have er := rgE (by unfold tkO; omega)
      have hok : 1 ≤ (opT T y.2.2.2.2).1 ∧ (opT T y.2.2.2.2).1 ≤ 3 := hok
      refine JR.inr hJ hS hU ((hf.i (by omega)).a rfl) h66 (g.1) ⟨rfl, rfl, rfl⟩ rfl ⟨rfl, rfl, rfl, rfl, rfl⟩ ⟨rfl, rfl⟩ (fun _ _ => ⟨rfl, rfl, rfl⟩) y3.1 (kev _ (by omega)) ⟨rfl, rfl⟩ (?_) (hlD _ rfl rfl (by omega) (by omega)) (mdD _ rfl (by omega)) (hnD _ rfl (by omega))
      intro j hj
      have s0 : swZ j (.inr y :: l) = if y.1 = 37 ∧ y.2.1 = (j : Int) then y.2.2.2.2 else swZ j l := rfl
      have d9 : dfZ j (.inr y :: l) = dfZ j l := if_neg (by omega)
      have z := hh j hj
      rw [s0, d9]
      show (_ → _ ∧ (upd (aI σ 88) (aI σ 20 c.toNatClampNeg).toNatClampNeg _ j).toInt = _ ∧ _) ∧ _
      rw [kn]
      by_cases e : y.2.1 = (j : Int)
      · rw [if_pos ⟨by omega, e⟩, show y.2.1.toNat = j by omega, upd_eq]
        exact ⟨fun _ => ⟨er, g.2.1, hok⟩, z.2⟩
      · rw [if_neg (fun q => e q.2), upd_ne (by omega)]
        exact z
  · refine ⟨?_, fun τ hok hF => ?_⟩
    · have g := (tkS (by unfold tkO; omega))
      refine Iff.trans ?_ (ok_3 (by omega)).symm
      have y5' := y5 (by omega)
      constructor
      · intro ⟨⟨q1, q2⟩, q3⟩
        refine ⟨⟨q1, q2⟩, fun o x hx x1 x2 z => ?_⟩
        have ol := itN_lt hx
        obtain ⟨c1, c2, _, _⟩ : itR id σ0 o (.inr x) := y1.2.ax hx
        have ke := (ht.ke hx).2.2.1 x1
        refine q3 o (by rw [kn, aa 51 (by decide)]; exact y5'.2.2 o x hx x1 x2) (by omega) ⟨?_, ?_, by rw [ke.1]; decide, by rw [ke.2, z, g.2.2.2.1 q1]⟩
        · rw [aa 19 (by decide)]; exact (i32_kk c1 (rfl : (38 : Int32).toInt = 38)).mpr x1
        · exact Int32.toInt_inj.mp ((congrArg Int32.toInt (congrFun (aa 20 (by decide)) o)).trans (c2.trans (x2.trans k.symm)))
      · intro ⟨⟨q1, q2⟩, q3⟩
        refine ⟨⟨q1, q2⟩, fun o _ h2 z => ?_⟩
        obtain ⟨z1, z2, z3, z4⟩ := z
        obtain ⟨x, hx⟩ := itN_ex (l := l) (o := o) (by omega)
        have ir : itR id σ0 o x := y1.2.ax hx
        rw [aa 19 (by decide)] at z1
        cases x with
        | inl x =>
          have w : (aI σ0 19 o).toInt = opkZ x := ir.1
          rw [z1] at w
          have := opk_22 (x := x)
          have : (38 : Int32).toInt = 38 := rfl
          omega
        | inr x =>
          obtain ⟨c1, c2, _, _⟩ := ir
          have x1 : x.1 = 38 := by rw [z1] at c1; exact c1.symm
          have x2 : x.2.1 = y.2.1 := by have w : (aI σ 20 o).toInt = x.2.1 := (congrArg Int32.toInt (congrFun (aa 20 (by decide)) o)).trans c2; rw [z2, k] at w; exact w.symm
          have ke := (ht.ke hx).2.2.1 x1
          exact q3 o x hx x1 x2 (by rw [← ke.2, z4, g.2.2.2.1 q1])
    · obtain rfl : τ = _ := hF
      have g := (tkS (by unfold tkO; omega))
      exact JR.inr hJ hS hU ((((hf.i (by omega)).a rfl).m (by omega)).a rfl) h66 (g.1) ⟨rfl, rfl, rfl⟩ rfl ⟨rfl, rfl, rfl, rfl, rfl⟩ ⟨rfl, rfl⟩ (fun d hd => ⟨rfl, (upd_ne (by omega)).trans (upd_ne (by omega)), uL_ne (by omega)⟩) y3.1 (⟨fun q => absurd q (by omega), fun q => absurd q (by omega), fun _ => ⟨by show upd (upd (aI σ 84) c.toNatClampNeg 0) c.toNatClampNeg 1 l.length = _; rw [hn, upd_eq], by show vp_updL (aL σ 85) c.toNatClampNeg _ l.length = _; rw [hn, uL_eq]; exact g.2.2.2.1 hok.1.1⟩, fun q => absurd q (by omega)⟩) ⟨rfl, rfl⟩ (hhD _ rfl rfl (by omega) (by omega)) (hlD _ rfl rfl (by omega) (by omega)) (mdD _ rfl (by omega)) (hnD _ rfl (by omega))
  · refine ⟨?_, fun τ hok hF => ?_⟩
    · have kr := y4 (by omega)
      have z := (hh y.2.1.toNat (by omega)).2
      rw [show ((y.2.1.toNat : Nat) : Int) = y.2.1 by omega] at z
      refine Iff.trans ?_ (ok_4 (by omega)).symm
      show aI σ 59 (aI σ 20 c.toNatClampNeg).toNatClampNeg < 0 ↔ _
      rw [kn, ← z]
      exact Int32.lt_iff_toInt_lt
    · obtain rfl : τ = _ := hF
      have kr := y4 (by omega)
      refine JR.inr hJ hS hU (hf.a rfl) h66 (ntk (by unfold tkO; omega)) ⟨rfl, rfl, rfl⟩ rfl ⟨rfl, rfl, rfl, rfl, rfl⟩ ⟨rfl, rfl⟩ (fun _ _ => ⟨rfl, rfl, rfl⟩) y3.1 (kev _ (by omega)) ⟨rfl, rfl⟩ (?_) (hlD _ rfl rfl (by omega) (by omega)) (mdD _ rfl (by omega)) (hnD _ rfl (by omega))
      intro j hj
      have s0 : swZ j (.inr y :: l) = swZ j l := if_neg (by omega)
      have d9 : dfZ j (.inr y :: l) = if y.1 = 39 ∧ y.2.1 = (j : Int) then (l.length : Int) else dfZ j l := rfl
      have z := hh j hj
      rw [s0, d9]
      refine ⟨z.1, ?_⟩
      show (upd (aI σ 59) (aI σ 20 c.toNatClampNeg).toNatClampNeg c j).toInt = _
      rw [kn]
      by_cases e : y.2.1 = (j : Int)
      · rw [if_pos ⟨by omega, e⟩, show y.2.1.toNat = j by omega, upd_eq]
        exact hc
      · rw [if_neg (fun q => e q.2), upd_ne (by omega)]
        exact z.2
  · refine ⟨?_, fun τ hok hF => ?_⟩
    · refine Iff.trans ?_ (ok_5 (by omega)).symm
      have t0 := y8 (by omega)
      constructor
      · intro q p hp z
        obtain ⟨j, hj, rfl⟩ := List.mem_iff_getElem.mp hp
        have a := hl.2 j (lbZ l)[j] (List.getElem?_eq_getElem hj)
        have y6' := y6 (by omega) (lbZ l)[j] hp
        have i0 : (Int32.ofInt (((lbZ l).length - 1 - j : Nat) : Int)).toInt = (((lbZ l).length - 1 - j : Nat) : Int) := Int32.toInt_ofInt_of_le (by omega) (by have := (gI σ 91).toInt_lt; have := hl.1; omega)
        have i1 : (Int32.ofInt (((lbZ l).length - 1 - j : Nat) : Int)).toNatClampNeg = (lbZ l).length - 1 - j := nT_x i0
        refine q (Int32.ofInt (((lbZ l).length - 1 - j : Nat) : Int)) (by omega) (by have := hl.1; omega) ?_
        rw [i1, show (aI σ 90 ((lbZ l).length - 1 - j)).toNatClampNeg = (lbZ l)[j].1.toNat by show (aI σ 90 _).toInt.toNat = _; rw [a], tkn, ss, hf.2.2.1 60 (bj_n (by omega))]
        exact y6'.2.mpr z
      · intro q i h1 h2 z
        have ll := hl.1
        have jl : (lbZ l).length - 1 - i.toInt.toNat < (lbZ l).length := by omega
        have a := hl.2 _ (lbZ l)[(lbZ l).length - 1 - i.toInt.toNat] (List.getElem?_eq_getElem jl)
        have hp : (lbZ l)[(lbZ l).length - 1 - i.toInt.toNat] ∈ lbZ l := List.getElem_mem jl
        rw [show (lbZ l).length - 1 - ((lbZ l).length - 1 - i.toInt.toNat) = i.toNatClampNeg by show _ = i.toInt.toNat; omega] at a
        rw [show (aI σ 90 i.toNatClampNeg).toNatClampNeg = (lbZ l)[(lbZ l).length - 1 - i.toInt.toNat].1.toNat by show (aI σ 90 _).toInt.toNat = _; rw [a], tkn, ss, hf.2.2.1 60 (bj_n (by omega))] at z
        exact q _ hp ((y6 (by omega) _ hp).2.mp z)
    · obtain rfl : τ = _ := hF
      have l41 : lbZ (.inr y :: l) = (y.2.1, y.2.2.2.1) :: lbZ l := if_pos (by omega)
      have n91 : (gI σ 91).toNatClampNeg = (lbZ l).length := nT_x hl.1
      have ll := lb_len (l := l)
      refine JR.inr hJ hS hU (((hf.a rfl).a rfl).i (by omega)) h66 (ntk (by unfold tkO; omega)) ⟨rfl, rfl, rfl⟩ rfl ⟨rfl, rfl, rfl, rfl, rfl⟩ ⟨rfl, rfl⟩ (fun _ _ => ⟨rfl, rfl, rfl⟩) y3.1 (kev _ (by omega)) ⟨rfl, rfl⟩ (hhD _ rfl rfl (by omega) (by omega)) (?_) (mdD _ rfl (by omega)) (fun q => by
        show (upd (aI σ 80) (aI σ 22 c.toNatClampNeg).toNatClampNeg 200 q).toInt = meZ b kd T (.inr y :: l) q
        rw [meZ, tkn]
        have t0 := y8 (by omega)
        by_cases e : (q : Int) = y.2.2.2.1
        · rw [if_pos ⟨Or.inl (by omega), e⟩, show y.2.2.2.1.toNat = q by omega, upd_eq]
          rfl
        · rw [if_neg (fun r => e r.2), upd_ne (by omega)]
          exact hmn q)
      refine ⟨?_, fun i p hp => ?_⟩
      · rw [l41]
        exact (g69p (k := 1) (m := 1) hl.1 rfl (by omega)).2
      · rw [l41] at hp ⊢
        show (upd (aI σ 90) (gI σ 91).toNatClampNeg (aI σ 20 c.toNatClampNeg) (((y.2.1, y.2.2.2.1) :: lbZ l).length - 1 - i)).toInt = p.1
        rw [n91, List.length_cons]
        cases i with
        | zero =>
          have hp : p = (y.2.1, y.2.2.2.1) := by simpa using hp.symm
          rw [show (lbZ l).length + 1 - 1 - 0 = (lbZ l).length by omega, upd_eq, hp]
          exact k
        | succ i =>
          have hp : (lbZ l)[i]? = some p := by simpa using hp
          have il := (List.getElem?_eq_some_iff.mp hp).1
          rw [show (lbZ l).length + 1 - 1 - (i + 1) = (lbZ l).length - 1 - i by omega, upd_ne (by omega)]
          exact hl.2 i p hp
  · refine ⟨?_, fun τ hok hF => ?_⟩
    · exact ⟨fun _ => ok_x (by omega), fun _ => trivial⟩
    · obtain rfl : τ = _ := hF
      have l42 : lbZ (.inr y :: l) = (lbZ l).tail := (if_neg (by omega)).trans (if_pos (by omega))
      obtain ⟨p0, L, hL⟩ : ∃ p0 L, lbZ l = p0 :: L := List.exists_cons_of_ne_nil (y7 (by omega))
      refine JR.inr hJ hS hU (hf.i (by omega)) h66 (ntk (by unfold tkO; omega)) ⟨rfl, rfl, rfl⟩ rfl ⟨rfl, rfl, rfl, rfl, rfl⟩ ⟨rfl, rfl⟩ (fun _ _ => ⟨rfl, rfl, rfl⟩) y3.1 (kev _ (by omega)) ⟨rfl, rfl⟩ (hhD _ rfl rfl (by omega) (by omega)) (?_) (mdD _ rfl (by omega)) (hnD _ rfl (by omega))
      unfold JlR
      rw [l42, hL]
      have h1 := hl.1
      rw [hL, List.length_cons] at h1
      refine ⟨?_, fun i p hp => ?_⟩
      · exact (g69 (k := 1) (m := 1) h1 rfl (by omega)).2
      · have hp : L[i]? = some p := hp
        have z := hl.2 (i + 1) p (by rw [hL]; exact hp)
        rw [hL, List.length_cons, show L.length + 1 - 1 - (i + 1) = L.length - 1 - i by omega] at z
        exact z
  · refine ⟨?_, fun τ hok hF => ?_⟩
    · refine Iff.trans ?_ (ok_6 (by omega)).symm
      show (0 : Int32) ≤ aI σ 20 c.toNatClampNeg ↔ _
      rw [← k]
      exact Int32.le_iff_toInt_le
    · have t0 := y8 (by omega)
      have k3 : aI σ 3 (aI σ 22 c.toNatClampNeg).toNatClampNeg = 1 ↔ kd y.2.2.2.1.toNat = 1 := by
        rw [tkn, aa 3 (by decide), y10]
        exact i32_kk rfl rfl
      by_cases z : aI σ 3 (aI σ 22 c.toNatClampNeg).toNatClampNeg = 1
      · obtain rfl : τ = _ := hF.1 z
        exact JR.inr hJ hS hU (hf.a rfl) h66 (ntk (by unfold tkO; omega)) ⟨rfl, rfl, rfl⟩ rfl ⟨rfl, rfl, rfl, rfl, rfl⟩ ⟨rfl, rfl⟩ (fun _ _ => ⟨rfl, rfl, rfl⟩) y3.1 (kev _ (by omega)) ⟨rfl, rfl⟩ (hhD _ rfl rfl (by omega) (by omega)) (hlD _ rfl rfl (by omega) (by omega)) (mdD _ rfl (by omega)) (fun q => by
            show (upd (aI σ 80) (aI σ 22 c.toNatClampNeg).toNatClampNeg 200 q).toInt = meZ b kd T (.inr y :: l) q
            rw [meZ, tkn]
            have t0 := y8 (by omega)
            by_cases e : (q : Int) = y.2.2.2.1
            · rw [if_pos ⟨Or.inr ⟨by omega, k3.mp z⟩, e⟩, show y.2.2.2.1.toNat = q by omega, upd_eq]
              rfl
            · rw [if_neg (fun r => e r.2), upd_ne (by omega)]
              exact hmn q)
      · obtain rfl : τ = σ := hF.2 z
        exact JR.inr hJ hS hU (hf) h66 (ntk (by unfold tkO; omega)) ⟨rfl, rfl, rfl⟩ rfl ⟨rfl, rfl, rfl, rfl, rfl⟩ ⟨rfl, rfl⟩ (fun _ _ => ⟨rfl, rfl, rfl⟩) y3.1 (kev _ (by omega)) ⟨rfl, rfl⟩ (hhD _ rfl rfl (by omega) (by omega)) (hlD _ rfl rfl (by omega) (by omega)) (mdD _ rfl (by omega)) (hnD _ rfl (by have := (not_congr k3).mp z; omega))
  · refine ⟨?_, fun τ hok hF => ?_⟩
    · refine Iff.trans ?_ (ok_7 (by omega)).symm
      show (aI σ 20 c.toNatClampNeg = 0 → _) ∧ (¬ aI σ 20 c.toNatClampNeg = 0 → _) ↔ _
      rw [k0]
    · by_cases z : aI σ 20 c.toNatClampNeg = 0
      · obtain rfl : τ = σ := hF.1 z
        have z2 := k0.mp z
        exact JR.inr hJ hS hU (hf) h66 (ntk (by unfold tkO; omega)) ⟨rfl, rfl, rfl⟩ rfl ⟨rfl, rfl, rfl, rfl, rfl⟩ ⟨rfl, rfl⟩ (fun _ _ => ⟨rfl, rfl, rfl⟩) y3.1 (kev _ (by omega)) ⟨rfl, rfl⟩ (hhD _ rfl rfl (by omega) (by omega)) (hlD _ rfl rfl (by omega) (by omega)) (mdD _ rfl (by omega)) (hnD _ rfl (by omega))
      · obtain rfl : τ = _ := hF.2 z
        have z2 := (not_congr k0).mp z
        have g := (tkS (by unfold tkO; omega))
        exact JR.inr hJ hS hU (hf.i (by omega)) h66 (g.1) ⟨rfl, rfl, rfl⟩ rfl ⟨rfl, rfl, rfl, rfl, rfl⟩ ⟨rfl, rfl⟩ (fun _ _ => ⟨rfl, rfl, rfl⟩) y3.1 (kev _ (by omega)) ⟨rfl, rfl⟩ (hhD _ rfl rfl (by omega) (by omega)) (hlD _ rfl rfl (by omega) (by omega)) (mdD _ rfl (by omega)) (hnD _ rfl (by omega))
  · refine ⟨?_, fun τ hok hF => ?_⟩
    · exact (ok_8 (by omega)).symm
    · obtain rfl : τ = _ := hF
      have g := (tkS (by unfold tkO; omega))
      exact JR.inr hJ hS hU (hf.i (by omega)) h66 (g.1) ⟨rfl, rfl, rfl⟩ rfl ⟨rfl, rfl, rfl, rfl, rfl⟩ ⟨rfl, rfl⟩ (fun _ _ => ⟨rfl, rfl, rfl⟩) y3.1 (kev _ (by omega)) ⟨rfl, rfl⟩ (hhD _ rfl rfl (by omega) (by omega)) (hlD _ rfl rfl (by omega) (by omega)) (mdD _ rfl (by omega)) (hnD _ rfl (by omega))
  · refine ⟨?_, fun τ hok hF => ?_⟩
    · exact ⟨fun _ => ok_x (by omega), fun _ => trivial⟩
    · obtain rfl : τ = _ := hF
      have ml := md_len (l := l)
      refine JR.inr hJ hS hU (hf.i (by omega)) h66 (ntk (by unfold tkO; omega)) ⟨rfl, rfl, rfl⟩ rfl ⟨rfl, rfl, rfl, rfl, rfl⟩ ⟨rfl, rfl⟩ (fun _ _ => ⟨rfl, rfl, rfl⟩) y3.1 (kev _ (by omega)) ⟨rfl, rfl⟩ (hhD _ rfl rfl (by omega) (by omega)) (hlD _ rfl rfl (by omega) (by omega)) (?_) (hnD _ rfl (by omega))
      show (gI σ 89 + 1).toInt = ((if y.1 = 54 then mdZ l + 1 else mdZ l : Nat) : Int)
      rw [if_pos (by omega)]
      exact (g69p (k := 1) (m := 1) h89 rfl (by omega)).2
  · refine ⟨?_, fun τ hok hF => ?_⟩
    · exact ⟨fun _ => ok_x (by omega), fun _ => trivial⟩
    · obtain rfl : τ = σ := hF
      exact JR.inr hJ hS hU (hf) h66 (ntk (by unfold tkO; omega)) ⟨rfl, rfl, rfl⟩ rfl ⟨rfl, rfl, rfl, rfl, rfl⟩ ⟨rfl, rfl⟩ (fun _ _ => ⟨rfl, rfl, rfl⟩) y3.1 (kev _ (by omega)) ⟨rfl, rfl⟩ (hhD _ rfl rfl (by omega) (by omega)) (hlD _ rfl rfl (by omega) (by omega)) (mdD _ rfl (by omega)) (hnD _ rfl (by omega))

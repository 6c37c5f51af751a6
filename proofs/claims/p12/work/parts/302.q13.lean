/-! S's: what is put into them -/
/-- fields of one S alone have changed -/
def SfE (o : Nat) (σ τ : CsC) : Prop := (∀ a k, (a ≠ o ∨ ¬ (270 ≤ k ∧ k ≤ 290)) → fIC τ a k = fIC σ a k ∧ fLC τ a k = fLC σ a k ∧ fRC τ a k = fRC σ a k) ∧ (eIC τ = eIC σ ∧ eLC τ = eLC σ ∧ eRC τ = eRC σ) ∧ cnC τ = cnC σ
theorem SfE.pR {o k : Nat} {v : Option Nat} {σ : CsC} (h : 270 ≤ k ∧ k ≤ 290) : SfE o σ (pRC σ o k v) := ⟨fun a j hj => ⟨rfl, rfl, fR_pR (hj.elim (fun q => Or.inr q) (fun q => Or.inl (fun e => q (e ▸ h))))⟩, ⟨rfl, rfl, rfl⟩, rfl⟩
theorem SfE.pI {o k : Nat} {v : Int32} {σ : CsC} (h : 270 ≤ k ∧ k ≤ 290) : SfE o σ (pIC σ o k v) := ⟨fun a j hj => ⟨fI_pI (hj.elim (fun q => Or.inr q) (fun q => Or.inl (fun e => q (e ▸ h)))), rfl, rfl⟩, ⟨rfl, rfl, rfl⟩, rfl⟩
theorem seM_e {j : Nat} {f : SrZ → SrZ} {z : ZS} : reS (seM j f z) j = f (reS z j) := if_pos rfl
theorem seM_n {j i : Nat} {f : SrZ → SrZ} {z : ZS} (h : i ≠ j) : reS (seM j f z) i = reS z i := if_neg h
theorem ZC.se {N : Int → Int} {E A B V : Nat → Nat} {σ τ : CsC} {z : ZS} {j o : Nat} {f : SrZ → SrZ} (h : ZC N E A B V σ z) (hj : j < snM z) (hb : B j = o) (F : SfE o σ τ) (hs : SoC A B τ (f (reS z j)) o) (ho : oprS (f (reS z j)) (xnM z) (snM z)) : ZC N E A B V τ (seM j f z) := by
  subst hb
  obtain ⟨h1, ⟨⟨h2, h3⟩, h4, h5, h6⟩, ⟨h7, h8⟩, ⟨l1, l2, l3, l4⟩, ⟨x1, x2⟩, ⟨s1, s2⟩, v1, v2, v3⟩ := h
  obtain ⟨f1, ⟨f2, f3, f4⟩, f5⟩ := F
  have hc : cnC σ ≤ cnC τ := Nat.le_of_eq f5.symm
  have ff : ∀ a k, ¬ (270 ≤ k ∧ k ≤ 290) → fIC τ a k = fIC σ a k ∧ fLC τ a k = fLC σ a k ∧ fRC τ a k = fRC σ a k := fun a k hk => f1 a k (Or.inr hk)
  refine ⟨h1.cg (fun a k _ hk => (ff a k (by omega)).2.2) hc, ⟨⟨?_, ?_⟩, ?_, ?_, h6⟩, ⟨fun j => ?_, fun j => ?_⟩, ⟨l1.cg (ff _ 1 (by decide)).2.2 f4 (ff _ 2 (by decide)).1 hc, l2.cg (ff _ 1 (by decide)).2.2 f4 (ff _ 2 (by decide)).1 hc, l3.cg (ff _ 1 (by decide)).2.2 f4 (ff _ 2 (by decide)).1 hc, ?_⟩, ⟨fun i hi => ⟨(x1 i hi).1.cg (fun k hk => ff _ k (by omega)), (x1 i hi).2⟩, fun i hi => ⟨(x2 i hi).1, ChC.cg (fun a ha => (ff _ 75 (by decide)).2.2) (x2 i hi).2⟩⟩, ⟨fun i hi => ?_, s2⟩, fun v hv => (v1 v hv).cg (fun k hk => (ff _ k (by omega)).1), v2, v3⟩
  · rw [(ff _ 242 (by decide)).1]; exact h2
  · rw [(ff _ 243 (by decide)).1]; exact h3
  · rw [(ff _ 245 (by decide)).2.1]; exact h4
  · rw [(ff _ 246 (by decide)).2.2]; exact h5
  · rw [f2]; exact h7 j
  · rw [f3]; exact h8 j
  · exact l4.cg (ff _ 1 (by decide)).2.2 f4 (ff _ 2 (by decide)).1 hc
  · by_cases c : i = j
    · subst c
      rw [seM_e]
      exact ⟨hs, ho⟩
    · rw [seM_n c]
      have hi : i < snM z := hi
      have hn : B i ≠ B j := fun e => by
        rcases Nat.lt_or_gt_of_ne c with q | q
        · have := s2 i j q hj
          omega
        · have := s2 j i q hi
          omega
      exact ⟨(s1 i hi).1.cg (fun k _ => f1 _ k (Or.inl hn)), (s1 i hi).2⟩
theorem FzC.se {n m : Nat} {E A A' B B' V V' : Nat → Nat} {y z : ZS} {σ τ υ : CsC} {j o : Nat} {f : SrZ → SrZ} (h : FzC n m E A A' B B' V V' y z σ τ) (hn : n ≤ o) (F : SfE o τ υ) (hk : ∀ x, (f x).1 = x.1 ∧ (f x).2.1 = x.2.1) : FzC n m E A A' B B' V V' y (seM j f z) σ υ := by
  obtain ⟨p1, p2, p3, ⟨⟨p4, p5⟩, p6⟩, p7, p8, p9⟩ := h
  obtain ⟨f1, ⟨f2, f3, f4⟩, f5⟩ := F
  have e : ∀ i, (reS (seM j f z) i).1 = (reS z i).1 ∧ (reS (seM j f z) i).2.1 = (reS z i).2.1 := fun i => by
    by_cases c : i = j
    · subst c
      rw [seM_e]
      exact hk _
    · rw [seM_n c]
      exact ⟨rfl, rfl⟩
  refine ⟨by rw [f5]; exact p1, fun a ha k hk => ?_, p3, ⟨⟨p4, fun i hi => ⟨(p5 i hi).1, (e i).1.trans (p5 i hi).2.1, (e i).2.trans (p5 i hi).2.2⟩⟩, p6⟩, p7, p8, fun i hi => by rw [f2]; exact p9 i hi⟩
  have q := f1 a k (Or.inl (by omega))
  have r := p2 a ha k hk
  exact ⟨q.1.trans r.1, q.2.1.trans r.2.1, q.2.2.trans r.2.2⟩
theorem beM_e {k lv : Int} {z : ZS} : reS (beM k lv z) (snM z) = beX k lv z := if_pos rfl
/-- codes are no matter of the class -/
theorem ZC.co {N : Int → Int} {E A B V : Nat → Nat} {σ : CsC} {z : ZS} {c : Int × Int × Int × Int × Int} (h : ZC N E A B V σ z) : ZC N E A B V σ (z.1, .inr c :: z.2.1, z.2.2) := h
theorem ZC.th {N : Int → Int} {E A B V : Nat → Nat} {σ : CsC} {z : ZS} (h : ZC N E A B V σ z) : ZC N E A B V σ (thM z) := h
theorem FzC.co {n m : Nat} {E A A' B B' V V' : Nat → Nat} {y z : ZS} {σ τ : CsC} {c : Int × Int × Int × Int × Int} (h : FzC n m E A A' B B' V V' y z σ τ) : FzC n m E A A' B B' V V' y (z.1, .inr c :: z.2.1, z.2.2) σ τ := h
theorem FzC.th {n m : Nat} {E A A' B B' V V' : Nat → Nat} {y z : ZS} {σ τ : CsC} (h : FzC n m E A A' B B' V V' y z σ τ) : FzC n m E A A' B B' V V' y (thM z) σ τ := h
/-- the S around -/
theorem ZC.ar {N : Int → Int} {E A B V : Nat → Nat} {σ : CsC} {z : ZS} {j : Int} {w : Option Nat} (h : ZC N E A B V σ z) (hw : w = opA B j) (hj : j < (snM z : Int)) : ZC N E A B V (pRC σ (E 0) 246 w) (arM j z) := by
  obtain ⟨h1, ⟨⟨h2, h3⟩, h4, h5, h6⟩, ⟨h7, h8⟩, ⟨l1, l2, l3, l4⟩, ⟨x1, x2⟩, ⟨s1, s2⟩, v1, v2, v3⟩ := h
  have fr : ∀ a k, k ≠ 246 → fRC (pRC σ (E 0) 246 w) a k = fRC σ a k := fun a k hk => u2C_nk hk
  exact ⟨h1.cg (fun a k _ hk => fr a k (by omega)) (Nat.le_refl _), ⟨⟨h2, h3⟩, h4, pR_e.trans hw, hj⟩, ⟨h7, h8⟩, ⟨l1.cg (fr _ 1 (by decide)) rfl rfl (Nat.le_refl _), l2.cg (fr _ 1 (by decide)) rfl rfl (Nat.le_refl _), l3.cg (fr _ 1 (by decide)) rfl rfl (Nat.le_refl _), l4.cg (fr _ 1 (by decide)) rfl rfl (Nat.le_refl _)⟩, ⟨fun i hi => ⟨(x1 i hi).1.cg (fun k hk => ⟨rfl, rfl, fr _ k (by omega)⟩), (x1 i hi).2⟩, fun i hi => ⟨(x2 i hi).1, ChC.cg (fun a _ => fr _ 75 (by decide)) (x2 i hi).2⟩⟩, ⟨fun j hj => ⟨(s1 j hj).1.cg (fun k hk => ⟨rfl, rfl, fr _ k (by omega)⟩), (s1 j hj).2⟩, s2⟩, v1, v2, v3⟩
theorem FzC.ar {n m : Nat} {E A A' B B' V V' : Nat → Nat} {y z : ZS} {σ τ : CsC} {j : Int} {w : Option Nat} (h : FzC n m E A A' B B' V V' y z σ τ) : FzC n m E A A' B B' V V' y (arM j z) σ (pRC τ (E 0) 246 w) := by
  obtain ⟨p1, p2, p3, p6, p7, p8⟩ := h
  exact ⟨p1, fun o ho k hk => ⟨(p2 o ho k hk).1, (p2 o ho k hk).2.1, (u2C_nk (fun q => by rw [q] at hk; cases hk)).trans (p2 o ho k hk).2.2⟩, p3, p6, p7, p8⟩
theorem ZC.s275 {N : Int → Int} {E A B V : Nat → Nat} {σ : CsC} {z : ZS} {j o : Nat} {v : Int} {w : Option Nat} (h : ZC N E A B V σ z) (hj : j < snM z) (hb : B j = o) (hw : w = opA B v) (hv : v < (snM z : Int)) : ZC N E A B V (pRC σ o 275 w) (seM j (sNx v) z) := by
  obtain ⟨a, b⟩ := h.2.2.2.2.2.1.1 j hj
  rw [hb] at a
  exact h.se hj hb (SfE.pR (by decide)) ⟨⟨a.1.1, a.1.2.1, a.1.2.2.1, (pR_n (by decide)).trans a.1.2.2.2⟩, a.2.1, ⟨pR_e.trans hw, (pR_n (by decide)).trans a.2.2.1.2.1, (pR_n (by decide)).trans a.2.2.1.2.2.1, (pR_n (by decide)).trans a.2.2.1.2.2.2.1, (pR_n (by decide)).trans a.2.2.1.2.2.2.2.1, a.2.2.1.2.2.2.2.2⟩, (pR_n (by decide)).trans a.2.2.2.1, a.2.2.2.2⟩ ⟨b.1, b.2.1, hv, b.2.2.2.1, b.2.2.2.2.1, b.2.2.2.2.2⟩
theorem ZC.s276 {N : Int → Int} {E A B V : Nat → Nat} {σ : CsC} {z : ZS} {j o : Nat} {v : Int} {w : Option Nat} (h : ZC N E A B V σ z) (hj : j < snM z) (hb : B j = o) (hw : w = opA B v) (hv : v < (snM z : Int)) : ZC N E A B V (pRC σ o 276 w) (seM j (sBd v) z) := by
  obtain ⟨a, b⟩ := h.2.2.2.2.2.1.1 j hj
  rw [hb] at a
  exact h.se hj hb (SfE.pR (by decide)) ⟨⟨a.1.1, a.1.2.1, a.1.2.2.1, (pR_n (by decide)).trans a.1.2.2.2⟩, a.2.1, ⟨(pR_n (by decide)).trans a.2.2.1.1, pR_e.trans hw, (pR_n (by decide)).trans a.2.2.1.2.2.1, (pR_n (by decide)).trans a.2.2.1.2.2.2.1, (pR_n (by decide)).trans a.2.2.1.2.2.2.2.1, a.2.2.1.2.2.2.2.2⟩, (pR_n (by decide)).trans a.2.2.2.1, a.2.2.2.2⟩ ⟨b.1, b.2.1, b.2.2.1, hv, b.2.2.2.2.1, b.2.2.2.2.2⟩
theorem ZC.s277 {N : Int → Int} {E A B V : Nat → Nat} {σ : CsC} {z : ZS} {j o : Nat} {v : Int} {w : Option Nat} (h : ZC N E A B V σ z) (hj : j < snM z) (hb : B j = o) (hw : w = opA B v) (hv : v < (snM z : Int)) : ZC N E A B V (pRC σ o 277 w) (seM j (sOt v) z) := by
  obtain ⟨a, b⟩ := h.2.2.2.2.2.1.1 j hj
  rw [hb] at a
  exact h.se hj hb (SfE.pR (by decide)) ⟨⟨a.1.1, a.1.2.1, a.1.2.2.1, (pR_n (by decide)).trans a.1.2.2.2⟩, a.2.1, ⟨(pR_n (by decide)).trans a.2.2.1.1, (pR_n (by decide)).trans a.2.2.1.2.1, pR_e.trans hw, (pR_n (by decide)).trans a.2.2.1.2.2.2.1, (pR_n (by decide)).trans a.2.2.1.2.2.2.2.1, a.2.2.1.2.2.2.2.2⟩, (pR_n (by decide)).trans a.2.2.2.1, a.2.2.2.2⟩ ⟨b.1, b.2.1, b.2.2.1, b.2.2.2.1, hv, b.2.2.2.2.2⟩
theorem ZC.s278 {N : Int → Int} {E A B V : Nat → Nat} {σ : CsC} {z : ZS} {j o : Nat} {v : Int} {w : Option Nat} (h : ZC N E A B V σ z) (hj : j < snM z) (hb : B j = o) (hw : w = opA B v) (hv : v < (snM z : Int)) : ZC N E A B V (pRC σ o 278 w) (seM j (sLs v) z) := by
  obtain ⟨a, b⟩ := h.2.2.2.2.2.1.1 j hj
  rw [hb] at a
  exact h.se hj hb (SfE.pR (by decide)) ⟨⟨a.1.1, a.1.2.1, a.1.2.2.1, (pR_n (by decide)).trans a.1.2.2.2⟩, a.2.1, ⟨(pR_n (by decide)).trans a.2.2.1.1, (pR_n (by decide)).trans a.2.2.1.2.1, (pR_n (by decide)).trans a.2.2.1.2.2.1, pR_e.trans hw, (pR_n (by decide)).trans a.2.2.1.2.2.2.2.1, a.2.2.1.2.2.2.2.2⟩, (pR_n (by decide)).trans a.2.2.2.1, a.2.2.2.2⟩ ⟨b.1, b.2.1, b.2.2.1, b.2.2.2.1, b.2.2.2.2.1, hv⟩
theorem ZC.s279 {N : Int → Int} {E A B V : Nat → Nat} {σ : CsC} {z : ZS} {j o : Nat} {v : Int} {w : Option Nat} (h : ZC N E A B V σ z) (hj : j < snM z) (hb : B j = o) (hw : w = opA A v) (hv : v < (xnM z : Int)) : ZC N E A B V (pRC σ o 279 w) (seM j (sEx v) z) := by
  obtain ⟨a, b⟩ := h.2.2.2.2.2.1.1 j hj
  rw [hb] at a
  exact h.se hj hb (SfE.pR (by decide)) ⟨⟨a.1.1, a.1.2.1, a.1.2.2.1, (pR_n (by decide)).trans a.1.2.2.2⟩, a.2.1, ⟨(pR_n (by decide)).trans a.2.2.1.1, (pR_n (by decide)).trans a.2.2.1.2.1, (pR_n (by decide)).trans a.2.2.1.2.2.1, (pR_n (by decide)).trans a.2.2.1.2.2.2.1, pR_e.trans hw, a.2.2.1.2.2.2.2.2⟩, (pR_n (by decide)).trans a.2.2.2.1, a.2.2.2.2⟩ ⟨hv, b.2.1, b.2.2.1, b.2.2.2.1, b.2.2.2.2.1, b.2.2.2.2.2⟩
theorem ZC.s280 {N : Int → Int} {E A B V : Nat → Nat} {σ : CsC} {z : ZS} {j o : Nat} {v : Int} {w : Int32} (h : ZC N E A B V σ z) (hj : j < snM z) (hb : B j = o) (hw : w.toInt = v) : ZC N E A B V (pIC σ o 280 w) (seM j (sLk v) z) := by
  obtain ⟨a, b⟩ := h.2.2.2.2.2.1.1 j hj
  rw [hb] at a
  exact h.se hj hb (SfE.pI (by decide)) ⟨⟨(by rw [pI_n (by decide)]; exact a.1.1), (by rw [pI_n (by decide)]; exact a.1.2.1), (by rw [pI_n (by decide)]; exact a.1.2.2.1), a.1.2.2.2⟩, a.2.1, ⟨a.2.2.1.1, a.2.2.1.2.1, a.2.2.1.2.2.1, a.2.2.1.2.2.2.1, a.2.2.1.2.2.2.2.1, by rw [pI_e]; exact hw⟩, a.2.2.2.1, ⟨(by rw [pI_n (by decide)]; exact a.2.2.2.2.1.1), (by rw [pI_n (by decide)]; exact a.2.2.2.2.1.2.1), (by rw [pI_n (by decide)]; exact a.2.2.2.2.1.2.2)⟩, a.2.2.2.2.2⟩ b
abbrev SeQ (N : Int → Int) (E A B V : Nat → Nat) (z z' : ZS) (σ : CsC) (w : Option AvC) (τ : CsC) : Prop := ∃ A' B' V' : Nat → Nat, w = some (.inr (.inr (some (B' (snM z))))) ∧ ZC N E A' B' V' τ z' ∧ FzC (cnC σ) (xnM z) E A A' B B' V V' z z' σ τ ∧ snM z < snM z'
abbrev Pz_readExpStatement : ((Int → Int) × (Nat → Nat) × (Nat → Nat) × (Nat → Nat) × (Nat → Nat) × ZS × Nat) → CpC := fun y As σ => match y with
  | (N, E, A, B, V, z, n) => ∃ (p1 : Int32), As = [.inr (.inr (some (E 0))), .inl p1] ∧ (ZC N E A B V σ z) ∧ (p1.toInt + (n : Int) = 21) ∧ (1 ≤ n) ∧ (zFt (xsM N n z).1 = 0)
abbrev Qz_readExpStatement : ((Int → Int) × (Nat → Nat) × (Nat → Nat) × (Nat → Nat) × (Nat → Nat) × ZS × Nat) → CqC := fun y As σ w τ => match y, As with
  | (N, E, A, B, V, z, n), [_, .inl p1] => SeQ N E A B V z (xsM N n z) σ w τ
  | _, _ => True
abbrev Uz_readExpStatement : CqC := fun As σ w τ => ∀ y, Pz_readExpStatement y As σ → Qz_readExpStatement y As σ w τ
set_option maxHeartbeats 4000000 in
theorem pz_readExpStatement (y : (Int → Int) × (Nat → Nat) × (Nat → Nat) × (Nat → Nat) × (Nat → Nat) × ZS × Nat) : PbC KX7_readExpStatement [(142, TrP, EqC 142), (164, TrP, EqC 164), (129, TrP, EqC 129)] [(142, Uz_begin), (164, Uz_readExp), (129, Uz_expect)] (fun As σ => Pz_readExpStatement y As σ ∧ cnC σ ≤ 1000000 ∧ ∃ w τ, uqC quL 152 As σ w τ) (Qz_readExpStatement y) := by
  obtain ⟨N, E, A, B, V, z, n⟩ := y
  rintro As σ ⟨⟨p1, rfl, hZ, hd, hn, hft⟩, hcn, _, _, hQ⟩ K hB hW n_
  have hH : HI0 σ ∧ TyC σ (E 0) 8 := hQ
  have hat := hZ.at0 hH
  have hz1 : zFt (eM N n (bgM 90 n z)).1 = 0 := GpY.z (gd_xp (c := 4) _) hft
  change K n_ 0 [(0, .inr (.inr (some (E 0)))), (1, .inl p1)] [] σ
  refine hB _ _ _ _ _ (fun m51 hm51 => ?_)
  dsimp only [ucgo, ucwp, ucsC, uqC, uoC, ctC, rfd, KX7_readExpStatement, KX7_readExpStatement_0, lkC, s1C, s2C, dlC, kyC, Nat.beq, Nat.ble, rcd, rno, rsw, Nat.reduceAdd, Nat.reduceBEq, Nat.reduceDiv, List.drop, List.take, List.reverse, List.reverseAux, Int.toNat, Option.toList, List.append, List.cons_append, List.nil_append]
  have c52 : (Int32.ofInt 90).toInt = 90 := by decide
  intro w53 τ53 o53 q53
  obtain ⟨rfl, hZ53, hf53⟩ := q53 (N, E, A, B, V, z, 90, (lvN n)) ⟨_, _, rfl, hZ, by omega, by unfold lvN; omega⟩
  have hF53 := FzC.tr (FzC.rf (n := cnC σ) (m := xnM z) (E := E) (A := A) (B := B) (V := V) (z := z) (σ := σ)) (FzC.mo hf53 (Nat.le_refl (cnC σ)) ((FzC.rf (n := cnC σ) (m := xnM z) (E := E) (A := A) (B := B) (V := V) (z := z) (σ := σ))).2.2.1.1.1)
  have hle53 : cnC σ ≤ cnC τ53 := Nat.le_trans (Nat.le_refl (cnC σ)) (hf53).1
  have hb53 : (upA B (snM z) (cnC σ)) (snM z) = cnC σ := upA_e
  have hl53 : snM z < snM (beM 90 (lvN n) z) := Nat.lt_succ_self _
  have ho53 : cnC σ ≤ cnC σ := (Nat.le_refl (cnC σ))
  have hh53 : (reS (beM 90 (lvN n) z) (snM z)).1 = (90, zAt z.1, (lvN n), z.2.2.2.1.2) ∧ (reS (beM 90 (lvN n) z) (snM z)).2.1 = z.2.2.2.1.1 := by rw [beM_e]; exact ⟨rfl, rfl⟩
  have hZ54 : ZC N E A (upA B (snM z) (cnC σ)) V τ53 (bgM 90 n z) := ZC.co hZ53
  have hF54 : FzC (cnC σ) (xnM z) E A A B (upA B (snM z) (cnC σ)) V V z (bgM 90 n z) σ τ53 := FzC.co hF53
  try dsimp only [Option.toList, List.cons_append, List.nil_append, s1C, s2C, dlC, kyC, Nat.beq, lkC, rcd, rno, rsw]
  intro w55 τ55 o55 q55
  obtain ⟨A55, rfl, hZ55, hf55, ht55, hx55⟩ : ExQ N E A (upA B (snM z) (cnC σ)) V (bgM 90 n z) (eM N n (bgM 90 n z)) τ53 w55 τ55 := q55 (N, E, A, (upA B (snM z) (cnC σ)), V, (bgM 90 n z), n) ⟨_, rfl, hZ54, by omega, hz1⟩
  have hF55 := FzC.tr hF54 (FzC.mo hf55 hle53 (hF54).2.2.1.1.1)
  have hle55 : cnC σ ≤ cnC τ55 := Nat.le_trans hle53 (hf55).1
  have hb55_J : (upA B (snM z) (cnC σ)) (snM z) = (cnC σ) := (hf55.2.2.2.1.1.2 (snM z) hl53).1.trans hb53
  have hl55_J : snM z < snM (eM N n (bgM 90 n z)) := Nat.lt_of_lt_of_le hl53 hf55.2.2.2.1.1.1
  have hh55_J : (reS (eM N n (bgM 90 n z)) (snM z)).1 = (90, zAt z.1, (lvN n), z.2.2.2.1.2) ∧ (reS (eM N n (bgM 90 n z)) (snM z)).2.1 = z.2.2.2.1.1 := ⟨(hf55.2.2.2.1.1.2 (snM z) hl53).2.1.trans hh53.1, (hf55.2.2.2.1.1.2 (snM z) hl53).2.2.trans hh53.2⟩
  try dsimp only [Option.toList, List.cons_append, List.nil_append, s1C, s2C, dlC, kyC, Nat.beq, lkC, rcd, rno, rsw]
  intro a56 e56 ob56 fk56
  cases e56
  clear fk56 ob56
  generalize hs56 : pRC τ55 (cnC σ) 279 (some (A55 (xnM (eM N n (bgM 90 n z)) - 1))) = s56
  have hx56 : SfE (cnC σ) τ55 s56 := by rw [← hs56]; exact SfE.pR (by decide)
  have hZ56 : ZC N E A55 (upA B (snM z) (cnC σ)) V s56 (seM (snM z) (sEx ((xnM (eM N n (bgM 90 n z)) : Int) - 1)) (eM N n (bgM 90 n z))) := by rw [← hs56]; exact ZC.s279 hZ55 hl55_J hb55_J (opA_p (by omega)).symm (by omega)
  have hF56 : FzC (cnC σ) (xnM z) E A A55 B (upA B (snM z) (cnC σ)) V V z (seM (snM z) (sEx ((xnM (eM N n (bgM 90 n z)) : Int) - 1)) (eM N n (bgM 90 n z))) σ s56 := FzC.se hF55 ho53 hx56 (fun _ => ⟨rfl, rfl⟩)
  have hle56 : cnC σ ≤ cnC s56 := by rw [hx56.2.2]; exact hle55
  have hh56_J : (reS (seM (snM z) (sEx ((xnM (eM N n (bgM 90 n z)) : Int) - 1)) (eM N n (bgM 90 n z))) (snM z)).1 = (90, zAt z.1, (lvN n), z.2.2.2.1.2) ∧ (reS (seM (snM z) (sEx ((xnM (eM N n (bgM 90 n z)) : Int) - 1)) (eM N n (bgM 90 n z))) (snM z)).2.1 = z.2.2.2.1.1 := by rw [seM_e]; exact hh55_J
  have c57 : (Int32.ofInt 4).toInt = 4 := by decide
  intro w58 τ58 o58 q58
  have hZ59 : ZC N E A55 (upA B (snM z) (cnC σ)) V s56 (poM (exS N (snM z) n (bgM 90 n z))) := ZC.co hZ56
  have hF59 : FzC (cnC σ) (xnM z) E A A55 B (upA B (snM z) (cnC σ)) V V z (poM (exS N (snM z) n (bgM 90 n z))) σ s56 := FzC.co hF56
  obtain ⟨rfl, hZ58, hf58⟩ := q58 (N, E, A55, (upA B (snM z) (cnC σ)), V, (poM (exS N (snM z) n (bgM 90 n z))), 4) ⟨_, rfl, hZ59, by omega, hft⟩
  have hF58 := FzC.tr hF59 (FzC.mo hf58 hle56 (hF59).2.2.1.1.1)
  have hle58 : cnC σ ≤ cnC τ58 := Nat.le_trans hle56 (hf58).1
  have hb58_J : (upA B (snM z) (cnC σ)) (snM z) = (cnC σ) := (hf58.2.2.2.1.1.2 (snM z) (show snM z < snM (seM (snM z) (sEx ((xnM (eM N n (bgM 90 n z)) : Int) - 1)) (eM N n (bgM 90 n z))) from hl55_J)).1.trans hb55_J
  have hl58_J : snM z < snM (xpM 4 (poM (exS N (snM z) n (bgM 90 n z)))) := Nat.lt_of_lt_of_le (show snM z < snM (seM (snM z) (sEx ((xnM (eM N n (bgM 90 n z)) : Int) - 1)) (eM N n (bgM 90 n z))) from hl55_J) hf58.2.2.2.1.1.1
  have hh58_J : (reS (xpM 4 (poM (exS N (snM z) n (bgM 90 n z)))) (snM z)).1 = (90, zAt z.1, (lvN n), z.2.2.2.1.2) ∧ (reS (xpM 4 (poM (exS N (snM z) n (bgM 90 n z)))) (snM z)).2.1 = z.2.2.2.1.1 := ⟨(hf58.2.2.2.1.1.2 (snM z) (show snM z < snM (seM (snM z) (sEx ((xnM (eM N n (bgM 90 n z)) : Int) - 1)) (eM N n (bgM 90 n z))) from hl55_J)).2.1.trans hh56_J.1, (hf58.2.2.2.1.1.2 (snM z) (show snM z < snM (seM (snM z) (sEx ((xnM (eM N n (bgM 90 n z)) : Int) - 1)) (eM N n (bgM 90 n z))) from hl55_J)).2.2.trans hh56_J.2⟩
  try dsimp only [Option.toList, List.cons_append, List.nil_append, s1C, s2C, dlC, kyC, Nat.beq, lkC, rcd, rno, rsw]
  try dsimp only [Qz_readExpStatement]
  exact ⟨_, _, _, by rw [hb58_J], ZC.co hZ58, FzC.co hF58, hl58_J⟩
theorem wz_readExpStatement : ∀ (L : Nat) (As : List AvC) (σ : CsC) (w : Option AvC) (τ : CsC), EvF L 152 As σ w τ → Uz_readExpStatement As σ w τ := by
  intro L
  cases L with
  | zero => exact fun _ _ _ _ h => h.elim
  | succ L => exact fun As σ w τ h y hy => EvF.us (cs := [142, 164, 129]) (pz_readExpStatement y) rfl (List.forall_mem_cons.2 ⟨wz_begin L, List.forall_mem_cons.2 ⟨wz_readExp L, List.forall_mem_cons.2 ⟨wz_expect L, fun _ h => absurd h List.not_mem_nil⟩⟩⟩) h hy
abbrev Pz_readCase : ((Int → Int) × (Nat → Nat) × (Nat → Nat) × (Nat → Nat) × (Nat → Nat) × ZS × Nat × Int) → CpC := fun y As σ => match y with
  | (N, E, A, B, V, z, n, js) => ∃ (p1 : Int32), As = [.inr (.inr (some (E 0))), .inl p1] ∧ (ZC N E A B V σ z) ∧ (p1.toInt + (n : Int) = 21) ∧ (1 ≤ n) ∧ (codY z.1 = 62 ∨ codY z.1 = 63) ∧ (zFt (csM N js n z).1 = 0)
abbrev Qz_readCase : ((Int → Int) × (Nat → Nat) × (Nat → Nat) × (Nat → Nat) × (Nat → Nat) × ZS × Nat × Int) → CqC := fun y As σ w τ => match y, As with
  | (N, E, A, B, V, z, n, js), [_, .inl p1] => SeQ N E A B V z (csM N js n z) σ w τ
  | _, _ => True
abbrev Uz_readCase : CqC := fun As σ w τ => ∀ y, Pz_readCase y As σ → Qz_readCase y As σ w τ
set_option maxHeartbeats 4000000 in
theorem pz_readCase (y : (Int → Int) × (Nat → Nat) × (Nat → Nat) × (Nat → Nat) × (Nat → Nat) × ZS × Nat × Int) : PbC KX7_readCase [(125, TrP, EqC 125), (142, TrP, EqC 142), (128, TrP, EqC 128), (129, TrP, EqC 129), (164, TrP, EqC 164)] [(125, Uz_code), (142, Uz_begin), (128, Uz_accept), (129, Uz_expect), (164, Uz_readExp)] (fun As σ => Pz_readCase y As σ ∧ cnC σ ≤ 1000000 ∧ ∃ w τ, uqC quL 147 As σ w τ) (Qz_readCase y) := by
  obtain ⟨N, E, A, B, V, z, n, js⟩ := y
  rintro As σ ⟨⟨p1, rfl, hZ, hd, hn, hc, hft⟩, hcn, _, _, hQ⟩ K hB hW n_
  have hH : HI0 σ ∧ TyC σ (E 0) 8 := hQ
  have hat := hZ.at0 hH
  have c1 : codY z.1 = 62 → csM N js n z = xpM 6 (cxM 38 js ((cnM (exS N (snM z) n (accM (beM (codY z.1) (lvN n) z))) : Int) - 1) (zAt z.1) (exS N (snM z) n (accM (beM (codY z.1) (lvN n) z)))) := fun q => by
    unfold csM
    rw [if_pos q, q]
  have c2 : ¬ codY z.1 = 62 → csM N js n z = xpM 6 (coM 39 js 0 (zAt z.1) (accM (beM (codY z.1) (lvN n) z))) := fun q => by
    unfold csM
    rw [if_neg q]
  have hz1 : codY z.1 = 62 → zFt (eM N n (accM (beM (codY z.1) (lvN n) z))).1 = 0 := fun q => by
    rw [c1 q] at hft
    exact GpY.z (gd_xp (c := 6) _) hft
  have hz0 : zFt (accY z.1) = 0 := by
    by_cases q : codY z.1 = 62
    · have h9 := hz1 q
      rw [lf_e] at h9
      exact (gd_e _).z h9
    · rw [c2 q] at hft
      exact GpY.z (gd_xp (c := 6) _) hft
  change K n_ 0 [(0, .inr (.inr (some (E 0)))), (1, .inl p1)] [] σ
  refine hB _ _ _ _ _ (fun m51 hm51 => ?_)
  dsimp only [ucgo, ucwp, ucsC, uqC, uoC, ctC, rfd, KX7_readCase, KX7_readCase_0, KX7_readCase_23, KX7_readCase_32, lkC, s1C, s2C, dlC, kyC, Nat.beq, Nat.ble, rcd, rno, rsw, Nat.reduceAdd, Nat.reduceBEq, Nat.reduceDiv, List.drop, List.take, List.reverse, List.reverseAux, Int.toNat, Option.toList, List.append, List.cons_append, List.nil_append, zg270]
  intro w52 τ52 o52 q52
  obtain ⟨c52, rfl, hc52, rfl⟩ := q52 (N, E, A, B, V, z) ⟨rfl, hZ⟩
  try dsimp only [Option.toList, List.cons_append, List.nil_append, s1C, s2C, dlC, kyC, Nat.beq, lkC, rcd, rno, rsw]
  intro w53 τ53 o53 q53
  obtain ⟨rfl, hZ53, hf53⟩ := q53 (N, E, A, B, V, z, (codY z.1), (lvN n)) ⟨_, _, rfl, hZ, by omega, by unfold lvN; omega⟩
  have hF53 := FzC.tr (FzC.rf (n := cnC σ) (m := xnM z) (E := E) (A := A) (B := B) (V := V) (z := z) (σ := σ)) (FzC.mo hf53 (Nat.le_refl (cnC σ)) ((FzC.rf (n := cnC σ) (m := xnM z) (E := E) (A := A) (B := B) (V := V) (z := z) (σ := σ))).2.2.1.1.1)
  have hle53 : cnC σ ≤ cnC τ53 := Nat.le_trans (Nat.le_refl (cnC σ)) (hf53).1
  have hb53 : (upA B (snM z) (cnC σ)) (snM z) = cnC σ := upA_e
  have hl53 : snM z < snM (beM (codY z.1) (lvN n) z) := Nat.lt_succ_self _
  have ho53 : cnC σ ≤ cnC σ := (Nat.le_refl (cnC σ))
  have hh53 : (reS (beM (codY z.1) (lvN n) z) (snM z)).1 = ((codY z.1), zAt z.1, (lvN n), z.2.2.2.1.2) ∧ (reS (beM (codY z.1) (lvN n) z) (snM z)).2.1 = z.2.2.2.1.1 := by rw [beM_e]; exact ⟨rfl, rfl⟩
  try dsimp only [Option.toList, List.cons_append, List.nil_append, s1C, s2C, dlC, kyC, Nat.beq, lkC, rcd, rno, rsw]
  intro w54 τ54 o54 q54
  obtain ⟨rfl, hZ54, hf54⟩ := q54 (N, E, A, (upA B (snM z) (cnC σ)), V, (beM (codY z.1) (lvN n) z)) ⟨rfl, hZ53, hz0⟩
  have hF54 := FzC.tr hF53 (FzC.mo hf54 hle53 (hF53).2.2.1.1.1)
  have hle54 : cnC σ ≤ cnC τ54 := Nat.le_trans hle53 (hf54).1
  have hb54_J : (upA B (snM z) (cnC σ)) (snM z) = (cnC σ) := (hf54.2.2.2.1.1.2 (snM z) hl53).1.trans hb53
  have hl54_J : snM z < snM (accM (beM (codY z.1) (lvN n) z)) := Nat.lt_of_lt_of_le hl53 hf54.2.2.2.1.1.1
  have hh54_J : (reS (accM (beM (codY z.1) (lvN n) z)) (snM z)).1 = ((codY z.1), zAt z.1, (lvN n), z.2.2.2.1.2) ∧ (reS (accM (beM (codY z.1) (lvN n) z)) (snM z)).2.1 = z.2.2.2.1.1 := ⟨(hf54.2.2.2.1.1.2 (snM z) hl53).2.1.trans hh53.1, (hf54.2.2.2.1.1.2 (snM z) hl53).2.2.trans hh53.2⟩
  try dsimp only [Option.toList, List.cons_append, List.nil_append, s1C, s2C, dlC, kyC, Nat.beq, lkC, rcd, rno, rsw]
  intro a55 e55 ob55
  cases e55
  have f56 : (fIC τ54 (cnC σ) 270).toInt = (codY z.1) := by
    have q := (hZ54.2.2.2.2.2.1.1 (snM z) hl54_J).1.1.1
    rw [hb54_J, hh54_J.1] at q
    exact q
  have c57 : (Int32.ofInt 62).toInt = 62 := by decide
  refine ⟨fun h58 => ?_, fun h58 => ?_⟩
  · have g58 := (neI (x := (fIC τ54 (cnC σ) 270)) (y := (Int32.ofInt 62)) h58 : ¬ ((fIC τ54 (cnC σ) 270) : Int32).toInt = ((Int32.ofInt 62) : Int32).toInt)
    refine hB _ _ _ _ _ (fun m59 hm59 => ?_)
    dsimp only [ucgo, ucwp, ucsC, uqC, uoC, ctC, rfd, KX7_readCase, KX7_readCase_0, KX7_readCase_23, KX7_readCase_32, lkC, s1C, s2C, dlC, kyC, Nat.beq, Nat.ble, rcd, rno, rsw, Nat.reduceAdd, Nat.reduceBEq, Nat.reduceDiv, List.drop, List.take, List.reverse, List.reverseAux, Int.toNat, Option.toList, List.append, List.cons_append, List.nil_append, zg270]
    have c60 : (Int32.ofInt 6).toInt = 6 := by decide
    intro w61 τ61 o61 q61
    have hZ62 : ZC N E A (upA B (snM z) (cnC σ)) V τ54 (coM 39 js 0 (zAt z.1) (accM (beM (codY z.1) (lvN n) z))) := ZC.co hZ54
    have hF62 : FzC (cnC σ) (xnM z) E A A B (upA B (snM z) (cnC σ)) V V z (coM 39 js 0 (zAt z.1) (accM (beM (codY z.1) (lvN n) z))) σ τ54 := FzC.co hF54
    obtain ⟨rfl, hZ61, hf61⟩ := q61 (N, E, A, (upA B (snM z) (cnC σ)), V, (coM 39 js 0 (zAt z.1) (accM (beM (codY z.1) (lvN n) z))), 6) ⟨_, rfl, hZ62, by omega, (by rw [c2 (by omega)] at hft; exact hft)⟩
    have hF61 := FzC.tr hF62 (FzC.mo hf61 hle54 (hF62).2.2.1.1.1)
    have hle61 : cnC σ ≤ cnC τ61 := Nat.le_trans hle54 (hf61).1
    have hb61_J : (upA B (snM z) (cnC σ)) (snM z) = (cnC σ) := (hf61.2.2.2.1.1.2 (snM z) hl54_J).1.trans hb54_J
    have hl61_J : snM z < snM (xpM 6 (coM 39 js 0 (zAt z.1) (accM (beM (codY z.1) (lvN n) z)))) := Nat.lt_of_lt_of_le hl54_J hf61.2.2.2.1.1.1
    have hh61_J : (reS (xpM 6 (coM 39 js 0 (zAt z.1) (accM (beM (codY z.1) (lvN n) z)))) (snM z)).1 = ((codY z.1), zAt z.1, (lvN n), z.2.2.2.1.2) ∧ (reS (xpM 6 (coM 39 js 0 (zAt z.1) (accM (beM (codY z.1) (lvN n) z)))) (snM z)).2.1 = z.2.2.2.1.1 := ⟨(hf61.2.2.2.1.1.2 (snM z) hl54_J).2.1.trans hh54_J.1, (hf61.2.2.2.1.1.2 (snM z) hl54_J).2.2.trans hh54_J.2⟩
    try dsimp only [Option.toList, List.cons_append, List.nil_append, s1C, s2C, dlC, kyC, Nat.beq, lkC, rcd, rno, rsw]
    try dsimp only [Qz_readCase]
    rw [c2 (by omega)]
    exact ⟨_, _, _, by rw [hb61_J], hZ61, hF61, hl61_J⟩
  · have g58 := (eqI (x := (fIC τ54 (cnC σ) 270)) (y := (Int32.ofInt 62)) h58 : ((fIC τ54 (cnC σ) 270) : Int32).toInt = ((Int32.ofInt 62) : Int32).toInt)
    refine hB _ _ _ _ _ (fun m63 hm63 => ?_)
    dsimp only [ucgo, ucwp, ucsC, uqC, uoC, ctC, rfd, KX7_readCase, KX7_readCase_0, KX7_readCase_23, KX7_readCase_32, lkC, s1C, s2C, dlC, kyC, Nat.beq, Nat.ble, rcd, rno, rsw, Nat.reduceAdd, Nat.reduceBEq, Nat.reduceDiv, List.drop, List.take, List.reverse, List.reverseAux, Int.toNat, Option.toList, List.append, List.cons_append, List.nil_append, zg270]
    intro w64 τ64 o64 q64
    obtain ⟨A64, rfl, hZ64, hf64, ht64, hx64⟩ : ExQ N E A (upA B (snM z) (cnC σ)) V (accM (beM (codY z.1) (lvN n) z)) (eM N n (accM (beM (codY z.1) (lvN n) z))) τ54 w64 τ64 := q64 (N, E, A, (upA B (snM z) (cnC σ)), V, (accM (beM (codY z.1) (lvN n) z)), n) ⟨_, rfl, hZ54, by omega, (hz1 (by omega))⟩
    have hF64 := FzC.tr hF54 (FzC.mo hf64 hle54 (hF54).2.2.1.1.1)
    have hle64 : cnC σ ≤ cnC τ64 := Nat.le_trans hle54 (hf64).1
    have hb64_J : (upA B (snM z) (cnC σ)) (snM z) = (cnC σ) := (hf64.2.2.2.1.1.2 (snM z) hl54_J).1.trans hb54_J
    have hl64_J : snM z < snM (eM N n (accM (beM (codY z.1) (lvN n) z))) := Nat.lt_of_lt_of_le hl54_J hf64.2.2.2.1.1.1
    have hh64_J : (reS (eM N n (accM (beM (codY z.1) (lvN n) z))) (snM z)).1 = ((codY z.1), zAt z.1, (lvN n), z.2.2.2.1.2) ∧ (reS (eM N n (accM (beM (codY z.1) (lvN n) z))) (snM z)).2.1 = z.2.2.2.1.1 := ⟨(hf64.2.2.2.1.1.2 (snM z) hl54_J).2.1.trans hh54_J.1, (hf64.2.2.2.1.1.2 (snM z) hl54_J).2.2.trans hh54_J.2⟩
    try dsimp only [Option.toList, List.cons_append, List.nil_append, s1C, s2C, dlC, kyC, Nat.beq, lkC, rcd, rno, rsw]
    intro a65 e65 ob65 fk65
    cases e65
    clear fk65 ob65
    generalize hs65 : pRC τ64 (cnC σ) 279 (some (A64 (xnM (eM N n (accM (beM (codY z.1) (lvN n) z))) - 1))) = s65
    have hx65 : SfE (cnC σ) τ64 s65 := by rw [← hs65]; exact SfE.pR (by decide)
    have hZ65 : ZC N E A64 (upA B (snM z) (cnC σ)) V s65 (seM (snM z) (sEx ((xnM (eM N n (accM (beM (codY z.1) (lvN n) z))) : Int) - 1)) (eM N n (accM (beM (codY z.1) (lvN n) z)))) := by rw [← hs65]; exact ZC.s279 hZ64 hl64_J hb64_J (opA_p (by omega)).symm (by omega)
    have hF65 : FzC (cnC σ) (xnM z) E A A64 B (upA B (snM z) (cnC σ)) V V z (seM (snM z) (sEx ((xnM (eM N n (accM (beM (codY z.1) (lvN n) z))) : Int) - 1)) (eM N n (accM (beM (codY z.1) (lvN n) z)))) σ s65 := FzC.se hF64 ho53 hx65 (fun _ => ⟨rfl, rfl⟩)
    have hle65 : cnC σ ≤ cnC s65 := by rw [hx65.2.2]; exact hle64
    have hh65_J : (reS (seM (snM z) (sEx ((xnM (eM N n (accM (beM (codY z.1) (lvN n) z))) : Int) - 1)) (eM N n (accM (beM (codY z.1) (lvN n) z)))) (snM z)).1 = ((codY z.1), zAt z.1, (lvN n), z.2.2.2.1.2) ∧ (reS (seM (snM z) (sEx ((xnM (eM N n (accM (beM (codY z.1) (lvN n) z))) : Int) - 1)) (eM N n (accM (beM (codY z.1) (lvN n) z)))) (snM z)).2.1 = z.2.2.2.1.1 := by rw [seM_e]; exact hh64_J
    refine hB _ _ _ _ _ (fun m66 hm66 => ?_)
    dsimp only [ucgo, ucwp, ucsC, uqC, uoC, ctC, rfd, KX7_readCase, KX7_readCase_0, KX7_readCase_23, KX7_readCase_32, lkC, s1C, s2C, dlC, kyC, Nat.beq, Nat.ble, rcd, rno, rsw, Nat.reduceAdd, Nat.reduceBEq, Nat.reduceDiv, List.drop, List.take, List.reverse, List.reverseAux, Int.toNat, Option.toList, List.append, List.cons_append, List.nil_append, zg270]
    have c67 : (Int32.ofInt 6).toInt = 6 := by decide
    intro w68 τ68 o68 q68
    have hZ69 : ZC N E A64 (upA B (snM z) (cnC σ)) V s65 (cxM 38 js ((cnM (exS N (snM z) n (accM (beM (codY z.1) (lvN n) z))) : Int) - 1) (zAt z.1) (exS N (snM z) n (accM (beM (codY z.1) (lvN n) z)))) := ZC.co hZ65
    have hF69 : FzC (cnC σ) (xnM z) E A A64 B (upA B (snM z) (cnC σ)) V V z (cxM 38 js ((cnM (exS N (snM z) n (accM (beM (codY z.1) (lvN n) z))) : Int) - 1) (zAt z.1) (exS N (snM z) n (accM (beM (codY z.1) (lvN n) z)))) σ s65 := FzC.co hF65
    obtain ⟨rfl, hZ68, hf68⟩ := q68 (N, E, A64, (upA B (snM z) (cnC σ)), V, (cxM 38 js ((cnM (exS N (snM z) n (accM (beM (codY z.1) (lvN n) z))) : Int) - 1) (zAt z.1) (exS N (snM z) n (accM (beM (codY z.1) (lvN n) z)))), 6) ⟨_, rfl, hZ69, by omega, (by rw [c1 (by omega)] at hft; exact hft)⟩
    have hF68 := FzC.tr hF69 (FzC.mo hf68 hle65 (hF69).2.2.1.1.1)
    have hle68 : cnC σ ≤ cnC τ68 := Nat.le_trans hle65 (hf68).1
    have hb68_J : (upA B (snM z) (cnC σ)) (snM z) = (cnC σ) := (hf68.2.2.2.1.1.2 (snM z) (show snM z < snM (seM (snM z) (sEx ((xnM (eM N n (accM (beM (codY z.1) (lvN n) z))) : Int) - 1)) (eM N n (accM (beM (codY z.1) (lvN n) z)))) from hl64_J)).1.trans hb64_J
    have hl68_J : snM z < snM (xpM 6 (cxM 38 js ((cnM (exS N (snM z) n (accM (beM (codY z.1) (lvN n) z))) : Int) - 1) (zAt z.1) (exS N (snM z) n (accM (beM (codY z.1) (lvN n) z))))) := Nat.lt_of_lt_of_le (show snM z < snM (seM (snM z) (sEx ((xnM (eM N n (accM (beM (codY z.1) (lvN n) z))) : Int) - 1)) (eM N n (accM (beM (codY z.1) (lvN n) z)))) from hl64_J) hf68.2.2.2.1.1.1
    have hh68_J : (reS (xpM 6 (cxM 38 js ((cnM (exS N (snM z) n (accM (beM (codY z.1) (lvN n) z))) : Int) - 1) (zAt z.1) (exS N (snM z) n (accM (beM (codY z.1) (lvN n) z))))) (snM z)).1 = ((codY z.1), zAt z.1, (lvN n), z.2.2.2.1.2) ∧ (reS (xpM 6 (cxM 38 js ((cnM (exS N (snM z) n (accM (beM (codY z.1) (lvN n) z))) : Int) - 1) (zAt z.1) (exS N (snM z) n (accM (beM (codY z.1) (lvN n) z))))) (snM z)).2.1 = z.2.2.2.1.1 := ⟨(hf68.2.2.2.1.1.2 (snM z) (show snM z < snM (seM (snM z) (sEx ((xnM (eM N n (accM (beM (codY z.1) (lvN n) z))) : Int) - 1)) (eM N n (accM (beM (codY z.1) (lvN n) z)))) from hl64_J)).2.1.trans hh65_J.1, (hf68.2.2.2.1.1.2 (snM z) (show snM z < snM (seM (snM z) (sEx ((xnM (eM N n (accM (beM (codY z.1) (lvN n) z))) : Int) - 1)) (eM N n (accM (beM (codY z.1) (lvN n) z)))) from hl64_J)).2.2.trans hh65_J.2⟩
    try dsimp only [Option.toList, List.cons_append, List.nil_append, s1C, s2C, dlC, kyC, Nat.beq, lkC, rcd, rno, rsw]
    try dsimp only [Qz_readCase]
    rw [c1 (by omega)]
    exact ⟨_, _, _, by rw [hb68_J], hZ68, hF68, hl68_J⟩
theorem wz_readCase : ∀ (L : Nat) (As : List AvC) (σ : CsC) (w : Option AvC) (τ : CsC), EvF L 147 As σ w τ → Uz_readCase As σ w τ := by
  intro L
  cases L with
  | zero => exact fun _ _ _ _ h => h.elim
  | succ L => exact fun As σ w τ h y hy => EvF.us (cs := [125, 142, 128, 129, 164]) (pz_readCase y) rfl (List.forall_mem_cons.2 ⟨wz_code L, List.forall_mem_cons.2 ⟨wz_begin L, List.forall_mem_cons.2 ⟨wz_accept L, List.forall_mem_cons.2 ⟨wz_expect L, List.forall_mem_cons.2 ⟨wz_readExp L, fun _ h => absurd h List.not_mem_nil⟩⟩⟩⟩⟩) h hy
abbrev Pz_readCondition : ((Int → Int) × (Nat → Nat) × (Nat → Nat) × (Nat → Nat) × (Nat → Nat) × ZS × Nat × Nat) → CpC := fun y As σ => match y with
  | (N, E, A, B, V, z, n, j) => ∃ (p1 : Nat) (p2 : Int32), As = [.inr (.inr (some (E 0))), .inr (.inr (some p1)), .inl p2] ∧ (ZC N E A B V σ z) ∧ (p2.toInt + (n : Int) = 21) ∧ (1 ≤ n) ∧ (j < snM z) ∧ (p1 = B j) ∧ (zFt (cdM N j n z).1 = 0)
abbrev Qz_readCondition : ((Int → Int) × (Nat → Nat) × (Nat → Nat) × (Nat → Nat) × (Nat → Nat) × ZS × Nat × Nat) → CqC := fun y As σ w τ => match y, As with
  | (N, E, A, B, V, z, n, j), [_, .inr (.inr (some p1)), .inl p2] => w = none ∧ ∃ A' : Nat → Nat, ZC N E A' B V τ (cdM N j n z) ∧ FzC (B j) (xnM z) E A A' B B V V z (cdM N j n z) σ τ
  | _, _ => True
abbrev Uz_readCondition : CqC := fun As σ w τ => ∀ y, Pz_readCondition y As σ → Qz_readCondition y As σ w τ
set_option maxHeartbeats 4000000 in
theorem pz_readCondition (y : (Int → Int) × (Nat → Nat) × (Nat → Nat) × (Nat → Nat) × (Nat → Nat) × ZS × Nat × Nat) : PbC KX7_readCondition [(129, TrP, EqC 129), (164, TrP, EqC 164)] [(129, Uz_expect), (164, Uz_readExp)] (fun As σ => Pz_readCondition y As σ ∧ cnC σ ≤ 1000000 ∧ ∃ w τ, uqC quL 153 As σ w τ) (Qz_readCondition y) := by
  obtain ⟨N, E, A, B, V, z, n, j⟩ := y
  rintro As σ ⟨⟨p1, p2, rfl, hZ, hd, hn, hj, hp1, hft⟩, hcn, _, _, hQ⟩ K hB hW n_
  have hH : HI0 σ ∧ TyC σ (E 0) 8 := hQ
  have hat := hZ.at0 hH
  subst hp1
  have hz1 : zFt (eM N n (xpM 0 z)).1 = 0 := GpY.z (gd_xp (c := 1) _) hft
  have hz0 : zFt (xpM 0 z).1 = 0 := by
    have h9 := hz1
    rw [lf_e] at h9
    exact (gd_e _).z h9
  change K n_ 0 [(0, .inr (.inr (some (E 0)))), (1, .inr (.inr (some (B j)))), (2, .inl p2)] [] σ
  refine hB _ _ _ _ _ (fun m51 hm51 => ?_)
  dsimp only [ucgo, ucwp, ucsC, uqC, uoC, ctC, rfd, KX7_readCondition, KX7_readCondition_0, lkC, s1C, s2C, dlC, kyC, Nat.beq, Nat.ble, rcd, rno, rsw, Nat.reduceAdd, Nat.reduceBEq, Nat.reduceDiv, List.drop, List.take, List.reverse, List.reverseAux, Int.toNat, Option.toList, List.append, List.cons_append, List.nil_append]
  have c52 : (Int32.ofInt 0).toInt = 0 := by decide
  intro w53 τ53 o53 q53
  obtain ⟨rfl, hZ53, hf53⟩ := q53 (N, E, A, B, V, z, 0) ⟨_, rfl, hZ, by omega, hz0⟩
  have hF53 := FzC.tr (FzC.rf (n := B j) (m := xnM z) (E := E) (A := A) (B := B) (V := V) (z := z) (σ := σ)) (FzC.mo hf53 (Nat.le_trans (Nat.le_of_lt (hZ.2.2.2.1.2.1.2 j hj).2) (Nat.le_refl (cnC σ))) ((FzC.rf (n := B j) (m := xnM z) (E := E) (A := A) (B := B) (V := V) (z := z) (σ := σ))).2.2.1.1.1)
  have hle53 : cnC σ ≤ cnC τ53 := Nat.le_trans (Nat.le_refl (cnC σ)) (hf53).1
  have hb53_j : B j = (B j) := (hf53.2.2.2.1.1.2 j hj).1.trans rfl
  have hl53_j : j < snM (xpM 0 z) := Nat.lt_of_lt_of_le hj hf53.2.2.2.1.1.1
  try dsimp only [Option.toList, List.cons_append, List.nil_append, s1C, s2C, dlC, kyC, Nat.beq, lkC, rcd, rno, rsw]
  intro w54 τ54 o54 q54
  obtain ⟨A54, rfl, hZ54, hf54, ht54, hx54⟩ : ExQ N E A B V (xpM 0 z) (eM N n (xpM 0 z)) τ53 w54 τ54 := q54 (N, E, A, B, V, (xpM 0 z), n) ⟨_, rfl, hZ53, by omega, hz1⟩
  have hF54 := FzC.tr hF53 (FzC.mo hf54 (Nat.le_trans (Nat.le_of_lt (hZ.2.2.2.1.2.1.2 j hj).2) hle53) (hF53).2.2.1.1.1)
  have hle54 : cnC σ ≤ cnC τ54 := Nat.le_trans hle53 (hf54).1
  have hb54_j : B j = (B j) := (hf54.2.2.2.1.1.2 j hl53_j).1.trans hb53_j
  have hl54_j : j < snM (eM N n (xpM 0 z)) := Nat.lt_of_lt_of_le hl53_j hf54.2.2.2.1.1.1
  try dsimp only [Option.toList, List.cons_append, List.nil_append, s1C, s2C, dlC, kyC, Nat.beq, lkC, rcd, rno, rsw]
  intro a55 e55 ob55 fk55
  cases e55
  clear fk55 ob55
  generalize hs55 : pRC τ54 (B j) 279 (some (A54 (xnM (eM N n (xpM 0 z)) - 1))) = s55
  have hx55 : SfE (B j) τ54 s55 := by rw [← hs55]; exact SfE.pR (by decide)
  have hZ55 : ZC N E A54 B V s55 (seM (j) (sEx ((xnM (eM N n (xpM 0 z)) : Int) - 1)) (eM N n (xpM 0 z))) := by rw [← hs55]; exact ZC.s279 hZ54 hl54_j hb54_j (opA_p (by omega)).symm (by omega)
  have hF55 : FzC (B j) (xnM z) E A A54 B B V V z (seM (j) (sEx ((xnM (eM N n (xpM 0 z)) : Int) - 1)) (eM N n (xpM 0 z))) σ s55 := FzC.se hF54 (Nat.le_refl _) hx55 (fun _ => ⟨rfl, rfl⟩)
  have hle55 : cnC σ ≤ cnC s55 := by rw [hx55.2.2]; exact hle54
  have c56 : (Int32.ofInt 1).toInt = 1 := by decide
  intro w57 τ57 o57 q57
  obtain ⟨rfl, hZ57, hf57⟩ := q57 (N, E, A54, B, V, (seM (j) (sEx ((xnM (eM N n (xpM 0 z)) : Int) - 1)) (eM N n (xpM 0 z))), 1) ⟨_, rfl, hZ55, by omega, hft⟩
  have hF57 := FzC.tr hF55 (FzC.mo hf57 (Nat.le_trans (Nat.le_of_lt (hZ.2.2.2.1.2.1.2 j hj).2) hle55) (hF55).2.2.1.1.1)
  have hle57 : cnC σ ≤ cnC τ57 := Nat.le_trans hle55 (hf57).1
  have hb57_j : B j = (B j) := (hf57.2.2.2.1.1.2 j (show j < snM (seM (j) (sEx ((xnM (eM N n (xpM 0 z)) : Int) - 1)) (eM N n (xpM 0 z))) from hl54_j)).1.trans hb54_j
  have hl57_j : j < snM (xpM 1 (seM (j) (sEx ((xnM (eM N n (xpM 0 z)) : Int) - 1)) (eM N n (xpM 0 z)))) := Nat.lt_of_lt_of_le (show j < snM (seM (j) (sEx ((xnM (eM N n (xpM 0 z)) : Int) - 1)) (eM N n (xpM 0 z))) from hl54_j) hf57.2.2.2.1.1.1
  try dsimp only [Option.toList, List.cons_append, List.nil_append, s1C, s2C, dlC, kyC, Nat.beq, lkC, rcd, rno, rsw]
  try dsimp only [Qz_readCondition]
  intro τ hwe
  exact ⟨rfl, _, ZC.we hZ57 hwe, FzC.we hF57 hwe⟩
theorem wz_readCondition : ∀ (L : Nat) (As : List AvC) (σ : CsC) (w : Option AvC) (τ : CsC), EvF L 153 As σ w τ → Uz_readCondition As σ w τ := by
  intro L
  cases L with
  | zero => exact fun _ _ _ _ h => h.elim
  | succ L => exact fun As σ w τ h y hy => EvF.us (cs := [129, 164]) (pz_readCondition y) rfl (List.forall_mem_cons.2 ⟨wz_expect L, List.forall_mem_cons.2 ⟨wz_readExp L, fun _ h => absurd h List.not_mem_nil⟩⟩) h hy

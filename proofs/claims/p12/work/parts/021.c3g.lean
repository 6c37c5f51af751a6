theorem clmpC {n : Int32} (h : n ≤ 1000000) : n.toNatClampNeg ≤ 1000000 := by
  have h1 : n.toInt ≤ 1000000 := Int32.le_iff_toInt_le.mp h
  show n.toInt.toNat ≤ 1000000
  omega
theorem raC {U : State} {c1 c2 : ClassId} {ty : FieldType} (h1 : va_RA U c1 ty) (h2 : va_RA U c2 ty) : c1 = c2 := by
  cases ty with
  | object C =>
    obtain ⟨-, -, -, -, -, e1⟩ := h1
    obtain ⟨-, -, -, -, -, e2⟩ := h2
    exact Option.some.inj (e1.symm.trans e2)
  | _ => exact Option.some.inj (Eq.trans (Eq.symm h1) h2)
/-- the address of what is new is the one that was foretold -/
theorem qnC {D : va_G} {ad : Nat → Nat} {kA : Nat → ClassId} {σ0 σ : CsC} {n0 q : Nat} {e : va_E} {H1 : Heap} (hP1 : va_P D vwCl (CwC ad kA σ ++ [(q, e)]) H1) (hD1 : va_D (va_A (CwC ad kA σ0) n0) (CwC ad kA σ ++ [(q, e)])) (hAd : AdC ad σ0 n0) (hg : GrC σ0 σ) (hlt : cnC σ < cpC σ) (hc : H1.size ≤ n0 + (cnC σ - cnC σ0 + 1)) : q = ad (cnC σ) := by
  have hlen : (CwC ad kA σ).length = cnC σ := CwC_cr.1
  have hl : (CwC ad kA σ ++ [(q, e)])[cnC σ]? = some (q, e) := by
    rw [List.getElem?_append_right (by rw [hlen]; exact Nat.le_refl _), hlen, Nat.sub_self]
    rfl
  have ho : ∀ i, i < cnC σ → (CwC ad kA σ ++ [(q, e)])[i]? = some (ad i, entC ad kA σ i) := fun i hi => by
    rw [List.getElem?_append_left (by rw [hlen]; exact hi)]
    exact CwC_at hi
  have hq : q < H1.size := (hP1 (cnC σ) _ hl).lt
  have h1 := hg.1.1
  have h9 := hg.cp.1
  rw [hAd (cnC σ) h1 (by omega)]
  rcases hD1.2 (cnC σ) _ hl with ⟨k, e', hk⟩ | hk
  · have hk0 : k < cnC σ0 := by
      have := (List.getElem?_eq_some_iff.mp hk).1
      rw [CwC_cr.1] at this
      exact this
    rw [CwC_at hk0] at hk
    have e1 : ad k = q := congrArg Prod.fst (Option.some.inj hk)
    have := hD1.1 k (cnC σ) _ _ (ho k (by omega)) hl e1
    omega
  · have hk : n0 ≤ q := hk
    by_cases z : q = n0 + (cnC σ - cnC σ0)
    · exact z
    · have hi : cnC σ0 + (q - n0) < cnC σ := by omega
      have e1 : ad (cnC σ0 + (q - n0)) = q := by
        rw [hAd _ (by omega) (by omega)]
        omega
      have := hD1.1 _ (cnC σ) _ _ (ho _ hi) hl e1
      omega
theorem dflC_ok {c : Nat} (h : c < 13) : ∀ j, j < nfC c → defaultValue (tycC c j) = vp_V (dflC c) j := by
  intro j hj
  have e : (dflC c)[j]? = some (match fkC (30 * c + j) with
    | 0 => .int 0
    | 1 => .int 0
    | 2 => .long 0
    | _ => .null) := by
    unfold dflC
    rw [List.getElem?_map, List.getElem?_range hj]
    rfl
  unfold vp_V
  rw [List.getD_eq_getElem?_getD, e, Option.getD_some]
  have hk := kndC_ok0 c h j hj
  have hk2 : ktC (tycC c j) < 4 := by
    have hb : ∀ c, c < 13 → ∀ j, j < nfC c → fkC (30 * c + j) < 4 := by decide +kernel
    rw [hk]
    exact hb c h j hj
  rw [← hk]
  generalize tycC c j = t at hk2 ⊢
  cases t <;> first | rfl | exact absurd hk2 (by decide)
section CSO
variable {p : Program} {l : Launch} {e : Env} {s : State} {m : MethodId} {args : Array Value} {below : List Frame} {meth : Method} {c : Code}
set_option maxHeartbeats 8000000 in
theorem cst_ok4 {lev own nL : Nat} {cc : ByteArray} {ret : Option FieldType} {ini : Bool} {D : va_G} {ad : Nat → Nat} {kA : Nat → ClassId} {σ0 : CsC} {Z : Option AvC → CsC → Prop} {Ts : List Jvm.Cond} {ct : CcC} {K k : CkC}
    (hE : eEC p s m args meth c cc own nL lev ret ini D ad kA σ0 Ts) (hct : ∀ q ∈ ct, ∃ lv, lv < lev ∧ CMetC l lv q.1 q.2.1 q.2.2)
    (hK : ∀ pc ls st σ, K pc ls st σ → gGC p l e s m args below meth c lev nL D ad kA σ0 Z pc ls st σ)
    {x : RI} {pc : Nat} (hok : cokC cc own nL ret ini x pc = true) (hk : ∀ ls st σ, k (pc + x.2.1) ls st σ → gGC p l e s m args below meth c lev nL D ad kA σ0 Z (pc + x.2.1) ls st σ)
    {ls : ClC} {st : List AvC} {σ : CsC} (hw : cstC ct K Z x pc ls st σ k) (hsel : ccsC x.1 = 4) : gGC p l e s m args below meth c lev nL D ad kA σ0 Z pc ls st σ := by
  obtain ⟨hx, hb, hml, hr, hlocks, hown, hts, hG, hKt, hEv, hin, hlv1, hAd⟩ := hE
  intro H locs a hl hP hD hS hg
  obtain ⟨i, len, q1, q2, cs⟩ := x
  dsimp only at hk hsel
  unfold cokC at hok
  rw [Bool.and_eq_true] at hok
  obtain ⟨hd, hok⟩ := hok
  replace hd : decode cc pc = .ok (i, len) := of_decide_eq_true hd
  cases i with
  | new j =>
    dsimp only [cok2C] at hok
    dsimp only [cstC] at hw
    simp only [Bool.and_eq_true, beq_iff_eq, decide_eq_true_eq] at hok
    obtain ⟨⟨rfl, hcl⟩, h13⟩ := hok
    obtain ⟨hw1, hw2, hw⟩ := hw
    have hgc := hg.cp
    have hg1 := hg.1
    have hg4 := hg.2.2.2
    have hlk := hts _ (hG _ (cG_k hcl))
    unfold wkC at hlk
    dsimp only at hlk
    refine va_new (D := D) (ci := q2) (fs := dflC q2) hx hb hts (fun w hw => hG w (cG_z h13 (vwC_at h13) hw)) (tycC q2) (tycC_ok h13) hown hlk (hts _ (hG _ (cG_p h13 (w := .instantiable (owC q2) (nfC q2)) (by unfold wpC; simp)))) (hts _ (hG _ (cG_p h13 (w := .initialized (owC q2)) (by unfold wpC; simp)))) hKt hP hD hS (fun q h => Or.inr h) (vwC_at h13) (dflC_ok h13) (by show _ ≤ cpC σ0 - cnC σ0; omega) (by show _ ≤ spC σ0 - slC σ0; omega) hd (fun q H1 hP1 hD1 hS1 => ?_)
    refine W.knowC (fun hc _ _ => ?_)
    obtain rfl := qnC hP1 hD1 hAd hg (by omega) hc.2
    have e9 := (CwC_cr (ad := ad) (kA := kA) (σ := σ)).nO (t := q2 + 50) (N := nfC q2) (g := q1.toNat) (by omega)
    rw [show clsC (q2 + 50) = q2 by unfold clsC; omega] at e9
    rw [e9.eq] at hP1 hD1
    have h9 := hk _ _ _ hw H1 locs a hl hP1 hD1 hS1 ⟨⟨Nat.le_trans hg1.1 (Nat.le_succ _), Nat.le_trans hg1.2 (Nat.le_add_right _ _)⟩, hg.2.1, ⟨hw1, hw2⟩, hg4⟩
    rw [show cnC (nOC σ (q2 + 50) (nfC q2) q1.toNat) - cnC σ0 = cnC σ - cnC σ0 + 1 by show cnC σ + 1 - cnC σ0 = _; omega, show slC (nOC σ (q2 + 50) (nfC q2) q1.toNat) - slC σ0 = slC σ - slC σ0 + nfC q2 by show slC σ + nfC q2 - slC σ0 = _; omega] at h9
    exact h9
  | newarray at_ =>
    dsimp only [cok2C] at hok
    dsimp only [cstC] at hw
    simp only [Bool.and_eq_true, Bool.or_eq_true, beq_iff_eq, decide_eq_true_eq] at hok
    obtain ⟨rfl, hok⟩ := hok
    split at hw
    next n r =>
      obtain ⟨hn0, hn1, hw1, hw2, hw⟩ := hw
      have hgc := hg.cp
      have hg1 := hg.1
      have hg4 := hg.2.2.2
      have hbn : n.toNatClampNeg ≤ 1000000 := clmpC hn1
      rcases hok with (⟨rfl, rfl⟩ | ⟨rfl, rfl⟩) | ⟨rfl, rfl⟩
      · skip
        refine va_newa (ty := .int) (N' := n.toNatClampNeg) (a0 := (n.toNatClampNeg, .inl (fun _ => 0))) hx hb (hts _ (hG _ (cG_e (by simp [newarray.typeOf])))) rfl hKt hP hD hS (fun q h => Or.inr h) (fun _ => rfl) (fun q => by have := Int32.not_lt.mpr hn0; exact this q) rfl (by have := hbn; show _ * _ ≤ _; first | (show n.toNatClampNeg * 4 ≤ 536870912; omega) | (show n.toNatClampNeg * 1 ≤ 536870912; omega) | (show n.toNatClampNeg * 8 ≤ 536870912; omega)) (by show _ ≤ cpC σ0 - cnC σ0; omega) (by show _ ≤ spC σ0 - slC σ0; omega) hd (fun q cA H1 hK1 hP1 hD1 hS1 => ?_)
        obtain rfl : cA = kA 100 := raC (hK1.2 6 _ rfl).2 (hKt.2 0 _ rfl).2
        refine W.knowC (fun hc _ _ => ?_)
        obtain rfl := qnC hP1 hD1 hAd hg (by omega) hc.2
        have e9 := (CwC_cr (ad := ad) (kA := kA) (σ := σ)).nA (t := 100) (n := n.toNatClampNeg) (g := q1.toNat) (by decide)
        rw [show rdtC ad (nAC σ 100 n.toNatClampNeg q1.toNat) (cnC σ) 100 = (n.toNatClampNeg, .inl (fun _ => 0)) by (have qz1 : alC (nAC σ 100 n.toNatClampNeg q1.toNat) (cnC σ) = n.toNatClampNeg := (by show (u1C σ.2.1 (cnC σ) (100, n.toNatClampNeg, q1.toNat) (cnC σ)).2.1 = _; rw [u1C_eq]); have qz2 : eIC (nAC σ 100 n.toNatClampNeg q1.toNat) (cnC σ) = fun _ => 0 := u1C_eq; unfold rdtC; rw [qz1, qz2]; rfl)] at e9
        rw [e9.eq] at hP1 hD1
        have h9 := hk _ _ _ hw H1 locs a hl hP1 hD1 hS1 ⟨⟨Nat.le_trans hg1.1 (Nat.le_succ _), Nat.le_trans hg1.2 (Nat.le_add_right _ _)⟩, hg.2.1, ⟨hw1, hw2⟩, hg4⟩
        rw [show cnC (nAC σ 100 n.toNatClampNeg q1.toNat) - cnC σ0 = cnC σ - cnC σ0 + 1 by show cnC σ + 1 - cnC σ0 = _; omega, show slC (nAC σ 100 n.toNatClampNeg q1.toNat) - slC σ0 = slC σ - slC σ0 + n.toNatClampNeg by show slC σ + n.toNatClampNeg - slC σ0 = _; omega] at h9
        exact h9
      · skip
        refine va_newa (ty := .byte) (N' := n.toNatClampNeg) (a0 := (n.toNatClampNeg, .inl (fun _ => 0))) hx hb (hts _ (hG _ (cG_e (by simp [newarray.typeOf])))) rfl hKt hP hD hS (fun q h => Or.inr h) (fun _ => rfl) (fun q => by have := Int32.not_lt.mpr hn0; exact this q) rfl (by have := hbn; show _ * _ ≤ _; first | (show n.toNatClampNeg * 4 ≤ 536870912; omega) | (show n.toNatClampNeg * 1 ≤ 536870912; omega) | (show n.toNatClampNeg * 8 ≤ 536870912; omega)) (by show _ ≤ cpC σ0 - cnC σ0; omega) (by show _ ≤ spC σ0 - slC σ0; omega) hd (fun q cA H1 hK1 hP1 hD1 hS1 => ?_)
        obtain rfl : cA = kA 101 := raC (hK1.2 6 _ rfl).2 (hKt.2 1 _ rfl).2
        refine W.knowC (fun hc _ _ => ?_)
        obtain rfl := qnC hP1 hD1 hAd hg (by omega) hc.2
        have e9 := (CwC_cr (ad := ad) (kA := kA) (σ := σ)).nA (t := 101) (n := n.toNatClampNeg) (g := q1.toNat) (by decide)
        rw [show rdtC ad (nAC σ 101 n.toNatClampNeg q1.toNat) (cnC σ) 101 = (n.toNatClampNeg, .inl (fun _ => 0)) by (have qz1 : alC (nAC σ 101 n.toNatClampNeg q1.toNat) (cnC σ) = n.toNatClampNeg := (by show (u1C σ.2.1 (cnC σ) (101, n.toNatClampNeg, q1.toNat) (cnC σ)).2.1 = _; rw [u1C_eq]); have qz2 : eIC (nAC σ 101 n.toNatClampNeg q1.toNat) (cnC σ) = fun _ => 0 := u1C_eq; unfold rdtC; rw [qz1, qz2]; rfl)] at e9
        rw [e9.eq] at hP1 hD1
        have h9 := hk _ _ _ hw H1 locs a hl hP1 hD1 hS1 ⟨⟨Nat.le_trans hg1.1 (Nat.le_succ _), Nat.le_trans hg1.2 (Nat.le_add_right _ _)⟩, hg.2.1, ⟨hw1, hw2⟩, hg4⟩
        rw [show cnC (nAC σ 101 n.toNatClampNeg q1.toNat) - cnC σ0 = cnC σ - cnC σ0 + 1 by show cnC σ + 1 - cnC σ0 = _; omega, show slC (nAC σ 101 n.toNatClampNeg q1.toNat) - slC σ0 = slC σ - slC σ0 + n.toNatClampNeg by show slC σ + n.toNatClampNeg - slC σ0 = _; omega] at h9
        exact h9
      · skip
        refine va_newa (ty := .long) (N' := n.toNatClampNeg) (a0 := (n.toNatClampNeg, .inr (.inl (fun _ => 0)))) hx hb (hts _ (hG _ (cG_e (by simp [newarray.typeOf])))) rfl hKt hP hD hS (fun q h => Or.inr h) (fun _ => rfl) (fun q => by have := Int32.not_lt.mpr hn0; exact this q) rfl (by have := hbn; show _ * _ ≤ _; first | (show n.toNatClampNeg * 4 ≤ 536870912; omega) | (show n.toNatClampNeg * 1 ≤ 536870912; omega) | (show n.toNatClampNeg * 8 ≤ 536870912; omega)) (by show _ ≤ cpC σ0 - cnC σ0; omega) (by show _ ≤ spC σ0 - slC σ0; omega) hd (fun q cA H1 hK1 hP1 hD1 hS1 => ?_)
        obtain rfl : cA = kA 102 := raC (hK1.2 6 _ rfl).2 (hKt.2 2 _ rfl).2
        refine W.knowC (fun hc _ _ => ?_)
        obtain rfl := qnC hP1 hD1 hAd hg (by omega) hc.2
        have e9 := (CwC_cr (ad := ad) (kA := kA) (σ := σ)).nA (t := 102) (n := n.toNatClampNeg) (g := q1.toNat) (by decide)
        rw [show rdtC ad (nAC σ 102 n.toNatClampNeg q1.toNat) (cnC σ) 102 = (n.toNatClampNeg, .inr (.inl (fun _ => 0))) by (have qz1 : alC (nAC σ 102 n.toNatClampNeg q1.toNat) (cnC σ) = n.toNatClampNeg := (by show (u1C σ.2.1 (cnC σ) (102, n.toNatClampNeg, q1.toNat) (cnC σ)).2.1 = _; rw [u1C_eq]); have qz2 : eLC (nAC σ 102 n.toNatClampNeg q1.toNat) (cnC σ) = fun _ => 0 := u1C_eq; unfold rdtC; rw [qz1, qz2]; rfl)] at e9
        rw [e9.eq] at hP1 hD1
        have h9 := hk _ _ _ hw H1 locs a hl hP1 hD1 hS1 ⟨⟨Nat.le_trans hg1.1 (Nat.le_succ _), Nat.le_trans hg1.2 (Nat.le_add_right _ _)⟩, hg.2.1, ⟨hw1, hw2⟩, hg4⟩
        rw [show cnC (nAC σ 102 n.toNatClampNeg q1.toNat) - cnC σ0 = cnC σ - cnC σ0 + 1 by show cnC σ + 1 - cnC σ0 = _; omega, show slC (nAC σ 102 n.toNatClampNeg q1.toNat) - slC σ0 = slC σ - slC σ0 + n.toNatClampNeg by show slC σ + n.toNatClampNeg - slC σ0 = _; omega] at h9
        exact h9
    next => exact hw.elim
  | anewarray j =>
    dsimp only [cok2C] at hok
    dsimp only [cstC] at hw
    simp only [Bool.and_eq_true, Bool.or_eq_true, beq_iff_eq, decide_eq_true_eq] at hok
    obtain ⟨rfl, hok⟩ := hok
    split at hw
    next n r =>
      obtain ⟨hn0, hn1, hw1, hw2, hw⟩ := hw
      have hgc := hg.cp
      have hg1 := hg.1
      have hg4 := hg.2.2.2
      have hbn : n.toNatClampNeg ≤ 1000000 := clmpC hn1
      rcases hok with (⟨hcl, rfl⟩ | ⟨hcl, rfl⟩) | ⟨hcl, rfl⟩
      · skip
        have hlk := hts _ (hG _ (cG_k hcl))
        unfold wkC at hlk
        dsimp only at hlk
        refine va_newq (C := "PlainJava$Exp") (N' := n.toNatClampNeg) hx hb hown hlk hEv.2.2.2.2.1.1 hKt hP hD hS (fun q h => Or.inr h) (fun q => by have := Int32.not_lt.mpr hn0; exact this q) rfl (by omega) (by show _ ≤ cpC σ0 - cnC σ0; omega) (by show _ ≤ spC σ0 - slC σ0; omega) hd (fun q cA H1 hK1 hP1 hD1 hS1 => ?_)
        obtain rfl : cA = kA 104 := raC (hK1.2 6 _ rfl).2 (hKt.2 4 _ rfl).2
        refine W.knowC (fun hc _ _ => ?_)
        obtain rfl := qnC hP1 hD1 hAd hg (by omega) hc.2
        have e9 := (CwC_cr (ad := ad) (kA := kA) (σ := σ)).nA (t := 104) (n := n.toNatClampNeg) (g := q1.toNat) (by decide)
        rw [show rdtC ad (nAC σ 104 n.toNatClampNeg q1.toNat) (cnC σ) 104 = (n.toNatClampNeg, .inr (.inr (.inr (.inr (fun _ => none))))) by (have qz1 : alC (nAC σ 104 n.toNatClampNeg q1.toNat) (cnC σ) = n.toNatClampNeg := (by show (u1C σ.2.1 (cnC σ) (104, n.toNatClampNeg, q1.toNat) (cnC σ)).2.1 = _; rw [u1C_eq]); have qz2 : eRC (nAC σ 104 n.toNatClampNeg q1.toNat) (cnC σ) = fun _ => none := u1C_eq; rw [rdtC_r (by omega), qz1, qz2]; rfl)] at e9
        rw [e9.eq] at hP1 hD1
        have h9 := hk _ _ _ hw H1 locs a hl hP1 hD1 hS1 ⟨⟨Nat.le_trans hg1.1 (Nat.le_succ _), Nat.le_trans hg1.2 (Nat.le_add_right _ _)⟩, hg.2.1, ⟨hw1, hw2⟩, hg4⟩
        rw [show cnC (nAC σ 104 n.toNatClampNeg q1.toNat) - cnC σ0 = cnC σ - cnC σ0 + 1 by show cnC σ + 1 - cnC σ0 = _; omega, show slC (nAC σ 104 n.toNatClampNeg q1.toNat) - slC σ0 = slC σ - slC σ0 + n.toNatClampNeg by show slC σ + n.toNatClampNeg - slC σ0 = _; omega] at h9
        exact h9
      · skip
        have hlk := hts _ (hG _ (cG_k hcl))
        unfold wkC at hlk
        dsimp only at hlk
        refine va_newq (C := "PlainJava$Statement") (N' := n.toNatClampNeg) hx hb hown hlk hEv.2.2.2.2.1.2.1 hKt hP hD hS (fun q h => Or.inr h) (fun q => by have := Int32.not_lt.mpr hn0; exact this q) rfl (by omega) (by show _ ≤ cpC σ0 - cnC σ0; omega) (by show _ ≤ spC σ0 - slC σ0; omega) hd (fun q cA H1 hK1 hP1 hD1 hS1 => ?_)
        obtain rfl : cA = kA 105 := raC (hK1.2 6 _ rfl).2 (hKt.2 5 _ rfl).2
        refine W.knowC (fun hc _ _ => ?_)
        obtain rfl := qnC hP1 hD1 hAd hg (by omega) hc.2
        have e9 := (CwC_cr (ad := ad) (kA := kA) (σ := σ)).nA (t := 105) (n := n.toNatClampNeg) (g := q1.toNat) (by decide)
        rw [show rdtC ad (nAC σ 105 n.toNatClampNeg q1.toNat) (cnC σ) 105 = (n.toNatClampNeg, .inr (.inr (.inr (.inr (fun _ => none))))) by (have qz1 : alC (nAC σ 105 n.toNatClampNeg q1.toNat) (cnC σ) = n.toNatClampNeg := (by show (u1C σ.2.1 (cnC σ) (105, n.toNatClampNeg, q1.toNat) (cnC σ)).2.1 = _; rw [u1C_eq]); have qz2 : eRC (nAC σ 105 n.toNatClampNeg q1.toNat) (cnC σ) = fun _ => none := u1C_eq; rw [rdtC_r (by omega), qz1, qz2]; rfl)] at e9
        rw [e9.eq] at hP1 hD1
        have h9 := hk _ _ _ hw H1 locs a hl hP1 hD1 hS1 ⟨⟨Nat.le_trans hg1.1 (Nat.le_succ _), Nat.le_trans hg1.2 (Nat.le_add_right _ _)⟩, hg.2.1, ⟨hw1, hw2⟩, hg4⟩
        rw [show cnC (nAC σ 105 n.toNatClampNeg q1.toNat) - cnC σ0 = cnC σ - cnC σ0 + 1 by show cnC σ + 1 - cnC σ0 = _; omega, show slC (nAC σ 105 n.toNatClampNeg q1.toNat) - slC σ0 = slC σ - slC σ0 + n.toNatClampNeg by show slC σ + n.toNatClampNeg - slC σ0 = _; omega] at h9
        exact h9
      · skip
        have hlk := hts _ (hG _ (cG_k hcl))
        unfold wkC at hlk
        dsimp only at hlk
        refine va_newq (C := "java/lang/Object") (N' := n.toNatClampNeg) hx hb hown hlk hEv.2.2.2.2.1.2.2.1 hKt hP hD hS (fun q h => Or.inr h) (fun q => by have := Int32.not_lt.mpr hn0; exact this q) rfl (by omega) (by show _ ≤ cpC σ0 - cnC σ0; omega) (by show _ ≤ spC σ0 - slC σ0; omega) hd (fun q cA H1 hK1 hP1 hD1 hS1 => ?_)
        obtain rfl : cA = kA 103 := raC (hK1.2 6 _ rfl).2 (hKt.2 3 _ rfl).2
        refine W.knowC (fun hc _ _ => ?_)
        obtain rfl := qnC hP1 hD1 hAd hg (by omega) hc.2
        have e9 := (CwC_cr (ad := ad) (kA := kA) (σ := σ)).nA (t := 103) (n := n.toNatClampNeg) (g := q1.toNat) (by decide)
        rw [show rdtC ad (nAC σ 103 n.toNatClampNeg q1.toNat) (cnC σ) 103 = (n.toNatClampNeg, .inr (.inr (.inr (.inr (fun _ => none))))) by (have qz1 : alC (nAC σ 103 n.toNatClampNeg q1.toNat) (cnC σ) = n.toNatClampNeg := (by show (u1C σ.2.1 (cnC σ) (103, n.toNatClampNeg, q1.toNat) (cnC σ)).2.1 = _; rw [u1C_eq]); have qz2 : eRC (nAC σ 103 n.toNatClampNeg q1.toNat) (cnC σ) = fun _ => none := u1C_eq; rw [rdtC_r (by omega), qz1, qz2]; rfl)] at e9
        rw [e9.eq] at hP1 hD1
        have h9 := hk _ _ _ hw H1 locs a hl hP1 hD1 hS1 ⟨⟨Nat.le_trans hg1.1 (Nat.le_succ _), Nat.le_trans hg1.2 (Nat.le_add_right _ _)⟩, hg.2.1, ⟨hw1, hw2⟩, hg4⟩
        rw [show cnC (nAC σ 103 n.toNatClampNeg q1.toNat) - cnC σ0 = cnC σ - cnC σ0 + 1 by show cnC σ + 1 - cnC σ0 = _; omega, show slC (nAC σ 103 n.toNatClampNeg q1.toNat) - slC σ0 = slC σ - slC σ0 + n.toNatClampNeg by show slC σ + n.toNatClampNeg - slC σ0 = _; omega] at h9
        exact h9
    next => exact hw.elim
  | checkcast j =>
    dsimp only [cok2C] at hok
    dsimp only [cstC] at hw
    simp only [Bool.and_eq_true, beq_iff_eq, decide_eq_true_eq] at hok
    obtain ⟨⟨rfl, hcl⟩, h13⟩ := hok
    have hlk := hts _ (hG _ (cG_k hcl))
    unfold wkC at hlk
    dsimp only at hlk
    split at hw
    next r => exact lv_castN hx hb hd (hk _ _ _ hw H locs a hl hP hD hS hg)
    next b r => exact va_castE hx hb hown hlk (va_recv hKt hP (vwC_at h13) ((CwC_at hw.1.1).trans (by rw [entC_ob hw.1]))) hd (hk _ _ _ hw.2 H locs a hl hP hD hS hg)
    next => exact hw.elim
  | _ => first | exact hw.elim | (simp [ccsC] at hsel)
end CSO

def TcC (c : Nat) : u_T := match c with
  | 1 => TX0
  | 2 => TX1
  | 3 => TX2
  | 4 => TX3
  | 5 => TX4
  | 6 => TX5
  | 7 => TX6
  | 8 => TX7
  | 9 => TX8
  | 10 => TX9
  | 11 => TX10
  | 12 => TX11
  | _ => TJx4a65c
def tycC (c : Nat) : Nat → FieldType := match c with
  | 1 => tyX0
  | 2 => tyX1
  | 3 => tyX2
  | 4 => tyX3
  | 5 => tyX4
  | 6 => tyX5
  | 7 => tyX6
  | 8 => tyX7
  | 9 => tyX8
  | 10 => tyX9
  | 11 => tyX10
  | 12 => tyX11
  | _ => tyJx4a65c
def irC (t : FieldType) : Bool := match t with
  | .object _ => true
  | .array _ => true
  | _ => false
theorem irC_ok {t : FieldType} (h : irC t = true) (v : Option Nat) {ad : Nat → Nat} : narrow t (cvC ad (.inr (.inr v))) = cvC ad (.inr (.inr v)) ∧ fits t (cvC ad (.inr (.inr v))) = true := by
  cases t <;> first | (cases v <;> exact ⟨rfl, rfl⟩) | cases h
theorem clsC13 {c : Nat} (h : c < 13) : c = 0 ∨ c = 1 ∨ c = 2 ∨ c = 3 ∨ c = 4 ∨ c = 5 ∨ c = 6 ∨ c = 7 ∨ c = 8 ∨ c = 9 ∨ c = 10 ∨ c = 11 ∨ c = 12 := by omega
theorem vwC_at {c : Nat} (h : c < 13) : vwCl[c]? = some (owC c, TcC c, nfC c) := by
  rcases clsC13 h with rfl | rfl | rfl | rfl | rfl | rfl | rfl | rfl | rfl | rfl | rfl | rfl | rfl <;> rfl
theorem nmC_ok {c : Nat} (h : c < 13) : ∀ a, a < nfC c → ∀ b, b < nfC c → a ≠ b → (TcC c a).2.1 ≠ (TcC c b).2.1 := by
  rcases clsC13 h with rfl | rfl | rfl | rfl | rfl | rfl | rfl | rfl | rfl | rfl | rfl | rfl | rfl
  · exact nmJx4a65c
  · exact nmX0
  · exact nmX1
  · exact nmX2
  · exact nmX3
  · exact nmX4
  · exact nmX5
  · exact nmX6
  · exact nmX7
  · exact nmX8
  · exact nmX9
  · exact nmX10
  · exact nmX11
theorem tycC_ok {c : Nat} (h : c < 13) : ∀ k, k < nfC c → parseFieldDescriptor (TcC c k).2.2.1 = some (tycC c k) := by
  rcases clsC13 h with rfl | rfl | rfl | rfl | rfl | rfl | rfl | rfl | rfl | rfl | rfl | rfl | rfl
  · exact tyJx4a65c_ok
  · exact tyX0_ok
  · exact tyX1_ok
  · exact tyX2_ok
  · exact tyX3_ok
  · exact tyX4_ok
  · exact tyX5_ok
  · exact tyX6_ok
  · exact tyX7_ok
  · exact tyX8_ok
  · exact tyX9_ok
  · exact tyX10_ok
  · exact tyX11_ok
set_option maxRecDepth 100000 in
theorem fldC_ok : ∀ c, c < 13 → ∀ j, j < nfC c → ((TcC c j).1 = owC c ∨ (c = 0 ∧ j = 0 ∧ (TcC c j).1 = "java/util/AbstractList" ∧ (TcC c j).2.1 = "modCount" ∧ (TcC c j).2.2.1 = "I" ∧ (TcC c j).2.2.2 = false)) ∧ (TcC c j).2.1 = (fnC.getD (30 * c + j) ("", "")).1 ∧ (TcC c j).2.2.1 = (fnC.getD (30 * c + j) ("", "")).2 ∧ (TcC c j).2.2.2 = fiC.getD (30 * c + j) true := by decide +kernel
def ktC (t : FieldType) : Nat := match t with
  | .int => 0
  | .boolean => 1
  | .long => 2
  | .object _ => 3
  | .array _ => 3
  | _ => 8
theorem ktC_ok (t : FieldType) : (ktC t = 0 → t = .int) ∧ (ktC t = 1 → t = .boolean) ∧ (ktC t = 2 → t = .long) ∧ (ktC t = 3 → irC t = true) := by
  cases t <;> simp [ktC, irC]
set_option maxRecDepth 100000 in
theorem kndC_ok0 : ∀ c, c < 13 → ∀ j, j < nfC c → ktC (tycC c j) = fkC (30 * c + j) := by decide +kernel
theorem gtC_cv {ad : Nat → Nat} {σ : CsC} {a k : Nat} : cvC ad (gtC σ a k) = fvlC ad σ a k := by
  unfold gtC fvlC
  generalize fkC k = n
  match n with
  | 0 => rfl
  | 1 => rfl
  | 2 => rfl
  | n + 3 => rfl
/-- how large the heap is: each new cell is in the world -/
theorem szC {D : va_G} {ad : Nat → Nat} {kA : Nat → ClassId} {σ0 σ : CsC} {A : Nat → Prop} {H0 H : Heap} {locs : List Loc} (hP : va_P D vwCl (CwC ad kA σ) H) (hS : va_S A H0 H locs) (hg : GrC σ0 σ) (hAd : AdC ad σ0 H0.size) (hc : H.size ≤ H0.size + (cnC σ - cnC σ0)) : H.size = H0.size + (cnC σ - cnC σ0) := by
  by_cases q : cnC σ = cnC σ0
  · have := hS.1
    omega
  · have h1 := hg.1.1
    have h2 := hg.2.2.1.1
    have h3 := hg.cp.1
    have hl := (hP (cnC σ - 1) _ (CwC_at (by omega))).lt
    dsimp only at hl
    rw [hAd (cnC σ - 1) (by omega) (by omega)] at hl
    omega
theorem AdC.to {ad : Nat → Nat} {σ0 σ : CsC} {n n' : Nat} (h : AdC ad σ0 n) (hg : GrC σ0 σ) (e : n' = n + (cnC σ - cnC σ0)) : AdC ad σ n' := by
  intro i h1 h2
  have h3 := hg.1.1
  rw [h i (by omega) (by rw [← hg.cp.1]; exact h2)]
  omega
theorem WeC.gr {σ0 σ τ : CsC} (h : WeC σ τ) (hg : GrC σ0 σ) : GrC σ0 τ := by
  have e := h.cn
  unfold GrC cnC slC cpC spC at *
  rw [e]
  exact hg
theorem WeC.nn {σ τ : CsC} (h : WeC σ τ) : cnC τ = cnC σ ∧ slC τ = slC σ := by
  have e := h.cn
  unfold cnC slC
  rw [e]
  exact ⟨rfl, rfl⟩
theorem WeC.ad {ad : Nat → Nat} {σ τ : CsC} {n : Nat} (h : WeC σ τ) (ha : AdC ad σ n) : AdC ad τ n := by
  unfold AdC cnC cpC
  rw [h.cn]
  exact ha
section CSO
variable {p : Program} {l : Launch} {e : Env} {s : State} {m : MethodId} {args : Array Value} {below : List Frame} {meth : Method} {c : Code}
set_option maxHeartbeats 8000000 in
theorem cst_ok2 {lev own nL : Nat} {cc : ByteArray} {ret : Option FieldType} {ini : Bool} {D : va_G} {ad : Nat → Nat} {kA : Nat → ClassId} {σ0 : CsC} {Z : Option AvC → CsC → Prop} {Ts : List Jvm.Cond} {ct : CcC} {K k : CkC}
    (hE : eEC p s m args meth c cc own nL lev ret ini D ad kA σ0 Ts) (hct : ∀ q ∈ ct, ∃ lv, lv < lev ∧ CMetC l lv q.1 q.2.1 q.2.2)
    (hK : ∀ pc ls st σ, K pc ls st σ → gGC p l e s m args below meth c lev nL D ad kA σ0 Z pc ls st σ)
    {x : RI} {pc : Nat} (hok : cokC cc own nL ret ini x pc = true) (hk : ∀ ls st σ, k (pc + x.2.1) ls st σ → gGC p l e s m args below meth c lev nL D ad kA σ0 Z (pc + x.2.1) ls st σ)
    {ls : ClC} {st : List AvC} {σ : CsC} (hw : cstC ct K Z x pc ls st σ k) (hsel : ccsC x.1 = 2) : gGC p l e s m args below meth c lev nL D ad kA σ0 Z pc ls st σ := by
  obtain ⟨hx, hb, hml, hr, hlocks, hown, hts, hG, hKt, hEv, hin, hlv1, hAd⟩ := hE
  intro H locs a hl hP hD hS hg
  obtain ⟨i, len, q1, q2, cs⟩ := x
  dsimp only at hk hsel
  unfold cokC at hok
  rw [Bool.and_eq_true] at hok
  obtain ⟨hd, hok⟩ := hok
  replace hd : decode cc pc = .ok (i, len) := of_decide_eq_true hd
  cases i with
  | ireturn =>
    dsimp only [cok2C] at hok
    dsimp only [cstC] at hw
    simp only [Bool.and_eq_true, Bool.or_eq_true, beq_iff_eq, decide_eq_true_eq] at hok
    obtain ⟨rfl, hok⟩ := hok
    split at hw
    next v =>
      obtain ⟨h1, h2⟩ := hw
      have hgc := hg.cp
      have hg3 := hg.2.2.1
      refine W.knowC (fun hc hsm hcell => ?_)
      have hsz := szC hP hS hg hAd hc.2
      refine W.tightC (cells' := cpC σ0 - cnC σ0) (slots' := spC σ0 - slC σ0) (by omega) (by omega) ?_
      rcases hok with ⟨hr1, rfl⟩ | ⟨hr1, rfl⟩
      · exact W.iret hx hb (hr.trans hr1) (fun t ht hW => ⟨⟨some (.inl v), σ, rfl, h2, ⟨by rw [ht]; exact hP, va_K.moved hW.alike hKt, hD⟩, ⟨hAd.to hg (by rw [ht]; exact hsz), hg, by rw [ht]; exact hsz⟩, by rw [ht]; exact hsm, by rw [ht]; exact hcell⟩, hS.F ht⟩) hS.2.2 hd hlocks
      · refine W.zret (ty := .boolean) hx hb (hr.trans hr1) ?_ (fun t ht hW => ⟨⟨some (.inl v), σ, rfl, h2, ⟨by rw [ht]; exact hP, va_K.moved hW.alike hKt, hD⟩, ⟨hAd.to hg (by rw [ht]; exact hsz), hg, by rw [ht]; exact hsz⟩, by rw [ht]; exact hsm, by rw [ht]; exact hcell⟩, hS.F ht⟩) hS.2.2 hd hlocks
        have h1 : v = 0 ∨ v = 1 := h1 rfl
        rcases h1 with rfl | rfl <;> rfl
    next => exact hw.elim
  | lreturn =>
    dsimp only [cok2C] at hok
    dsimp only [cstC] at hw
    simp only [Bool.and_eq_true, beq_iff_eq, decide_eq_true_eq] at hok
    obtain ⟨rfl, hr1⟩ := hok
    split at hw
    next v =>
      have hgc := hg.cp
      have hg3 := hg.2.2.1
      refine W.knowC (fun hc hsm hcell => ?_)
      have hsz := szC hP hS hg hAd hc.2
      refine W.tightC (cells' := cpC σ0 - cnC σ0) (slots' := spC σ0 - slC σ0) (by omega) (by omega) ?_
      exact W.lret hx hb (hr.trans hr1) (fun t ht hW => ⟨⟨some (.inr (.inl v)), σ, rfl, hw, ⟨by rw [ht]; exact hP, va_K.moved hW.alike hKt, hD⟩, ⟨hAd.to hg (by rw [ht]; exact hsz), hg, by rw [ht]; exact hsz⟩, by rw [ht]; exact hsm, by rw [ht]; exact hcell⟩, hS.F ht⟩) hS.2.2 hd hlocks
    next => exact hw.elim
  | areturn =>
    dsimp only [cok2C] at hok
    dsimp only [cstC] at hw
    rw [Bool.and_eq_true] at hok
    obtain ⟨h1, hok⟩ := hok
    obtain rfl : len = 1 := by simpa using h1
    split at hw
    next v =>
      have hgc := hg.cp
      have hg3 := hg.2.2.1
      refine W.knowC (fun hc hsm hcell => ?_)
      have hsz := szC hP hS hg hAd hc.2
      refine W.tightC (cells' := cpC σ0 - cnC σ0) (slots' := spC σ0 - slC σ0) (by omega) (by omega) ?_
      split at hok
      next nm =>
        exact W.aret (rt := .object nm) hx hb hr (Or.inl ⟨nm, rfl⟩) (by cases v with | none => exact Or.inl rfl | some b => exact Or.inr ⟨_, rfl⟩) (fun t ht hW => ⟨⟨some (.inr (.inr v)), σ, rfl, hw, ⟨by rw [ht]; exact hP, va_K.moved hW.alike hKt, hD⟩, ⟨hAd.to hg (by rw [ht]; exact hsz), hg, by rw [ht]; exact hsz⟩, by rw [ht]; exact hsm, by rw [ht]; exact hcell⟩, hS.F ht⟩) hS.2.2 hd hlocks
      next ty =>
        exact W.aret (rt := .array ty) hx hb hr (Or.inr ⟨ty, rfl⟩) (by cases v with | none => exact Or.inl rfl | some b => exact Or.inr ⟨_, rfl⟩) (fun t ht hW => ⟨⟨some (.inr (.inr v)), σ, rfl, hw, ⟨by rw [ht]; exact hP, va_K.moved hW.alike hKt, hD⟩, ⟨hAd.to hg (by rw [ht]; exact hsz), hg, by rw [ht]; exact hsz⟩, by rw [ht]; exact hsm, by rw [ht]; exact hcell⟩, hS.F ht⟩) hS.2.2 hd hlocks
      next => cases hok
    next => exact hw.elim
  | return_ =>
    dsimp only [cok2C] at hok
    dsimp only [cstC] at hw
    simp only [Bool.and_eq_true, beq_iff_eq, decide_eq_true_eq] at hok
    obtain ⟨rfl, hr1⟩ := hok
    split at hw
    next =>
      obtain ⟨τ, hwe, hZ⟩ := hw
      have hgc := hg.cp
      have hg3 := hg.2.2.1
      refine W.knowC (fun hc hsm hcell => ?_)
      have hsz := szC hP hS hg hAd hc.2
      refine W.tightC (cells' := cpC σ0 - cnC σ0) (slots' := spC σ0 - slC σ0) (by omega) (by omega) ?_
      exact W.vret hx hb (hr.trans hr1) (fun t ht hW => ⟨⟨none, τ, rfl, hZ, ⟨by rw [ht, CwC_rT hwe]; exact hP, va_K.moved hW.alike hKt, by rw [CwC_rT hwe]; exact hD⟩, ⟨hAd.to (hwe.gr hg) (by rw [ht, hwe.nn.1]; exact hsz), hwe.gr hg, by rw [ht, hwe.nn.1]; exact hsz⟩, by rw [ht, hwe.nn.2]; exact hsm, by rw [ht]; exact hcell⟩, hS.F ht⟩) hS.2.2 hd hlocks
    next => exact hw.elim
  | if_acmp cn o =>
    dsimp only [cok2C] at hok
    dsimp only [cstC] at hw
    simp only [Bool.and_eq_true, beq_iff_eq, decide_eq_true_eq] at hok
    obtain ⟨rfl, ht⟩ := hok
    split at hw
    next y v r =>
      obtain ⟨hw, hvy⟩ := hw
      have hin : (v.map ad = y.map ad ↔ v = y) := by
        refine ⟨fun h => ?_, fun h => by rw [h]⟩
        rcases hvy with hvy | ⟨hv1, hv2⟩
        · exact hvy
        cases v with
        | none => cases y with
          | none => rfl
          | some b => cases h
        | some a' => cases y with
          | none => cases h
          | some b =>
            have h1 := hv1 a' rfl
            have h2 := hv2 b rfl
            have e := hD.1 a' b _ _ (CwC_at h1) (CwC_at h2) (Option.some.inj h)
            rw [e]
      have e1 : ∀ z : Option Nat, cvC ad (.inr (.inr z)) = va_rf (z.map ad) := fun z => by cases z <;> rfl
      rw [List.map_cons, List.map_cons, e1, e1]
      cases cn with
      | eq => exact lv_acmp_eq hx hb hd ht (fun q => hK _ _ _ _ (hw.1 (hin.mp q)) H locs a hl hP hD hS hg) (fun q => hk _ _ _ (hw.2 (fun z => q (hin.mpr z))) H locs a hl hP hD hS hg)
      | ne => exact lv_acmp_ne hx hb hd ht (fun q => hK _ _ _ _ (hw.1 (fun z => q (hin.mpr z))) H locs a hl hP hD hS hg) (fun q => hk _ _ _ (hw.2 (hin.mp q)) H locs a hl hP hD hS hg)
    next => exact hw.elim
  | getfield j =>
    dsimp only [cok2C] at hok
    dsimp only [cstC] at hw
    simp only [Bool.and_eq_true, beq_iff_eq, decide_eq_true_eq] at hok
    obtain ⟨⟨⟨⟨rfl, hf⟩, h13⟩, hjn⟩, h1⟩ := hok
    split at hw
    next v r =>
      obtain ⟨b, rfl, hob, hw⟩ := hw
      have hq2 : 30 * (q2 / 30) + q2 % 30 = q2 := Nat.div_add_mod q2 30
      have hf1 := fldC_ok (q2 / 30) h13 (q2 % 30) hjn
      have hk0 := kndC_ok0 (q2 / 30) h13 (q2 % 30) hjn
      have hk1 := ktC_ok (tycC (q2 / 30) (q2 % 30))
      have hlk := hts _ (hG _ (cG_f hf))
      unfold wfC at hlk
      dsimp only at hlk
      rw [hq2] at hf1 hk0
      rw [← hf1.2.1, ← hf1.2.2.1] at hlk
      have hsm : ∀ z, s.fieldFound? (TcC (q2 / 30) (q2 % 30)).1 (TcC (q2 / 30) (q2 % 30)).2.1 (TcC (q2 / 30) (q2 % 30)).2.2.1 = some z → s.fieldFound? (fnmC (own, j, q2)) (TcC (q2 / 30) (q2 % 30)).2.1 (TcC (q2 / 30) (q2 % 30)).2.2.1 = some z := fun z hz => by
        unfold fnmC
        dsimp only
        cases h20 : Nat.beq own 20 with
        | true =>
          have h0 := h1 (Nat.eq_of_beq_eq_true h20)
          have e0 : (TcC (q2 / 30) (q2 % 30)).1 = "java/util/AbstractList" := by rw [h0]; rfl
          rw [e0] at hz
          exact hz
        | false =>
          rcases hf1.1 with e0 | ⟨e0, e1, e2, e3, e4, -⟩
          · rw [e0] at hz; exact hz
          · rw [e2, e3, e4] at hz
            rw [e3, e4, e0]
            exact u_same (hts _ (hG _ (cG_w (w := .sameField "java/util/ArrayList" "java/util/AbstractList" "modCount" "I") (by simp [weC])))) z hz
      have h9 := hk _ _ _ hw H locs a hl hP hD hS hg
      rw [List.map_cons, gtC_cv, ← hq2] at h9
      refine va_get (D := D) (ci := q2 / 30) (ref := fnmC (own, j, q2)) hx hb hts (fun w hw => hG w (cG_z h13 (vwC_at h13) hw)) hown hKt hP b ((CwC_at hob.1).trans (by rw [entC_ob hob])) (vwC_at h13) (q2 % 30) hjn hlk hsm (flsC_at hjn) hd h9
    next => exact hw.elim
  | putfield j =>
    dsimp only [cok2C] at hok
    dsimp only [cstC] at hw
    simp only [Bool.and_eq_true, Bool.or_eq_true, beq_iff_eq, decide_eq_true_eq, Bool.not_eq_true'] at hok
    obtain ⟨⟨⟨⟨⟨rfl, hf⟩, h13⟩, hjn⟩, h1⟩, hfin⟩ := hok
    split at hw
    next w v r =>
      obtain ⟨b, rfl, hob, hkd, hw⟩ := hw
      have hq2 : 30 * (q2 / 30) + q2 % 30 = q2 := Nat.div_add_mod q2 30
      have hf1 := fldC_ok (q2 / 30) h13 (q2 % 30) hjn
      have hk0 := kndC_ok0 (q2 / 30) h13 (q2 % 30) hjn
      have hk1 := ktC_ok (tycC (q2 / 30) (q2 % 30))
      have hlk := hts _ (hG _ (cG_f hf))
      unfold wfC at hlk
      dsimp only at hlk
      rw [hq2] at hf1 hk0
      rw [← hf1.2.1, ← hf1.2.2.1] at hlk
      have hsm : ∀ z, s.fieldFound? (TcC (q2 / 30) (q2 % 30)).1 (TcC (q2 / 30) (q2 % 30)).2.1 (TcC (q2 / 30) (q2 % 30)).2.2.1 = some z → s.fieldFound? (fnmC (own, j, q2)) (TcC (q2 / 30) (q2 % 30)).2.1 (TcC (q2 / 30) (q2 % 30)).2.2.1 = some z := fun z hz => by
        unfold fnmC
        dsimp only
        cases h20 : Nat.beq own 20 with
        | true =>
          have h0 := h1 (Nat.eq_of_beq_eq_true h20)
          have e0 : (TcC (q2 / 30) (q2 % 30)).1 = "java/util/AbstractList" := by rw [h0]; rfl
          rw [e0] at hz
          exact hz
        | false =>
          rcases hf1.1 with e0 | ⟨e0, e1, e2, e3, e4, -⟩
          · rw [e0] at hz; exact hz
          · rw [e2, e3, e4] at hz
            rw [e3, e4, e0]
            exact u_same (hts _ (hG _ (cG_w (w := .sameField "java/util/ArrayList" "java/util/AbstractList" "modCount" "I") (by simp [weC])))) z hz
      rcases hfin with hfin | ⟨hi1, hi2⟩
      · refine va_put (v := .int w) (D := D) (ci := q2 / 30) (ref := fnmC (own, j, q2)) (ty := tycC (q2 / 30) (q2 % 30)) hx hb hts (fun w hw => hG w (cG_z h13 (vwC_at h13) hw)) (tycC (q2 / 30)) (tycC_ok h13) (nmC_ok h13) hown hKt hP hD hS b ((CwC_at hob.1).trans (by rw [entC_ob hob])) (vwC_at h13) (q2 % 30) hjn hlk hsm (by rw [hf1.2.2.2]; exact hfin) (tycC_ok h13 _ hjn) (by rcases hkd with q | ⟨q, rfl | rfl⟩ <;> (rw [q] at hk0; first | rw [hk1.1 hk0]; rfl | rw [hk1.2.1 hk0]; rfl)) (by rcases hkd with q | ⟨q, rfl | rfl⟩ <;> (rw [q] at hk0; first | rw [hk1.1 hk0]; rfl | rw [hk1.2.1 hk0]; rfl)) (by rw [flsC_len]; exact hjn) hd (fun H2 lo2 hP2 hD2 hS2 => ?_)
        rw [(CwC_cr.pI hob hjn (by rw [hq2]; exact (hkd.elim Or.inl (fun q => Or.inr q.1)))).eq, hq2] at hP2 hD2
        exact hk _ _ _ hw H2 lo2 a hl hP2 hD2 hS2 hg
      · by_cases hff : fiC.getD q2 true = true
        · refine va_putF (v := .int w) (D := D) (ci := q2 / 30) (ref := fnmC (own, j, q2)) (ty := tycC (q2 / 30) (q2 % 30)) hx hb hts (fun w hw => hG w (cG_z h13 (vwC_at h13) hw)) (tycC (q2 / 30)) (tycC_ok h13) (nmC_ok h13) hown hKt hP hD hS b ((CwC_at hob.1).trans (by rw [entC_ob hob])) (vwC_at h13) (q2 % 30) hjn hlk hsm (by rw [hf1.2.2.2]; exact hff) (hin hi1) (by rcases hf1.1 with e0 | ⟨-, -, -, -, -, e5⟩; rw [e0, hi2]; rw [hf1.2.2.2, hff] at e5; cases e5) (tycC_ok h13 _ hjn) (by rcases hkd with q | ⟨q, rfl | rfl⟩ <;> (rw [q] at hk0; first | rw [hk1.1 hk0]; rfl | rw [hk1.2.1 hk0]; rfl)) (by rcases hkd with q | ⟨q, rfl | rfl⟩ <;> (rw [q] at hk0; first | rw [hk1.1 hk0]; rfl | rw [hk1.2.1 hk0]; rfl)) (by rw [flsC_len]; exact hjn) hd (fun H2 lo2 hP2 hD2 hS2 => ?_)
          rw [(CwC_cr.pI hob hjn (by rw [hq2]; exact (hkd.elim Or.inl (fun q => Or.inr q.1)))).eq, hq2] at hP2 hD2
          exact hk _ _ _ hw H2 lo2 a hl hP2 hD2 hS2 hg
        · refine va_put (v := .int w) (D := D) (ci := q2 / 30) (ref := fnmC (own, j, q2)) (ty := tycC (q2 / 30) (q2 % 30)) hx hb hts (fun w hw => hG w (cG_z h13 (vwC_at h13) hw)) (tycC (q2 / 30)) (tycC_ok h13) (nmC_ok h13) hown hKt hP hD hS b ((CwC_at hob.1).trans (by rw [entC_ob hob])) (vwC_at h13) (q2 % 30) hjn hlk hsm (by rw [hf1.2.2.2]; simpa using hff) (tycC_ok h13 _ hjn) (by rcases hkd with q | ⟨q, rfl | rfl⟩ <;> (rw [q] at hk0; first | rw [hk1.1 hk0]; rfl | rw [hk1.2.1 hk0]; rfl)) (by rcases hkd with q | ⟨q, rfl | rfl⟩ <;> (rw [q] at hk0; first | rw [hk1.1 hk0]; rfl | rw [hk1.2.1 hk0]; rfl)) (by rw [flsC_len]; exact hjn) hd (fun H2 lo2 hP2 hD2 hS2 => ?_)
          rw [(CwC_cr.pI hob hjn (by rw [hq2]; exact (hkd.elim Or.inl (fun q => Or.inr q.1)))).eq, hq2] at hP2 hD2
          exact hk _ _ _ hw H2 lo2 a hl hP2 hD2 hS2 hg
    next w v r =>
      obtain ⟨b, rfl, hob, hkd, hw⟩ := hw
      have hq2 : 30 * (q2 / 30) + q2 % 30 = q2 := Nat.div_add_mod q2 30
      have hf1 := fldC_ok (q2 / 30) h13 (q2 % 30) hjn
      have hk0 := kndC_ok0 (q2 / 30) h13 (q2 % 30) hjn
      have hk1 := ktC_ok (tycC (q2 / 30) (q2 % 30))
      have hlk := hts _ (hG _ (cG_f hf))
      unfold wfC at hlk
      dsimp only at hlk
      rw [hq2] at hf1 hk0
      rw [← hf1.2.1, ← hf1.2.2.1] at hlk
      have hsm : ∀ z, s.fieldFound? (TcC (q2 / 30) (q2 % 30)).1 (TcC (q2 / 30) (q2 % 30)).2.1 (TcC (q2 / 30) (q2 % 30)).2.2.1 = some z → s.fieldFound? (fnmC (own, j, q2)) (TcC (q2 / 30) (q2 % 30)).2.1 (TcC (q2 / 30) (q2 % 30)).2.2.1 = some z := fun z hz => by
        unfold fnmC
        dsimp only
        cases h20 : Nat.beq own 20 with
        | true =>
          have h0 := h1 (Nat.eq_of_beq_eq_true h20)
          have e0 : (TcC (q2 / 30) (q2 % 30)).1 = "java/util/AbstractList" := by rw [h0]; rfl
          rw [e0] at hz
          exact hz
        | false =>
          rcases hf1.1 with e0 | ⟨e0, e1, e2, e3, e4, -⟩
          · rw [e0] at hz; exact hz
          · rw [e2, e3, e4] at hz
            rw [e3, e4, e0]
            exact u_same (hts _ (hG _ (cG_w (w := .sameField "java/util/ArrayList" "java/util/AbstractList" "modCount" "I") (by simp [weC])))) z hz
      rcases hfin with hfin | ⟨hi1, hi2⟩
      · refine va_put (v := .long w) (D := D) (ci := q2 / 30) (ref := fnmC (own, j, q2)) (ty := tycC (q2 / 30) (q2 % 30)) hx hb hts (fun w hw => hG w (cG_z h13 (vwC_at h13) hw)) (tycC (q2 / 30)) (tycC_ok h13) (nmC_ok h13) hown hKt hP hD hS b ((CwC_at hob.1).trans (by rw [entC_ob hob])) (vwC_at h13) (q2 % 30) hjn hlk hsm (by rw [hf1.2.2.2]; exact hfin) (tycC_ok h13 _ hjn) (by rw [hk1.2.2.1 (hk0.trans hkd)]; rfl) (by rw [hk1.2.2.1 (hk0.trans hkd)]; rfl) (by rw [flsC_len]; exact hjn) hd (fun H2 lo2 hP2 hD2 hS2 => ?_)
        rw [(CwC_cr.pL hob hjn (by rw [hq2]; exact hkd)).eq, hq2] at hP2 hD2
        exact hk _ _ _ hw H2 lo2 a hl hP2 hD2 hS2 hg
      · by_cases hff : fiC.getD q2 true = true
        · refine va_putF (v := .long w) (D := D) (ci := q2 / 30) (ref := fnmC (own, j, q2)) (ty := tycC (q2 / 30) (q2 % 30)) hx hb hts (fun w hw => hG w (cG_z h13 (vwC_at h13) hw)) (tycC (q2 / 30)) (tycC_ok h13) (nmC_ok h13) hown hKt hP hD hS b ((CwC_at hob.1).trans (by rw [entC_ob hob])) (vwC_at h13) (q2 % 30) hjn hlk hsm (by rw [hf1.2.2.2]; exact hff) (hin hi1) (by rcases hf1.1 with e0 | ⟨-, -, -, -, -, e5⟩; rw [e0, hi2]; rw [hf1.2.2.2, hff] at e5; cases e5) (tycC_ok h13 _ hjn) (by rw [hk1.2.2.1 (hk0.trans hkd)]; rfl) (by rw [hk1.2.2.1 (hk0.trans hkd)]; rfl) (by rw [flsC_len]; exact hjn) hd (fun H2 lo2 hP2 hD2 hS2 => ?_)
          rw [(CwC_cr.pL hob hjn (by rw [hq2]; exact hkd)).eq, hq2] at hP2 hD2
          exact hk _ _ _ hw H2 lo2 a hl hP2 hD2 hS2 hg
        · refine va_put (v := .long w) (D := D) (ci := q2 / 30) (ref := fnmC (own, j, q2)) (ty := tycC (q2 / 30) (q2 % 30)) hx hb hts (fun w hw => hG w (cG_z h13 (vwC_at h13) hw)) (tycC (q2 / 30)) (tycC_ok h13) (nmC_ok h13) hown hKt hP hD hS b ((CwC_at hob.1).trans (by rw [entC_ob hob])) (vwC_at h13) (q2 % 30) hjn hlk hsm (by rw [hf1.2.2.2]; simpa using hff) (tycC_ok h13 _ hjn) (by rw [hk1.2.2.1 (hk0.trans hkd)]; rfl) (by rw [hk1.2.2.1 (hk0.trans hkd)]; rfl) (by rw [flsC_len]; exact hjn) hd (fun H2 lo2 hP2 hD2 hS2 => ?_)
          rw [(CwC_cr.pL hob hjn (by rw [hq2]; exact hkd)).eq, hq2] at hP2 hD2
          exact hk _ _ _ hw H2 lo2 a hl hP2 hD2 hS2 hg
    next w v r =>
      obtain ⟨b, rfl, hob, hkd, hw⟩ := hw
      have hq2 : 30 * (q2 / 30) + q2 % 30 = q2 := Nat.div_add_mod q2 30
      have hf1 := fldC_ok (q2 / 30) h13 (q2 % 30) hjn
      have hk0 := kndC_ok0 (q2 / 30) h13 (q2 % 30) hjn
      have hk1 := ktC_ok (tycC (q2 / 30) (q2 % 30))
      have hlk := hts _ (hG _ (cG_f hf))
      unfold wfC at hlk
      dsimp only at hlk
      rw [hq2] at hf1 hk0
      rw [← hf1.2.1, ← hf1.2.2.1] at hlk
      have hsm : ∀ z, s.fieldFound? (TcC (q2 / 30) (q2 % 30)).1 (TcC (q2 / 30) (q2 % 30)).2.1 (TcC (q2 / 30) (q2 % 30)).2.2.1 = some z → s.fieldFound? (fnmC (own, j, q2)) (TcC (q2 / 30) (q2 % 30)).2.1 (TcC (q2 / 30) (q2 % 30)).2.2.1 = some z := fun z hz => by
        unfold fnmC
        dsimp only
        cases h20 : Nat.beq own 20 with
        | true =>
          have h0 := h1 (Nat.eq_of_beq_eq_true h20)
          have e0 : (TcC (q2 / 30) (q2 % 30)).1 = "java/util/AbstractList" := by rw [h0]; rfl
          rw [e0] at hz
          exact hz
        | false =>
          rcases hf1.1 with e0 | ⟨e0, e1, e2, e3, e4, -⟩
          · rw [e0] at hz; exact hz
          · rw [e2, e3, e4] at hz
            rw [e3, e4, e0]
            exact u_same (hts _ (hG _ (cG_w (w := .sameField "java/util/ArrayList" "java/util/AbstractList" "modCount" "I") (by simp [weC])))) z hz
      rcases hfin with hfin | ⟨hi1, hi2⟩
      · refine va_put (v := cvC ad (.inr (.inr w))) (D := D) (ci := q2 / 30) (ref := fnmC (own, j, q2)) (ty := tycC (q2 / 30) (q2 % 30)) hx hb hts (fun w hw => hG w (cG_z h13 (vwC_at h13) hw)) (tycC (q2 / 30)) (tycC_ok h13) (nmC_ok h13) hown hKt hP hD hS b ((CwC_at hob.1).trans (by rw [entC_ob hob])) (vwC_at h13) (q2 % 30) hjn hlk hsm (by rw [hf1.2.2.2]; exact hfin) (tycC_ok h13 _ hjn) (irC_ok (hk1.2.2.2 (hk0.trans hkd)) w).1 (irC_ok (hk1.2.2.2 (hk0.trans hkd)) w).2 (by rw [flsC_len]; exact hjn) hd (fun H2 lo2 hP2 hD2 hS2 => ?_)
        rw [(CwC_cr.pR hob hjn (by rw [hq2]; exact hkd)).eq, hq2] at hP2 hD2
        exact hk _ _ _ hw H2 lo2 a hl hP2 hD2 hS2 hg
      · by_cases hff : fiC.getD q2 true = true
        · refine va_putF (v := cvC ad (.inr (.inr w))) (D := D) (ci := q2 / 30) (ref := fnmC (own, j, q2)) (ty := tycC (q2 / 30) (q2 % 30)) hx hb hts (fun w hw => hG w (cG_z h13 (vwC_at h13) hw)) (tycC (q2 / 30)) (tycC_ok h13) (nmC_ok h13) hown hKt hP hD hS b ((CwC_at hob.1).trans (by rw [entC_ob hob])) (vwC_at h13) (q2 % 30) hjn hlk hsm (by rw [hf1.2.2.2]; exact hff) (hin hi1) (by rcases hf1.1 with e0 | ⟨-, -, -, -, -, e5⟩; rw [e0, hi2]; rw [hf1.2.2.2, hff] at e5; cases e5) (tycC_ok h13 _ hjn) (irC_ok (hk1.2.2.2 (hk0.trans hkd)) w).1 (irC_ok (hk1.2.2.2 (hk0.trans hkd)) w).2 (by rw [flsC_len]; exact hjn) hd (fun H2 lo2 hP2 hD2 hS2 => ?_)
          rw [(CwC_cr.pR hob hjn (by rw [hq2]; exact hkd)).eq, hq2] at hP2 hD2
          exact hk _ _ _ hw H2 lo2 a hl hP2 hD2 hS2 hg
        · refine va_put (v := cvC ad (.inr (.inr w))) (D := D) (ci := q2 / 30) (ref := fnmC (own, j, q2)) (ty := tycC (q2 / 30) (q2 % 30)) hx hb hts (fun w hw => hG w (cG_z h13 (vwC_at h13) hw)) (tycC (q2 / 30)) (tycC_ok h13) (nmC_ok h13) hown hKt hP hD hS b ((CwC_at hob.1).trans (by rw [entC_ob hob])) (vwC_at h13) (q2 % 30) hjn hlk hsm (by rw [hf1.2.2.2]; simpa using hff) (tycC_ok h13 _ hjn) (irC_ok (hk1.2.2.2 (hk0.trans hkd)) w).1 (irC_ok (hk1.2.2.2 (hk0.trans hkd)) w).2 (by rw [flsC_len]; exact hjn) hd (fun H2 lo2 hP2 hD2 hS2 => ?_)
          rw [(CwC_cr.pR hob hjn (by rw [hq2]; exact hkd)).eq, hq2] at hP2 hD2
          exact hk _ _ _ hw H2 lo2 a hl hP2 hD2 hS2 hg
    next => exact hw.elim
  | _ => first | exact hw.elim | (simp [ccsC] at hsel)
end CSO

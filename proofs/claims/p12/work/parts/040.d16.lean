/-! lists: add -/
theorem gpC_row {σ : CsC} {a r : Nat} (ht : tgC σ a = 0) (hr : fRC σ a 1 = some r) (hl : r < 1000000) : gpC σ a = 6500 - alC σ r := by
  have e0 : Nat.beq (tgC σ a) 0 = true := by rw [ht]; rfl
  have e1 : Nat.blt r 1000000 = true := Nat.ble_eq_true_of_le hl
  unfold gpC
  rw [e0, hr]
  dsimp only
  rw [e1]
theorem gpC_emp {σ : CsC} {a : Nat} (ht : tgC σ a = 0) (hr : fRC σ a 1 = some 1000000) : gpC σ a = 6500 := by
  have e0 : Nat.beq (tgC σ a) 0 = true := by rw [ht]; rfl
  unfold gpC
  rw [e0, hr]
  rfl
theorem el1C {k j : Nat} (h : k / 30 = j) (hj : 13 ≤ j) : 390 ≤ k := by omega
theorem gwC_of {σ τ : CsC} (e : ExC [0, 1, 2, 999] σ τ) (hs : slC τ + 4 * gsC τ (cnC τ) ≤ slC σ + 4 * gsC σ (cnC σ) + 22 * (cnC τ - cnC σ)) : GwC none σ τ := by
  refine ⟨e.1, hs, fun a ha => ⟨fun _ => ⟨(e.2.2 a ha).1.1, (e.2.2 a ha).1.2.2⟩, fun t g => (e.2.1.2.2 a ha (by rw [t, g]; rfl)).1, fun _ _ hw => ?_⟩⟩
  have q := (e.2.2 a ha).2.2.2
  exact ⟨⟨(q 60 rfl).1.trans hw.1, (q 73 rfl).2.trans hw.2⟩, (q 75 rfl).2⟩
abbrev AdQ (a b : Nat) (σ τ : CsC) : Prop := HI0 τ ∧ (∀ x, LbC σ x → LbC τ x) ∧ ExC [0, 1, 2, 999] σ τ ∧ GwC none σ τ ∧ cnC τ ≤ cnC σ + 1 ∧ (∀ c, c < cnC σ → tgC σ c = 0 → (fIC τ c 2).toInt ≤ (fIC σ c 2).toInt + 1) ∧ (fIC τ a 2).toInt = (fIC σ a 2).toInt + 1 ∧ (∀ c, c ≠ a → fIC τ c 2 = fIC σ c 2) ∧ AeC a b σ τ
theorem growC {σ τ : CsC} {a b m : Nat} {f : Nat → Option Nat} {s x : Int32} (h : HI0 σ) (t : TyC σ a 0) (hb : ElC σ (ghC σ a) b)
    (hg : (fRC σ a 1 = some 1000000 ∧ m = 10) ∨ ∃ r, fRC σ a 1 = some r ∧ r < cnC σ ∧ m = alC σ r + alC σ r / 2 ∧ alC σ r ≤ 4300)
    (hm : 10 ≤ m ∧ m ≤ 20000 ∧ s.toInt + 1 ≤ (m : Int)) (hel : ∀ j, j < s.toNatClampNeg → ∃ b', f j = some b' ∧ ElC σ (ghC σ a) b') (hel2 : ∀ j, j < s.toNatClampNeg → f j = elC σ a j)
    (hs : fIC σ a 2 = s) (hs0 : 0 ≤ s.toInt) (hx : x.toInt = s.toInt + 1) (h6 : ghC σ a = 6 → s.toInt < 100) (hlim : cnC σ < 1000000)
    (c1 : cnC τ = cnC σ + 1) (c2 : slC τ = slC σ + m) (c3 : τ.1.2 = σ.1.2)
    (c4 : ∀ c, c ≠ cnC σ → τ.2.1 c = σ.2.1 c) (c5 : τ.2.1 (cnC σ) = (103, m, a + 1))
    (c6 : ∀ c k, (k ≠ 2 ∨ c ≠ a) → fIC τ c k = fIC σ c k) (c7 : fIC τ a 2 = x)
    (c8 : ∀ c k, (k ≠ 1 ∨ c ≠ a) → fRC τ c k = fRC σ c k) (c9 : fRC τ a 1 = some (cnC σ))
    (c10 : ∀ c, c ≠ cnC σ → eIC τ c = eIC σ c) (c11 : ∀ c, c ≠ cnC σ → eRC τ c = eRC σ c)
    (c12 : eRC τ (cnC σ) = va_up f s.toNatClampNeg (some b)) (c13 : ∀ c, c ≠ cnC σ → eLC τ c = eLC σ c) : AdQ a b σ τ := by
  have tg : ∀ c, c < cnC σ → tgC τ c = tgC σ c ∧ alC τ c = alC σ c ∧ ghC τ c = ghC σ c := fun c hc => by
    have e := c4 c (by omega)
    exact ⟨by unfold tgC; rw [e], by unfold alC; rw [e], by unfold ghC; rw [e]⟩
  have tn : tgC τ (cnC σ) = 103 ∧ alC τ (cnC σ) = m ∧ ghC τ (cnC σ) = a + 1 := ⟨by unfold tgC; rw [c5], by unfold alC; rw [c5], by unfold ghC; rw [c5]⟩
  have e : ExC [0, 1, 2, 999] σ τ := by
    refine ⟨by omega, ⟨c3, fun z => absurd z (by decide), fun c hc _ => ⟨c10 c (by omega), c13 c (by omega)⟩⟩, fun c hc => ⟨tg c hc, fun _ k hk => ⟨c6 c k (Or.inl (fun z => by subst z; revert hk; decide)), c8 c k (Or.inl (fun z => by subst z; revert hk; decide))⟩, ⟨fun _ hw => ?_, fun _ z => absurd z (by decide)⟩, fun k hk => ⟨c6 c k (Or.inl (fun z => by subst z; revert hk; decide)), c8 c k (Or.inl (fun z => by subst z; revert hk; decide))⟩⟩⟩
    unfold WhC
    rw [c6 c 60 (Or.inl (by decide)), c8 c 73 (Or.inl (by decide))]
    exact hw
  have hnew : ∀ c, cnC σ ≤ c → c < cnC τ → c = cnC σ := fun c h1 h2 => by omega
  have hc1 : (s.toNatClampNeg : Int) = s.toInt := by show ((s.toInt.toNat : Nat) : Int) = _; omega
  have hc2 : (x.toNatClampNeg : Int) = x.toInt := by show ((x.toInt.toNat : Nat) : Int) = _; omega
  have hH : HI0 τ := by
    refine h.ex e (fun c h1 h2 => ?_) (fun c k hc hk => ⟨?_, ?_⟩) (fun c hc => ?_)
    · obtain rfl := hnew c h1 h2
      refine ⟨fun k hk => ⟨IvC_any (el1C hk (by omega)), RfC_any (el1C hk (by omega))⟩, XaC.no tn.1 (by decide)⟩
    · by_cases z : k ≠ 2 ∨ c ≠ a
      · exact Or.inl (c6 c k z)
      · have z1 : k = 2 := by by_cases y : k = 2; exact y; exact absurd (Or.inl y) z
        have z2 : c = a := by by_cases y : c = a; exact y; exact absurd (Or.inr y) z
        subst z1 z2
        rw [c7]
        exact Or.inr ⟨by show (0 : Int) ≤ _; omega, by show _ ≤ (20000 : Int); omega⟩
    · by_cases z : k ≠ 1 ∨ c ≠ a
      · exact Or.inl (c8 c k z)
      · have z1 : k = 1 := by by_cases y : k = 1; exact y; exact absurd (Or.inl y) z
        have z2 : c = a := by by_cases y : c = a; exact y; exact absurd (Or.inr y) z
        subst z1 z2
        rw [c9]
        exact Or.inr (Or.inl rfl)
    · by_cases z : c = a
      · subst z
        refine XaC.of0 ((tg c hc).1.trans t.2.1) (Or.inr ⟨cnC σ, c9, ⟨by omega, tn.1, tn.2.2⟩, ⟨by rw [c7, tn.2.1]; omega, by rw [tn.2.1]; omega, by rw [tn.2.1]; omega, fun z => by rw [c7]; rw [(tg c hc).2.2] at z; have := h6 z; omega⟩, fun j hj => ?_⟩)
        rw [c7] at hj
        rw [c12, (tg c hc).2.2]
        by_cases y : j = s.toNatClampNeg
        · subst y
          exact ⟨b, va_up_self _ _ _, hb.x e⟩
        · obtain ⟨b', q1, q2⟩ := hel j (by omega)
          exact ⟨b', by rw [va_up_ne _ _ y]; exact q1, q2.x e⟩
      · exact XaC.mono h e hc (fun k _ _ => c6 c k (Or.inr z)) (fun k _ _ => c8 c k (Or.inr z)) (fun r hr _ => c11 r (by omega)) (fun _ => c10 c (by omega)) (fun _ => c11 c (by omega))
  refine ⟨hH, fun x hx => hx.ex e (fun c h1 h2 => by obtain rfl := hnew c h1 h2; rw [tn.1]; decide) rfl, e, gwC_of e ?_, by omega, fun c hc ht => ?_, by rw [c7, hs]; exact hx, fun c hc => c6 c 2 (Or.inr hc), fun c hc ht hn j hj => ?_, fun j hj => ?_, ?_⟩
  · have g0 : gsC τ (cnC τ) = gsC τ (cnC σ) := by
      rw [c1]
      show gsC τ (cnC σ) + gpC τ (cnC σ) = _
      rw [gpC_no (by rw [tn.1]; decide)]
      rfl
    have g1 : ∀ c, c < cnC σ → c ≠ a → gpC τ c = gpC σ c := fun c hc hn => gpC_x h hc (tg c hc).1 (fun _ => c8 c 1 (Or.inr hn)) (fun r hr _ => (tg r hr).2.1)
    have g2 : gpC τ a = 6500 - m := by rw [gpC_row ((tg a t.1).1.trans t.2.1) c9 hlim, tn.2.1]
    rw [g0, c1, c2]
    rcases hg with ⟨q1, q2⟩ | ⟨r, q1, q2, q3, q4⟩
    · have g3 := gpC_emp t.2.1 q1
      have := gsC_one (σ := σ) (τ := τ) (d := 10) (cnC σ) t.1 g1 (by omega)
      omega
    · have g3 := gpC_row t.2.1 q1 (by omega)
      have := gsC_one (σ := σ) (τ := τ) (d := alC σ r / 2) (cnC σ) t.1 g1 (by omega)
      omega
  · by_cases z : c = a
    · subst z; rw [c7, hs]; omega
    · rw [c6 c 2 (Or.inr z)]; omega
  · rcases (h c hc).2.1 ht with ⟨-, p2⟩ | ⟨r, p1, ⟨p2, -⟩, -⟩
    · omega
    · rw [el_of p1, el_of ((c8 c 1 (Or.inr hn)).trans p1), c11 r (by omega)]
  · rw [el_of c9, c12, va_up_ne _ _ (by rw [hs] at hj; omega)]
    exact hel2 j (by rw [hs] at hj; omega)
  · rw [el_of c9, c12, hs]
    exact va_up_self _ _ _
theorem HI0.q103e {σ : CsC} {a r : Nat} {f : Nat → Option Nat} (h : HI0 σ) (hr : tgC σ r = 103) (hg : ghC σ r = a + 1) (hz : ∀ j, j < (fIC σ a 2).toNatClampNeg → f j = eRC σ r j) : HI0 (qRC σ r f) := by
  intro b hb
  refine ⟨fun k hk => (h b hb).1 k hk, ?_⟩
  obtain ⟨x0, x2, x5, x9, x10, x100, x104, x105, x6⟩ := (h b hb).2
  refine ⟨fun ht => ?_, x2, x5, x9, x10, x100, fun ht j c hc => ?_, fun ht j c hc => ?_, x6⟩
  · rcases x0 ht with q | ⟨s, p1, ⟨p2, p3, p4⟩, p5, p6⟩
    · exact Or.inl q
    · refine Or.inr ⟨s, p1, ⟨p2, p3, p4⟩, p5, fun j hj => ?_⟩
      by_cases e : s = r
      · subst e
        have e2 : b = a := by omega
        subst e2
        have hj : j < (fIC σ b 2).toNatClampNeg := hj
        have e1 : eRC (qRC σ s f) s = f := u1C_eq
        rw [e1, hz j hj]
        exact p6 j hj
      · have e1 : eRC (qRC σ r f) s = eRC σ s := u1C_ne e
        rw [e1]
        exact p6 j hj
  · have ht' : tgC σ b = 104 := ht
    have e1 : eRC (qRC σ r f) b = eRC σ b := u1C_ne (fun q => by subst q; omega)
    rw [e1] at hc
    exact x104 ht j c hc
  · have ht' : tgC σ b = 105 := ht
    have e1 : eRC (qRC σ r f) b = eRC σ b := u1C_ne (fun q => by subst q; omega)
    rw [e1] at hc
    exact x105 ht j c hc
theorem HI0.pIx {σ : CsC} {a k c : Nat} {v : Int32} (h : HI0 σ) (t : TyC σ a c) (hf : finC k = false) (hv : IvC k v) (hx : XaC (pIC σ a k v) a) : HI0 (pIC σ a k v) := by
  have e : ExC [k] σ (pIC σ a k v) := ExC.pI (by simp) (Or.inr hf)
  refine h.ex e (fun b h1 h2 => absurd h2 (Nat.not_lt.mpr h1)) (fun b j hb hj => ⟨?_, Or.inl rfl⟩) (fun b hb => ?_)
  · by_cases q : (j ≠ k ∨ b ≠ a)
    · exact Or.inl (fI_pI q)
    · have q1 : j = k := by by_cases z : j = k; exact z; exact absurd (Or.inl z) q
      have q2 : b = a := by by_cases z : b = a; exact z; exact absurd (Or.inr z) q
      subst q1 q2
      rw [fI_pIs]
      exact Or.inr hv
  · by_cases q : b = a
    · subst q; exact hx
    · exact XaC.mono h e hb (fun j _ _ => fI_pI (Or.inr q)) (fun _ _ _ => rfl) (fun _ _ _ => rfl) (fun _ => rfl) (fun _ => rfl)
theorem addNC {σ : CsC} {a b r : Nat} {s x : Int32} (h : HI0 σ) (t : TyC σ a 0) (hb : ElC σ (ghC σ a) b) (h1 : fRC σ a 1 = some r) (h2 : r < cnC σ ∧ tgC σ r = 103 ∧ ghC σ r = a + 1)
    (h3 : (s.toInt < alC σ r) ∧ alC σ r ≤ 20000 ∧ 10 ≤ alC σ r) (h4 : ∀ j, j < (fIC σ a 2).toNatClampNeg → ∃ b, eRC σ r j = some b ∧ ElC σ (ghC σ a) b)
    (hs : fIC σ a 2 = s) (hs0 : 0 ≤ s.toInt) (hx : x.toInt = s.toInt + 1) (h6 : ghC σ a = 6 → s.toInt < 100) : AdQ a b σ (pIC (qRC σ r (va_up (eRC σ r) s.toNatClampNeg (some b))) a 2 x) := by
  have hc1 : (s.toNatClampNeg : Int) = s.toInt := by show ((s.toInt.toNat : Nat) : Int) = _; omega
  have hc2 : (x.toNatClampNeg : Int) = x.toInt := by show ((x.toInt.toNat : Nat) : Int) = _; omega
  have H1 : HI0 (qRC σ r (va_up (eRC σ r) s.toNatClampNeg (some b))) := h.q103e h2.2.1 h2.2.2 (fun j hj => va_up_ne _ _ (by rw [hs] at hj; omega))
  have X2 : ExC [2] σ (pIC (qRC σ r (va_up (eRC σ r) s.toNatClampNeg (some b))) a 2 x) := (ExC.qR (M := [2]) (fun _ => rfl)).tr (ExC.pI rfl (Or.inr (by decide)))
  have X : ExC [0, 1, 2, 999] σ (pIC (qRC σ r (va_up (eRC σ r) s.toNatClampNeg (some b))) a 2 x) := X2.mo rfl
  have hsg := X2.sg h ⟨rfl, rfl⟩
  refine ⟨H1.pIx (c := 0) t (by decide) ⟨by show (0 : Int) ≤ _; omega, by show _ ≤ (20000 : Int); omega⟩ (XaC.of0 t.2.1 (Or.inr ⟨r, h1, h2, ⟨?_, h3.2.1, h3.2.2, fun z => ?_⟩, fun j hj => ?_⟩)), fun y hy => hy.ex X2 (fun c p1 p2 => absurd p2 (Nat.not_lt.mpr p1)) rfl, X, gwC_of X (by omega), by omega, fun c hc ht => ?_, by rw [fI_pIs, hs]; exact hx, fun c hc => fI_pI (Or.inr hc), fun c hc ht hn j hj => ?_, fun j hj => ?_, ?_⟩
  · rw [fI_pIs]; show x.toInt ≤ (alC σ r : Int); omega
  · rw [fI_pIs]; have := h6 z; omega
  · rw [fI_pIs] at hj
    have e1 : eRC (pIC (qRC σ r (va_up (eRC σ r) s.toNatClampNeg (some b))) a 2 x) r = va_up (eRC σ r) s.toNatClampNeg (some b) := u1C_eq
    rw [e1]
    by_cases y : j = s.toNatClampNeg
    · subst y
      exact ⟨b, va_up_self _ _ _, hb.x X⟩
    · obtain ⟨b', q1, q2⟩ := h4 j (by rw [hs]; omega)
      exact ⟨b', by rw [va_up_ne _ _ y]; exact q1, q2.x X⟩
  · by_cases z : c = a
    · subst z; rw [fI_pIs, hs]; omega
    · rw [fI_pI (Or.inr z)]
      show (fIC σ c 2).toInt ≤ _
      omega
  · rcases (h c hc).2.1 ht with ⟨-, p2⟩ | ⟨r', p1, ⟨p2, p3, p4⟩, -⟩
    · omega
    · rw [el_of p1, el_of (σ := pIC (qRC σ r (va_up (eRC σ r) s.toNatClampNeg (some b))) a 2 x) p1]
      have hr : r' ≠ r := fun q => by rw [q, h2.2.2] at p4; omega
      exact congrFun (show eRC (qRC σ r (va_up (eRC σ r) s.toNatClampNeg (some b))) r' = eRC σ r' from u1C_ne hr) j
  · have e1 : eRC (pIC (qRC σ r (va_up (eRC σ r) s.toNatClampNeg (some b))) a 2 x) r = va_up (eRC σ r) s.toNatClampNeg (some b) := u1C_eq
    rw [el_of h1, el_of (σ := pIC (qRC σ r (va_up (eRC σ r) s.toNatClampNeg (some b))) a 2 x) h1, e1, va_up_ne _ _ (by rw [hs] at hj; omega)]
  · have e1 : eRC (pIC (qRC σ r (va_up (eRC σ r) s.toNatClampNeg (some b))) a 2 x) r = va_up (eRC σ r) s.toNatClampNeg (some b) := u1C_eq
    rw [el_of (σ := pIC (qRC σ r (va_up (eRC σ r) s.toNatClampNeg (some b))) a 2 x) h1, e1, hs]
    exact va_up_self _ _ _
theorem ElC.ho {σ : CsC} {g b : Nat} (h : ElC σ g b) : hoC σ 103 (some b) := Or.inr (Or.inr ⟨rfl, g, h.2.1, h.1.ob (by have := h.2.1; omega)⟩)
abbrev P_ad3 : CpC := fun As σ => ∃ (a b d : Nat) (s : Int32), As = [.inr (.inr (some a)), .inr (.inr (some b)), .inr (.inr (some d)), .inl s] ∧ HI0 σ ∧ TyC σ a 0 ∧ ElC σ (ghC σ a) b ∧ fRC σ a 1 = some d ∧ fIC σ a 2 = s ∧ s.toInt < 4300 ∧ cnC σ + 1 ≤ cpC σ ∧ slC σ + 10000 ≤ spC σ ∧ (ghC σ a = 6 → s.toInt < 100)
abbrev Q_ad3 : CqC := fun As σ w τ => match As with
  | [.inr (.inr (some a)), .inr (.inr (some b)), .inr (.inr (some _)), .inl _] => w = none ∧ AdQ a b σ τ
  | _ => False
theorem m_ad3 (l : Launch) : CMetC l 6 242 P_ad3 Q_ad3 := by
  refine CMetC.of KJx4a65c_add_72be8 [(244, P_gr0, Q_gr0)] hJx4a65c_add_72be8 (by decide) (by decide) okJx4a65c_add_72be8 (cc1C (m_gr0 l) (by decide) cc0C) ?_ ?_
  · rintro As σ ⟨a, b, d, s, rfl, -⟩
    exact Nat.le_of_ble_eq_true rfl
  · rintro As σ0 ⟨a, b, d, s, rfl, H0, t0, hb, hd, hs, h43, h1, h2, h6⟩ hgr G hB hW
    change G 0 [(0, .inr (.inr (some a))), (1, .inr (.inr (some b))), (2, .inr (.inr (some d))), (3, .inl s)] [] σ0
    have hlim : cnC σ0 < 1000000 := by have := hgr.2.2.2; omega
    obtain ⟨s', -, es, hs0, -⟩ := cg2 H0 t0
    obtain rfl : s' = s := es.symm.trans hs
    have fin : ∀ m f, ((fRC σ0 a 1 = some 1000000 ∧ m = 10) ∨ ∃ r, fRC σ0 a 1 = some r ∧ r < cnC σ0 ∧ m = alC σ0 r + alC σ0 r / 2 ∧ alC σ0 r ≤ 4300) → (10 ≤ m ∧ m ≤ 20000 ∧ s'.toInt + 1 ≤ (m : Int)) → (∀ j, j < s'.toNatClampNeg → ∃ b', f j = some b' ∧ ElC σ0 (ghC σ0 a) b') → (∀ j, j < s'.toNatClampNeg → f j = elC σ0 a j) → G 11 [(2, .inr (.inr (some (cnC σ0)))), (0, .inr (.inr (some a))), (1, .inr (.inr (some b))), (3, .inl s')] [] (grwC σ0 a m f) := by
      intro m f hg hm hel hel2
      have hn : a ≠ cnC σ0 := by have := t0.1; omega
      have e4 : ∀ c, c ≠ cnC σ0 → (grwC σ0 a m f).2.1 c = σ0.2.1 c := fun c hc => u1C_ne hc
      have e5 : (grwC σ0 a m f).2.1 (cnC σ0) = (103, m, 0) := u1C_eq
      have hr : RwC (grwC σ0 a m f) (cnC σ0) 103 := ⟨Nat.lt_succ_self _, by unfold tgC; rw [e5]⟩
      have hal : alC (grwC σ0 a m f) (cnC σ0) = m := by unfold alC; rw [e5]
      have ho : ObC (grwC σ0 a m f) a 0 := by
        have q := t0.ob (by decide)
        exact ⟨Nat.lt_succ_of_lt q.1, by unfold tgC; rw [e4 a hn]; exact q.2.1, by unfold tgC; rw [e4 a hn]; exact q.2.2⟩
      have hb2 : hoC (grwC σ0 a m f) 103 (some b) := by
        have q := hoC_nA (m := m) hb.ho
        exact q
      have eR : eRC (grwC σ0 a m f) (cnC σ0) = f := u1C_eq
      refine hB _ _ _ _ (kgoC (is := KJx4a65c_add_72be8_11) rfl (k_aload_n rfl (k_iload_n rfl (k_aload_n rfl (k_aas hr hs0 (by rw [hal]; omega) hb2 (k_aload_n rfl (k_iload_n rfl (k_iconst (m := 1) rfl (fun o ho1 => k_iadd (by omega) (by omega) (fun x hx => k_putIg (k := 2) ho (by decide) (k_returnW (τ := rTC (pIC (qRC (grwC σ0 a m f) (cnC σ0) (va_up (eRC (grwC σ0 a m f) (cnC σ0)) s'.toNatClampNeg (some b))) a 2 x) (cnC σ0) 103 (a + 1)) (WeC.t (Or.inl hr.2)) ⟨rfl, ?_⟩)))))))))))
      rw [eR]
      refine growC (m := m) (f := f) (s := s') (x := x) (b := b) H0 t0 hb hg hm hel hel2 hs hs0 (by omega) h6 hlim rfl rfl rfl ?_ ?_ ?_ ?_ ?_ ?_ ?_ ?_ ?_ ?_
      · intro c hc
        exact (u1C_ne hc).trans (e4 c hc)
      · show u1C (grwC σ0 a m f).2.1 (cnC σ0) (103, ((grwC σ0 a m f).2.1 (cnC σ0)).2.1, a + 1) (cnC σ0) = _
        rw [u1C_eq, e5]
      · intro c k hk
        exact fI_pI hk
      · exact fI_pIs
      · intro c k hk
        exact fR_pR hk
      · exact fR_pRs (σ := qRC (nAC σ0 103 m 0) (cnC σ0) f)
      · intro c hc
        exact u1C_ne hc
      · intro c hc
        exact (u1C_ne hc).trans ((u1C_ne hc).trans (u1C_ne hc))
      · exact u1C_eq
      · intro c hc
        exact u1C_ne hc
    rcases (H0 a t0.1).2.1 t0.2.1 with ⟨q1, q2⟩ | ⟨r, q1, q2, q3, q4⟩
    · obtain rfl : 1000000 = d := Option.some.inj (q1.symm.trans hd)
      have hz : s'.toInt = 0 := by rw [← hs]; exact q2
      refine hB _ _ _ _ (kgoC (is := KJx4a65c_add_72be8_0) rfl (k_iload_n rfl (k_aload_n rfl (k_alenK (n := 0) (by omega) (fun y hy => k_ic_ne (fun h => by exfalso; omega) (fun h => k_nil ?_))))))
      refine hB _ _ _ _ (kgoC (is := KJx4a65c_add_72be8_6) rfl (k_aload_n rfl (k_inv (P := P_gr0) (Q := Q_gr0) rfl rfl rfl rfl (Nat.le_of_ble_eq_true rfl) (t0.rc (by decide)) ⟨a, 0, rfl, ⟨t0.ob (by decide), Or.inl ⟨q1, rfl⟩, h1, h2⟩, q2⟩ (fun w σ1 hq => ?_))))
      obtain ⟨m, f, rfl, rfl, hg⟩ := hq
      have hm : m = 10 := by
        rcases hg with ⟨-, z⟩ | ⟨r, z, z2, -⟩
        · exact z
        · have := z2.1
          cases q1.symm.trans z
          omega
      refine k_st (st' := [.inr (.inr (some (cnC σ0)))]) rfl (k_astore_n (ls' := [(2, .inr (.inr (some (cnC σ0)))), (0, .inr (.inr (some a))), (1, .inr (.inr (some b))), (3, .inl s')]) rfl (k_nil ?_))
      have hz0 : s'.toNatClampNeg = 0 := by show s'.toInt.toNat = 0; omega
      refine fin m f (Or.inl ⟨q1, hm⟩) ⟨by omega, by omega, by omega⟩ (fun j hj => ?_) (fun j hj => ?_)
      · omega
      · omega
    · obtain rfl : r = d := Option.some.inj (q1.symm.trans hd)
      rw [hs] at q3
      have hc1 : (s'.toNatClampNeg : Int) = s'.toInt := by show ((s'.toInt.toNat : Nat) : Int) = _; omega
      refine hB _ _ _ _ (kgoC (is := KJx4a65c_add_72be8_0) rfl (k_iload_n rfl (k_aload_n rfl (k_alenR ⟨q2.1, q2.2.1⟩ rfl (by omega) (fun y hy => k_ic_ne (fun h => ?_) (fun h => k_nil ?_))))))
      · refine hB _ _ _ _ (kgoC (is := KJx4a65c_add_72be8_11) rfl (k_aload_n rfl (k_iload_n rfl (k_aload_n rfl (k_aas ⟨q2.1, q2.2.1⟩ hs0 (by omega) hb.ho (k_aload_n rfl (k_iload_n rfl (k_iconst (m := 1) rfl (fun o ho1 => k_iadd (by omega) (by omega) (fun x hx => k_putIg (k := 2) (t0.ob (by decide)) (by decide) (k_return ⟨rfl, ?_⟩)))))))))))
        exact addNC H0 t0 hb q1 q2 ⟨by omega, q3.2.1, q3.2.2.1⟩ q4 hs hs0 (by omega) h6
      · have hfull : s'.toNatClampNeg = alC σ0 r := by omega
        refine hB _ _ _ _ (kgoC (is := KJx4a65c_add_72be8_6) rfl (k_aload_n rfl (k_inv (P := P_gr0) (Q := Q_gr0) rfl rfl rfl rfl (Nat.le_of_ble_eq_true rfl) (t0.rc (by decide)) ⟨a, alC σ0 r, rfl, ⟨t0.ob (by decide), Or.inr ⟨r, q1, ⟨q2.1, q2.2.1⟩, rfl, q3.2.2.1, by omega, fun i hi => ?_⟩, h1, h2⟩, by rw [hs]; omega⟩ (fun w σ1 hq => ?_))))
        · obtain ⟨b', z1, z2⟩ := q4 i (by rw [hs]; omega)
          rw [z1]
          exact z2.ho
        · obtain ⟨m, f, rfl, rfl, hg⟩ := hq
          have hm : m = alC σ0 r + alC σ0 r / 2 ∧ f = va_cpy (eRC σ0 r) (fun _ => none) 0 0 (alC σ0 r) := by
            rcases hg with ⟨z, -⟩ | ⟨r', z, -, z2, z3⟩
            · cases q1.symm.trans z
              omega
            · cases q1.symm.trans z
              exact ⟨z2, z3⟩
          refine k_st (st' := [.inr (.inr (some (cnC σ0)))]) rfl (k_astore_n (ls' := [(2, .inr (.inr (some (cnC σ0)))), (0, .inr (.inr (some a))), (1, .inr (.inr (some b))), (3, .inl s')]) rfl (k_nil ?_))
          refine fin m f (Or.inr ⟨r, q1, q2.1, hm.1, by omega⟩) ⟨by omega, by omega, by omega⟩ (fun j hj => ?_) (fun j hj => ?_)
          · obtain ⟨b', z1, z2⟩ := q4 j (by rw [hs]; exact hj)
            refine ⟨b', ?_, z2⟩
            rw [hm.2]
            unfold va_cpy
            rw [if_pos ⟨Nat.zero_le _, by omega⟩, Nat.sub_zero, Nat.zero_add]
            exact z1
          · rw [hm.2, el_of q1]
            unfold va_cpy
            rw [if_pos ⟨Nat.zero_le _, by omega⟩, Nat.sub_zero, Nat.zero_add]

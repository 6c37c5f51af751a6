/-! the reference's flow: method by method, the whole program -/
/-- methods' TYPES, the bits that they begin with -/
def MtF (σ0 : RS) (ms : MfT) (V1 : Nat → Int) (nm : Nat) : Prop := nm ≤ 10 ∧ ∀ Y, FfR σ0 Y → ∀ M : Nat, M < nm → (aI Y 38 M).toInt = mtyN ms M ∧ stB Y (Int32.ofInt (M : Int)) (gI Y 42).toInt.toNat = pbL (V1 M) (npT ms M) 0 zerB
section
variable {σ σ0 τ Y : RS} {C : CxT} {z : ZS} {T : TbT} {l : List ItZ} {A : Prop} {u v : Int64} {N : Int → Int} {ms : MfT} {V1 : Nat → Int} {nm f : Nat} {M : Nat} {m : Int32}
/-- a method's end -/
theorem go_54 {b t e : Int} (E : FxE σ C z T) (hs : (.inr (54, (M : Int), b, t, e) :: l) <:+ z.2.1) (hr : RnR τ σ (plI l) m) (hb : ¬ BdF σ) (h : Bw σ A u v) (hM : M < 10) : ((A ∧ ¬ (aI σ 38 M).toInt = 5) ∧ BdF τ) ∨ (¬ (A ∧ ¬ (aI σ 38 M).toInt = 5) ∧ ∃ p, RnR τ (sttS (laS σ 0 p) (m + 1)) (plI (.inr (54, (M : Int), b, t, e) :: l)) (m + 1) ∧ ¬ BdF (sttS (laS σ 0 p) (m + 1))) := by
  have i := ic_at E hs
  obtain ⟨X, c1, m1, st, r2⟩ := hr.st (pl_lt E hs).1
  have pl := (pl_lt E hs).2.1
  have l4 := E.1.2.2
  have ln := hs.length_le
  rw [List.length_cons] at ln
  have i20 : aI σ 20 (plI l).toNatClampNeg = Int32.ofInt (M : Int) := i32_lit (i.2.1.trans (i32_nat (by omega)).symm)
  have n10 : ¬ aI σ 20 (plI l).toNatClampNeg = 10 := fun q => by
    have := i.2.1
    rw [q] at this
    have this : (10 : Int) = (M : Int) := this
    omega
  have n11 : ¬ aI σ 20 (plI l).toNatClampNeg = 11 := fun q => by
    have := i.2.1
    rw [q] at this
    have this : (11 : Int) = (M : Int) := this
    omega
  have iM : (aI σ 20 (plI l).toNatClampNeg).toNatClampNeg = M := nT_x i.2.1
  have lt : ltR σ (plI l) ↔ (A ∧ ¬ (aI σ 38 M).toInt = 5) := by
    unfold ltR
    rw [i.1, if_neg n10, if_neg n11, iM, h.1.1]
    constructor
    · rintro (q | q)
      · exact absurd q.1 (by show ¬ (54 : Int) = 20; decide)
      · exact ⟨q.2.1, fun w => q.2.2 (i32_lit w)⟩
    · exact fun q => Or.inr ⟨rfl, q.1, fun w => q.2 (by rw [w]; rfl)⟩
  rcases st with ⟨q, _⟩ | ⟨_, w, p, hu, e1, g⟩
  · have q := Int32.le_iff_toInt_le.mp q
    rw [i.1] at q
    exact absurd q (by show ¬ (54 : Int) ≤ 18; decide)
  · have es : fsS (laS σ w p) (plI l) = (laS σ w p, plI l + 1) := fs_d (by
      have : (aI (laS σ w p) 19 (plI l).toNatClampNeg).toInt = 54 := i.1
      omega)
    rw [es] at e1 g
    have e1 : c1 = plI l + 1 := e1
    have ps := pl_s E hs
    have cc : ¬ c1 ≤ 0 ∧ aI σ 19 (c1 - 1).toNatClampNeg = 54 := by
      have e2 : c1 - 1 = plI l := by rw [e1]; exact Int32.add_sub_cancel _ _
      refine ⟨fun q => ?_, by rw [e2]; exact i32_lit i.1⟩
      have q := Int32.le_iff_toInt_le.mp q
      rw [e1, i32_add (by omega) (by omega), pl] at q
      have q : (l.length : Int) + 1 ≤ 0 := q
      omega
    rcases g with ⟨q, _⟩ | ⟨_, e3, e4⟩
    · exact absurd cc q
    · have e4 : X = sttS (laS σ w p) (m + 1) := e4
      by_cases c : A ∧ ¬ (aI σ 38 M).toInt = 5
      · refine Or.inl ⟨c, r2.bd (Or.inl ?_)⟩
        rw [e4]
        exact hu.mpr (Or.inr (lt.mpr c))
      · have w0 : w = 0 := by
          by_cases d : w = 0
          · exact d
          · rcases hu.mp d with q | q
            · exact absurd (Or.inl q) hb
            · exact absurd (lt.mp q) c
        subst w0
        refine Or.inr ⟨c, p, ?_, fun q => ?_⟩
        · rw [e4, e1, e3, ps] at r2
          exact r2
        · rcases q with q | q
          · exact q rfl
          · exact hb (Or.inr q)
theorem FqT.tt {k : Nat} {σ : RS} {m p : Int32} : FqT k σ (sttS (laS σ 0 p) m) := ⟨FfR.rf.la.tt, fun _ _ => ⟨rfl, rfl, rfl, rfl, rfl⟩, rfl, rfl, rfl⟩
theorem i32_s10 {n : Nat} (h : n ≤ 10) : Int32.ofInt (n : Int) + 1 = Int32.ofInt ((n + 1 : Nat) : Int) := i32_suc (by omega)
/-- one method -/
theorem me_go (H : GxF N C z T ms) (hok : AlB (okS C N T) [] z.2.1) (hth : ∀ i, i < snM z → 0 ≤ thS z i) (hMt : MtF σ0 ms V1 nm) (hM : M < nm) {p q : Ps} (h : MeD N z M p q) (hc : CtX z (p.1, p.2.1 + 1, p.2.2) q) (hz : q.1 ≤ snM z) (hq : q.2.2 <:+ z.2.1) (hf : 2 * snM z ≤ f) (hF : FfR σ0 σ) (hB : BgF τ C z T (Int32.ofInt (M : Int)) p.1 p.2.2 σ) (hw : Bw σ True (pbL (V1 M) (npT ms M) 0 zerB) (pbL (V1 M) (npT ms M) 0 zerB)) :
    (BdF τ ∧ ¬ ∃ R, (dF N z T f).1 (bjS z p.1) true (pbL (V1 M) (npT ms M) 0 zerB) = some R ∧ (R.1 = true → mtyN ms M = 5)) ∨
    ∃ R Y, ((dF N z T f).1 (bjS z p.1) true (pbL (V1 M) (npT ms M) 0 zerB) = some R ∧ (R.1 = true → mtyN ms M = 5)) ∧ BgF τ C z T (Int32.ofInt ((M + 1 : Nat) : Int)) q.1 q.2.2 Y ∧ FfR σ0 Y ∧ Bw Y True (stB Y (Int32.ofInt ((M + 1 : Nat) : Int)) (gI Y 42).toInt.toNat) (stB Y (Int32.ofInt ((M + 1 : Nat) : Int)) (gI Y 42).toInt.toNat) ∧ LgF z p.1 q.1 σ Y R.2.2.2 := by
  obtain ⟨q1, t, ⟨L, t2, hr, D⟩, rfl⟩ := h
  have hz : q1.1 ≤ snM z := hz
  have hq : (cIy 54 M 0 t :: q1.2.2) <:+ z.2.1 := hq
  have hq1 : q1.2.2 <:+ z.2.1 := (List.suffix_cons _ _).trans hq
  have hP : ∀ a p q, StD N (M : Int) z 20 a p q → PgD (-1) p q ∧ p.1 < q.1 := fun _ _ _ h => h.pg
  obtain ⟨ra, rb, rc⟩ := rw_ta hP _ _ _ hr
  have rb : p.1 + 1 ≤ q1.1 := rb
  have bj : bjS z p.1 = hdI L := D.bj
  have c1 : CtX z (p.1 + 1, p.2.1 + 1, p.2.2) q1 := by
    intro y l hs o y1 y2
    have r := hc y l hs o y1 y2
    refine ⟨r.1, ?_⟩
    have r2 : l.length < (cIy 54 M 0 t :: q1.2.2).length := r.2
    rw [List.length_cons] at r2
    by_cases e : l.length = q1.2.2.length
    · have s1 := sf_lt hs hq r.2
      have s1 : (Sum.inr y :: l) <:+ (cIy 54 M 0 t :: q1.2.2) := s1
      have s2 := s1.eq_of_length_le (by rw [List.length_cons, List.length_cons]; omega)
      cases (List.cons.inj s2).1
      exact absurd o (show ¬ thO 54 = true by decide)
    · show l.length < q1.2.2.length
      omega
  have hR : FwRo τ C N z T (RwD (StX z (StD N (M : Int) z 20)) z (lvN 20)) := fw_row H hP (fwS_st H hok hth 20 (by decide))
  have hB' := hB.mv (k := 0) (lo' := p.1 + 1) hB.1 NxT.rf hB.2.1 (Nat.le_refl _) (Nat.le_succ _)
  have nm10 := hMt.1
  rw [bj]
  rcases hR (p.1 : Int) L _ _ (rw_x hP _ _ _ hr (fun e => absurd e (by decide)) c1 hz hq1) hz hq1 f _ σ true _ (by show 2 * (q1.1 - (p.1 + 1)) ≤ f; omega) (by show (p.1 : Int) < ((p.1 + 1 : Nat) : Int); omega) hB' (hw.cg (iff_of_true trivial rfl)) with ⟨d1, d2⟩ | ⟨R, Y, e1, B2, w2, J2, F2, G2⟩
  · exact Or.inl ⟨d1, fun ⟨R, r1, _⟩ => by rw [d2] at r1; cases r1⟩
  have A2 := B2.1
  have ty := (hMt.2 Y (hF.tr F2.1) M hM).1
  rcases go_54 A2.2.1.1 hq A2.1.1 A2.1.2 w2 (by omega) with ⟨d1, d2⟩ | ⟨d1, p', d2, d3⟩
  · refine Or.inl ⟨d2, fun ⟨S, s1, s2⟩ => ?_⟩
    rw [e1] at s1
    cases s1
    rw [ty] at d1
    exact d1.2 (s2 d1.1)
  · have em := i32_s10 (n := M) (by omega)
    rw [em] at d2 d3
    have fq : FqT 0 Y (sttS (laS Y 0 p') (Int32.ofInt ((M + 1 : Nat) : Int))) := FqT.tt
    have jq : Jq Y (sttS (laS Y 0 p') (Int32.ofInt ((M + 1 : Nat) : Int))) := ⟨rfl, rfl, rfl, rfl, rfl, rfl⟩
    refine Or.inr ⟨R, _, ⟨e1, fun r => ?_⟩, ?_, (hF.tr F2.1).tr fq.1, ?_, (G2.q fq).wd (Nat.le_succ _) (Nat.le_refl _)⟩
    · by_cases c : mtyN ms M = 5
      · exact c
      · exact absurd ⟨r, by rw [ty]; exact c⟩ d1
    · refine ⟨⟨⟨d2, d3⟩, A2.2.1.fr fq.1, ?_⟩, hd_r, B2.2.2.1.q fq, ?_⟩
      · obtain ⟨n, a, b⟩ := A2.2.2
        exact ⟨n, a, by show n ≤ (cIy 54 M 0 t :: q1.2.2).length; rw [List.length_cons]; omega⟩
      · rw [jq.jn]
        exact B2.2.2.2.mo (Nat.le_refl _) (by show (q1.2.2.length : Int) ≤ (((cIy 54 M 0 t :: q1.2.2).length : Nat) : Int); rw [List.length_cons]; omega)
    · have sb : ∀ n, stB (laS Y 0 p') (Int32.ofInt ((M + 1 : Nat) : Int)) n = stB (sttS (laS Y 0 p') (Int32.ofInt ((M + 1 : Nat) : Int))) (Int32.ofInt ((M + 1 : Nat) : Int)) n := by
        intro n
        induction n with
        | zero => rfl
        | succ n ih =>
          rw [stB, stB, ih]
          rfl
      refine ⟨⟨⟨fun _ => trivial, fun _ => by show ¬ (1 : Int32) = 0; decide⟩, ?_, ?_⟩, w2.2⟩
      · exact sb _
      · exact sb _
/-- all methods -/
theorem pr_go (H : GxF N C z T ms) (hok : AlB (okS C N T) [] z.2.1) (hth : ∀ i, i < snM z → 0 ≤ thS z i) (hMt : MtF σ0 ms V1 nm) (hf : 2 * snM z ≤ f) : ∀ (L : List Nat) (M : Nat) (p q : Ps), PrD N z L M p q → M + L.length ≤ nm → ThB p.2.2 (p.2.1 + 1) → CtX z (p.1, p.2.1 + 1, p.2.2) q → q.1 ≤ snM z → q.2.2 <:+ z.2.1 → ∀ σ : RS, FfR σ0 σ → BgF τ C z T (Int32.ofInt (M : Int)) p.1 p.2.2 σ → Bw σ True (stB σ (Int32.ofInt (M : Int)) (gI σ 42).toInt.toNat) (stB σ (Int32.ofInt (M : Int)) (gI σ 42).toInt.toNat) →
    (BdF τ ∧ ¬ FlO N z T ms V1 f L M) ∨ (FlO N z T ms V1 f L M ∧ ∃ Y k, RnR τ Y (plI q.2.2) k ∧ ¬ BdF Y ∧ EnF Y C z T ∧ LgF z p.1 q.1 σ Y (FlG N z T ms V1 f L M)) := by
  intro L
  induction L with
  | nil =>
    intro M p q h _ _ _ _ _ σ _ hB _
    rw [show q = p from h]
    exact Or.inr ⟨trivial, σ, _, hB.1.1.1, hB.1.1.2, hB.1.2.1, LgF.sa (fun _ => ⟨rfl, rfl, rfl⟩)⟩
  | cons j L ih =>
    intro M p q ⟨ej, p1, h1, h2⟩ hn hth' hc hz hq σ hF hB hw
    rw [List.length_cons] at hn
    subst ej
    -- what comes behind
    have g2 : ∀ (L : List Nat) (M : Nat) (p q : Ps), PrD N z L M p q → (p.1 ≤ q.1 ∧ p.2.1 ≤ q.2.1) ∧ TaB (fun x => (p.2.1 : Int) + 1 ≤ x ∨ x = -1) p.2.2 q.2.2 := by
      intro L
      induction L with
      | nil => intro M p q h; rw [show q = p from h]; exact ⟨⟨Nat.le_refl _, Nat.le_refl _⟩, TaB.rf⟩
      | cons j L ih2 =>
        intro M p q ⟨_, p1, ⟨q1, t, ⟨L', t2, hr, D⟩, e⟩, h2⟩
        obtain ⟨⟨i1, i2⟩, i3⟩ := ih2 _ _ _ h2
        obtain ⟨r1, r2, r3⟩ := rw_ta (fun _ _ _ h => h.pg) _ _ _ hr
        have r2 : p.1 + 1 ≤ q1.1 := r2
        have r3 : p.2.1 + 1 ≤ q1.2.1 := r3
        rw [e] at i1 i2 i3
        have i1 : q1.1 ≤ q.1 := i1
        have i2 : q1.2.1 ≤ q.2.1 := i2
        refine ⟨⟨by omega, by omega⟩, ((r1.mo (fun x hx => ?_)).c0 rfl).tr (i3.mo (fun x hx => ?_))⟩
        · rcases hx with ⟨hx, _⟩ | hx | ⟨hx, _⟩
          · exact Or.inl (by
              have hx : ((p.2.1 + 1 : Nat) : Int) ≤ x := hx
              omega)
          · exact Or.inr hx
          · exact absurd hx (by decide)
        · have hx : (q1.2.1 : Int) + 1 ≤ x ∨ x = -1 := hx
          show (p.2.1 : Int) + 1 ≤ x ∨ x = -1
          omega
    obtain ⟨⟨b1, b2⟩, b3⟩ := g2 _ _ _ _ h2
    have a1 : p.1 + 1 ≤ p1.1 ∧ p.2.1 + 1 ≤ p1.2.1 ∧ TaB (fun x => ((p.2.1 : Int) + 1 ≤ x ∧ x < (p1.2.1 : Int)) ∨ x = -1) p.2.2 p1.2.2 := by
      obtain ⟨q1, t, ⟨L', t2, hr, D⟩, e⟩ := h1
      obtain ⟨r1, r2, r3⟩ := rw_ta (fun _ _ _ h => h.pg) _ _ _ hr
      rw [e]
      refine ⟨r2, r3, (r1.mo (fun x hx => ?_)).c0 rfl⟩
      rcases hx with ⟨hx, hx2⟩ | hx | ⟨hx, _⟩
      · refine Or.inl ⟨?_, hx2⟩
        have hx : ((p.2.1 + 1 : Nat) : Int) ≤ x := hx
        omega
      · exact Or.inr hx
      · exact absurd hx (by decide)
    have c1 : CtX z (p.1, p.2.1 + 1, p.2.2) p1 := hc.in_ hq (Nat.le_refl _) b2 TaB.rf a1.2.2.1 (b3.mo (fun x hx => by
      show x < ((p.2.1 + 1 : Nat) : Int) ∨ (p1.2.1 : Int) ≤ x
      omega))
    have c2 : CtX z (p1.1, p1.2.1 + 1, p1.2.2) q := hc.in_ hq (show p.2.1 + 1 ≤ p1.2.1 + 1 by omega) (Nat.le_refl _) (a1.2.2.mo (fun x hx => by
      show x < ((p1.2.1 + 1 : Nat) : Int) ∨ (q.2.1 : Int) ≤ x
      omega)) b3.1 TaB.rf
    have t1 : ThB p1.2.2 (p1.2.1 + 1) := by
      intro y hy ho
      obtain ⟨u, hu⟩ := a1.2.2.1
      rw [← hu] at hy
      rcases List.mem_append.mp hy with hy | hy
      · obtain ⟨x1, x2, ex⟩ := List.append_of_mem hy
        have := a1.2.2.2 y (x2 ++ p.2.2) (by
          rw [← hu, ex]
          refine ⟨x1, ?_⟩
          rw [List.append_assoc]
          rfl) (by rw [List.length_append]; omega) ho
        show y.2.1 < ((p1.2.1 + 1 : Nat) : Int)
        omega
      · have := hth' y hy ho
        show y.2.1 < ((p1.2.1 + 1 : Nat) : Int)
        omega
    have hw' := hw
    rw [(hMt.2 σ hF M (by omega)).2] at hw'
    have hz1 : p1.1 ≤ snM z := by omega
    rcases me_go H hok hth hMt (show M < nm by omega) h1 c1 hz1 (b3.1.trans hq) hf hF hB hw' with ⟨d1, d2⟩ | ⟨R, Y, ⟨e1, e1'⟩, e2, e3, e4, e5⟩
    · exact Or.inl ⟨d1, fun ⟨g, _⟩ => d2 g⟩
    rcases ih (M + 1) p1 q h2 (by omega) t1 c2 hz hq Y e3 e2 e4 with ⟨d1, d2⟩ | ⟨d1, W, k, d2, d3, dE, d4⟩
    · exact Or.inl ⟨d1, fun ⟨_, g⟩ => d2 g⟩
    · refine Or.inr ⟨⟨⟨R, e1, e1'⟩, d1⟩, W, k, d2, d3, dE, ?_⟩
      have eG : FlG N z T ms V1 f (p.1 :: L) M = R.2.2.2 ++ FlG N z T ms V1 f L (M + 1) := by
        rw [FlG, e1]
      rw [eG]
      exact e5.tr H.2.2.2.1 hz (by omega) b1 d4
/-- flow of the whole program -/
theorem flow_pr {L : List Nat} (H : GxF N C z T ms) (hok : AlB (okS C N T) [] z.2.1) (hMt : MtF σ0 ms V1 nm) (hf : 2 * snM z ≤ f) (hP : PrD N z L 0 (0, 0, []) (psM z)) (hn : L.length ≤ nm) {n : Nat} {Y : RS} {c m : Int32} (hT : FlT (fl0 σ0) n Y c m) (hc : ¬ c < gI Y 18) (E : EnF (fl0 σ0) C z T) (hF : FfR σ0 (fl0 σ0)) (h0 : ∀ i, i < snM z → SkD z i → (fiS z i).toNat < (gI σ0 2).toInt.toNat) : (BdF Y ↔ ¬ FlO N z T ms V1 f L 0) ∧ (FlO N z T ms V1 f L 0 → LgF z 0 (snM z) (fl0 σ0) Y (FlG N z T ms V1 f L 0)) := by
  have hr : RnR Y (fl0 σ0) 0 0 := ⟨n, c, m, flt_c n hT, hc⟩
  obtain ⟨hmon, hth⟩ := mon_pr hP
  have nb : ¬ BdF (fl0 σ0) := fun q => by
    rcases q with q | q
    · exact q rfl
    · exact q rfl
  have A0 : AtF Y C z T (Int32.ofInt ((0 : Nat) : Int)) [] (fl0 σ0) := ⟨⟨hr, nb⟩, E, 0, rfl, Nat.le_refl _⟩
  have jn0 : jnS (fl0 σ0) = [] := rfl
  have B0 : BgF Y C z T (Int32.ofInt ((0 : Nat) : Int)) 0 [] (fl0 σ0) := ⟨A0, Or.inl rfl, fun i _ hi hk => by
    show clfR _ _ _ = 0
    unfold clfR
    exact if_pos (h0 i hi hk), by
    rw [jn0]
    exact fun x hx => absurd hx List.not_mem_nil⟩
  have cc : CtX z (0, 0 + 1, []) (psM z) := fun y l hs o _ _ => ⟨Nat.zero_le _, by
    have := hs.length_le
    rw [List.length_cons] at this
    show l.length < z.2.1.length
    omega⟩
  have sb : ∀ n, stB (sI (sI (sI (sA (sI (sI σ0 112 0) 114 0) 109 (clfR σ0 (gI σ0 2).toInt.toNat)) 103 0) 100 0) 117 (-2)) 0 n = stB (fl0 σ0) (Int32.ofInt ((0 : Nat) : Int)) n := by
    intro n
    induction n with
    | zero => rfl
    | succ n ih =>
      rw [stB, stB, ih]
      rfl
  have w0 : Bw (fl0 σ0) True (stB (fl0 σ0) (Int32.ofInt ((0 : Nat) : Int)) (gI (fl0 σ0) 42).toInt.toNat) (stB (fl0 σ0) (Int32.ofInt ((0 : Nat) : Int)) (gI (fl0 σ0) 42).toInt.toNat) := ⟨⟨⟨fun _ => trivial, fun _ => by show ¬ (1 : Int32) = 0; decide⟩, sb _, sb _⟩, rfl, rfl⟩
  rcases pr_go H hok (fun i hi => (hth i hi).1) hMt hf L 0 (0, 0, []) (psM z) hP (by omega) (fun y hy => absurd hy List.not_mem_nil) cc (Nat.le_refl _) List.suffix_rfl (fl0 σ0) hF B0 w0 with ⟨d1, d2⟩ | ⟨d1, W, k, d2, d3, dE, d4⟩
  · exact ⟨iff_of_true d1 d2, fun q => absurd q d2⟩
  · have e : W = Y := by
      refine d2.en (fun q => ?_)
      have q := Int32.lt_iff_toInt_lt.mp q
      have e1 : (plI z.2.1).toInt = (z.2.1.length : Int) := i32_nat dE.1.1.2.2
      have q : (plI z.2.1).toInt < (gI W 18).toInt := q
      rw [e1, dE.1.1.2.1] at q
      omega
    rw [← e]
    exact ⟨iff_of_false d3 (fun q => q d1), fun _ => d4⟩
end

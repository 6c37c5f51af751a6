/-! flow of the class, method by method: REACHED and SURELY assigned are what the function of y20 says -/
section
variable {N : Int → Int} {z : ZS} {T : TbT} {ms : MfT} {C : CxT}
theorem fac_m1 {hi j : Nat} (hpa : paS z j = -1) : ∀ k, FaC z hi k (j : Int) := by
  intro k
  cases k with
  | zero => trivial
  | succ k =>
    refine Or.inr ⟨fun e => ?_, ?_⟩
    · unfold hfA at e
      rw [Int.toNat_natCast, hpa, decide_eq_false (show ¬ (0 : Int) ≤ -1 by decide), Bool.and_false, Bool.false_and, Bool.false_and] at e
      cases e
    · rw [Int.toNat_natCast, hpa]
      cases k with
      | zero => trivial
      | succ k => exact Or.inl (by decide)
theorem me_fl (H : DfX N C z T ms) (hp : ∀ i, i < snM z → paS z i < (i : Int)) {M : Nat} {p p1 : Ps} (h : MeD N z M p p1) (hz : p1.1 ≤ snM z) (hq : p1.2.2 <:+ z.2.1) {f : Nat} (hf : 2 * snM z ≤ f) {r : RR} {g : GzA} {m : Int64} (hF : FrR p.1 p1.1 r) (hG : FrAd p.1 p1.1 g) :
    p.1 < p1.1 ∧ ((rwR (rcF N z T f) z p.1 r).2.2.2.2 = false → geA ((asF N z T f).2.2 p.1 m g).2 = false → ∃ R, (dF N z T f).1 (bjS z p.1) true m = some R) ∧
    ∀ R, (dF N z T f).1 (bjS z p.1) true m = some R →
      ((rwR (rcF N z T f) z p.1 r).1 = R.1 ∧ (rwR (rcF N z T f) z p.1 r).2.2.2.2 = r.2.2.2 ∧ (∀ i, ¬ (p.1 ≤ i ∧ i < p1.1) → (rwR (rcF N z T f) z p.1 r).2.1 i = r.1 i) ∧ (∀ i, p1.1 ≤ i → (rwR (rcF N z T f) z p.1 r).2.2.1 i = r.2.1 i ∧ (rwR (rcF N z T f) z p.1 r).2.2.2.1 i = r.2.2.1 i) ∧ LgR z p.1 p1.1 (rwR (rcF N z T f) z p.1 r).2 R.2.2.2) ∧
      (geA ((asF N z T f).2.2 p.1 m g).2 = geA g ∧ (∀ i, ¬ (p.1 ≤ i ∧ i < p1.1) → ((asF N z T f).2.2 p.1 m g).2.1 i = g.1 i) ∧ (∀ i, p1.1 ≤ i → ((asF N z T f).2.2 p.1 m g).2.2.2.1 i = g.2.2.1 i ∧ ((asF N z T f).2.2 p.1 m g).2.2.2.2.1 i = g.2.2.2.1 i) ∧ LgA z p.1 p1.1 ((asF N z T f).2.2 p.1 m g).2 R.2.2.2) := by
  obtain ⟨q1, t, ⟨L, t2, hr, D⟩, rfl⟩ := h
  have hz : q1.1 ≤ snM z := hz
  have hq : q1.2.2 <:+ z.2.1 := (List.suffix_cons _ _).trans hq
  have hF : FrR p.1 q1.1 r := hF
  have hG : FrAd p.1 q1.1 g := hG
  show p.1 < q1.1 ∧ _
  have D : ReD z p.1 (92, t2, lvN 21, -1) (hdI L, -1, -1, -1, -1, ((p.2.1 + 1 : Nat) : Int)) := D
  have dS := da_st (M := (M : Int)) H 20 (by decide)
  have sS : ∀ a p q, StD N M z 20 a p q → p.1 < q.1 ∧ p.2.2 <:+ q.2.2 := fun a p q h => (dS a p q h).1
  have hkd : ∀ a p q, StW z (StD N M z 20) a p q → ¬ kjS z p.1 = 62 ∧ ¬ kjS z p.1 = 63 := fun _ _ _ h => st_kd h.1
  have hC : RcSo N z T (StW z (StD N M z 20)) := fun a p q h => (rc_jt (N := N) (M := (M : Int)) (T := T) hp 20).2 a p q h.1
  have hA := as_all (M := (M : Int)) H hp 20 (by decide)
  have hN := nc_all (M := (M : Int)) H hp 20 (by decide)
  have hRa : AsRo N z T (RwD (StW z (StD N M z 20)) z (lvN 20)) := as_row hA
  have hRc : RcRo N z T (RwD (StW z (StD N M z 20)) z (lvN 20)) := rc_row hC
  have hR : NcRo N z T (RwD (StW z (StD N M z 20)) z (lvN 20)) := nc_row hN hC hA
  have hr := (rw_w sS _ _ _ hr).2 hz hq
  obtain ⟨s1, s2⟩ := hRc _ _ _ _ hr
  have s3 := (hRa _ _ _ _ hr).2
  have s4 := hR _ _ _ _ hr
  have s1 : p.1 + 1 ≤ q1.1 := s1
  have K : KrW z ((p.1 : Nat) : Int) (p.1 + 1) q1.1 := ⟨hz, by omega, fac_m1 D.pa, hp⟩
  obtain ⟨f', rfl⟩ : ∃ k, f = k + 1 := ⟨f - 1, by omega⟩
  have ea : (asF N z T (f' + 1)).2.2 p.1 m g = (((asF N z T f').1 (hdI L) m (gaB p.1 m g)).1, gaH p.1 ((asF N z T f').1 (hdI L) m (gaB p.1 m g)).1 ((asF N z T f').1 (hdI L) m (gaB p.1 m g)).2) := by
    rw [as_st]
    unfold stA
    rw [if_pos (by rw [D.lev]; decide), ia_2 (Or.inr D.kj), D.bj]
  rw [ea]
  unfold rwR
  rw [D.bj]
  refine ⟨s1, fun e1 e2 => ?_, fun R h => ⟨?_, ?_⟩⟩
  · exact s4 (f' + 1) f' r (gaB p.1 m g) true m (by show 2 * (q1.1 - (p.1 + 1)) ≤ f' + 1; omega) (by show 2 * (q1.1 - (p.1 + 1)) ≤ f'; omega) K (hF.wd (Nat.le_succ _) (Nat.le_refl _)) (hG.wd (Nat.le_succ _) (Nat.le_refl _)) e1 e2
  · obtain ⟨c1, c2, c3⟩ := s2 (f' + 1) r true m R (by show 2 * (q1.1 - (p.1 + 1)) ≤ f' + 1; omega) K (hF.wd (Nat.le_succ _) (Nat.le_refl _)) h
    have c2 : UrD z ((p.1 : Nat) : Int) (p.1 + 1) q1.1 r ((rcF N z T (f' + 1)).1 (hdI L) true r).2 R.2.2.1 := c2
    have c3 : LgR z (p.1 + 1) q1.1 ((rcF N z T (f' + 1)).1 (hdI L) true r).2 R.2.2.2 := c3
    generalize (rcF N z T (f' + 1)).1 (hdI L) true r = o at c1 c2 c3 ⊢
    refine ⟨c1, c2.2.2.2, fun i hi => ?_, fun i hi => c2.2.1 i hi, ?_⟩
    · have hi : ¬ (p.1 ≤ i ∧ i < q1.1) := hi
      show (if i = p.1 then o.1 else o.2.1 i) = _
      rw [if_neg (by omega)]
      exact c2.1 i (by omega)
    · show LgR z p.1 q1.1 (rrE p.1 o.1 o.2) R.2.2.2
      exact (c3.fr (fun i a b => if_neg (by omega))).wd (Nat.le_succ _) (Nat.le_refl _)
  · obtain ⟨c1, c2, c3⟩ := s3 (f' + 1) f' (gaB p.1 m g) true m R (by show 2 * (q1.1 - (p.1 + 1)) ≤ f' + 1; omega) (by show 2 * (q1.1 - (p.1 + 1)) ≤ f'; omega) K (hG.wd (Nat.le_succ _) (Nat.le_refl _)) h
    have c2 : UaD z ((p.1 : Nat) : Int) (p.1 + 1) q1.1 (gaB p.1 m g) ((asF N z T f').1 (hdI L) m (gaB p.1 m g)).2 R.2.2.1 := c2
    have c3 : LgA z (p.1 + 1) q1.1 ((asF N z T f').1 (hdI L) m (gaB p.1 m g)).2 R.2.2.2 := c3
    generalize (asF N z T f').1 (hdI L) m (gaB p.1 m g) = o at c1 c2 c3 ⊢
    refine ⟨c2.2.2.2, fun i hi => ?_, fun i hi => c2.2.1 i hi, ?_⟩
    · have hi : ¬ (p.1 ≤ i ∧ i < q1.1) := hi
      show o.2.1 i = _
      rw [(c2.1 i (by omega)).1]
      exact if_neg (by omega)
    · show LgA z p.1 q1.1 (gaH p.1 o.1 o.2) R.2.2.2
      exact (c3.fr (fun i a b => rfl)).wd (Nat.le_succ _) (Nat.le_refl _)
end
/-- the flow of all methods is fine -/
def FlO (N : Int → Int) (z : ZS) (T : TbT) (ms : MfT) (V1 : Nat → Int) (f : Nat) : List Nat → Nat → Prop
  | [], _ => True
  | j :: L, M => (∃ R, (dF N z T f).1 (bjS z j) true (pbL (V1 M) (npT ms M) 0 zerB) = some R ∧ (R.1 = true → mtyN ms M = 5)) ∧ FlO N z T ms V1 f L (M + 1)
/-- each S: bits ahead of it, whether it ends -/
def FlG (N : Int → Int) (z : ZS) (T : TbT) (ms : MfT) (V1 : Nat → Int) (f : Nat) : List Nat → Nat → List (Nat × Int64 × Bool)
  | [], _ => []
  | j :: L, M => (match (dF N z T f).1 (bjS z j) true (pbL (V1 M) (npT ms M) 0 zerB) with
    | some R => R.2.2.2
    | none => []) ++ FlG N z T ms V1 f L (M + 1)
section
variable {N : Int → Int} {z : ZS} {T : TbT} {ms : MfT} {C : CxT}
theorem ral_sk {J : Nat → Nat} {f : Nat} : ∀ (n k : Nat) (r : RR), (raL (rcF N z T f) z ms J n k r).2.2.2 = false → r.2.2.2 = false := by
  intro n
  induction n with
  | zero => exact fun _ _ h => h
  | succ n ih =>
    intro k r h
    rw [raL] at h
    have h := ih _ _ h
    split at h
    · exact absurd h (by show ¬ true = false; decide)
    · exact rsk_rw (rsk_F _) h
theorem asl_sk {J : Nat → Nat} {V1 : Nat → Int} {f : Nat} : ∀ (n k : Nat) (g : GzA), geA (asL (asF N z T f) ms J V1 n k g) = false → geA g = false := by
  intro n
  induction n with
  | zero => exact fun _ _ h => h
  | succ n ih =>
    intro k g h
    rw [asL] at h
    exact (ask_F _).2.2 _ _ _ (ih _ _ h)
theorem fl_all (H : DfX N C z T ms) (hp : ∀ i, i < snM z → paS z i < (i : Int)) {J : Nat → Nat} {V1 : Nat → Int} {f : Nat} (hf : 2 * snM z ≤ f) : ∀ (L : List Nat) (M : Nat) (p q : Ps), PrD N z L M p q → q.1 ≤ snM z → q.2.2 <:+ z.2.1 → (∀ i j, L[i]? = some j → J (M + i) = j) → (p.1 ≤ q.1 ∧ p.2.2 <:+ q.2.2) ∧ ∀ (r : RR) (g : GzA), FrR p.1 q.1 r → FrAd p.1 q.1 g → r.2.2.2 = false → geA g = false →
    (((raL (rcF N z T f) z ms J L.length M r).2.2.2 = false ∧ geA (asL (asF N z T f) ms J V1 L.length M g) = false) ↔ FlO N z T ms V1 f L M) ∧
    (FlO N z T ms V1 f L M → LgR z p.1 q.1 (raL (rcF N z T f) z ms J L.length M r) (FlG N z T ms V1 f L M) ∧ LgA z p.1 q.1 (asL (asF N z T f) ms J V1 L.length M g) (FlG N z T ms V1 f L M) ∧ ∀ i, i < p.1 → (raL (rcF N z T f) z ms J L.length M r).1 i = r.1 i ∧ (asL (asF N z T f) ms J V1 L.length M g).1 i = g.1 i) := by
  intro L
  induction L with
  | nil =>
    intro M p q h hz hq hJ
    rw [show q = p from h]
    exact ⟨⟨Nat.le_refl _, List.suffix_rfl⟩, fun r g hF hG e1 e2 => ⟨⟨fun _ => trivial, fun _ => ⟨e1, e2⟩⟩, fun _ => ⟨LgR.nil, LgA.nil, fun _ _ => ⟨rfl, rfl⟩⟩⟩⟩
  | cons j L ih =>
    intro M p q ⟨ej, p1, h1, h2⟩ hz hq hJ
    obtain ⟨⟨i1, i0⟩, i2⟩ := ih (M + 1) p1 q h2 hz hq (fun i j hi => by
      have := hJ (i + 1) j hi
      rw [← this]
      congr 1
      omega)
    have j0 : J M = j := hJ 0 j rfl
    subst ej
    have sf : p.2.2 <:+ p1.2.2 := by
      obtain ⟨q1, t, ⟨L', t2, hr, D⟩, rfl⟩ := h1
      have dS := da_st (M := (M : Int)) H 20 (by decide)
      exact ((rw_w (fun a p q h => (dS a p q h).1) _ _ _ hr).1.2).trans (List.suffix_cons _ _)
    have lt : p.1 < p1.1 := (me_fl (r := r00) (g := g00) (m := zerB) H hp h1 (by omega) (i0.trans hq) hf (fun _ _ _ => ⟨rfl, rfl⟩) (fun _ _ _ => ⟨rfl, rfl⟩)).1
    refine ⟨⟨by omega, sf.trans i0⟩, fun r g hF hG e1 e2 => ?_⟩
    obtain ⟨_, m1, m2⟩ := me_fl (r := r) (g := g) (m := pbL (V1 M) (npT ms M) 0 zerB) H hp h1 (by omega) (i0.trans hq) hf (hF.wd (Nat.le_refl _) i1) (hG.wd (Nat.le_refl _) i1)
    have hlr : raL (rcF N z T f) z ms J (p.1 :: L).length M r = raL (rcF N z T f) z ms J L.length (M + 1) (if (rwR (rcF N z T f) z p.1 r).1 = true ∧ ¬ mtyN ms M = 5 then rrX (rwR (rcF N z T f) z p.1 r).2 else (rwR (rcF N z T f) z p.1 r).2) := by
      rw [List.length_cons, raL, j0]
    have hla : asL (asF N z T f) ms J V1 (p.1 :: L).length M g = asL (asF N z T f) ms J V1 L.length (M + 1) ((asF N z T f).2.2 p.1 (pbL (V1 M) (npT ms M) 0 zerB) g).2 := by
      rw [List.length_cons, asL, j0]
    rw [hlr, hla]
    -- where the method is fine
    have fine : ∀ R, (dF N z T f).1 (bjS z p.1) true (pbL (V1 M) (npT ms M) 0 zerB) = some R → (R.1 = true → mtyN ms M = 5) → (if (rwR (rcF N z T f) z p.1 r).1 = true ∧ ¬ mtyN ms M = 5 then rrX (rwR (rcF N z T f) z p.1 r).2 else (rwR (rcF N z T f) z p.1 r).2) = (rwR (rcF N z T f) z p.1 r).2 := fun R hR h5 => if_neg (fun c => c.2 (h5 ((m2 R hR).1.1 ▸ c.1)))
    have next : ∀ R, (dF N z T f).1 (bjS z p.1) true (pbL (V1 M) (npT ms M) 0 zerB) = some R → FrR p1.1 q.1 (rwR (rcF N z T f) z p.1 r).2 ∧ FrAd p1.1 q.1 ((asF N z T f).2.2 p.1 (pbL (V1 M) (npT ms M) 0 zerB) g).2 ∧ (rwR (rcF N z T f) z p.1 r).2.2.2.2 = false ∧ geA ((asF N z T f).2.2 p.1 (pbL (V1 M) (npT ms M) 0 zerB) g).2 = false := fun R hR => by
      obtain ⟨⟨_, b2, _, b4, _⟩, c1, _, c3, _⟩ := m2 R hR
      refine ⟨fun i d1 d2 => ?_, fun i d1 d2 => ?_, b2.trans e1, c1.trans e2⟩
      · rw [(b4 i d1).1, (b4 i d1).2]
        exact hF i (by omega) d2
      · rw [(c3 i d1).1, (c3 i d1).2]
        exact hG i (by omega) d2
    refine ⟨⟨fun ⟨a1, a2⟩ => ?_, fun ⟨⟨R, hR, h5⟩, hL⟩ => ?_⟩, fun ⟨⟨R, hR, h5⟩, hL⟩ => ?_⟩
    · have b1 := ral_sk _ _ _ a1
      have n5 : ¬ ((rwR (rcF N z T f) z p.1 r).1 = true ∧ ¬ mtyN ms M = 5) := fun c => by
        rw [if_pos c] at b1
        exact absurd b1 (by show ¬ true = false; decide)
      rw [if_neg n5] at a1 b1
      obtain ⟨R, hR⟩ := m1 b1 (asl_sk _ _ _ a2)
      obtain ⟨n1, n2, n3, n4⟩ := next R hR
      refine ⟨⟨R, hR, fun c => ?_⟩, ((i2 _ _ n1 n2 n3 n4).1).mp ⟨a1, a2⟩⟩
      by_cases d : mtyN ms M = 5
      · exact d
      · exact absurd ⟨((m2 R hR).1.1).trans c, d⟩ n5
    · obtain ⟨n1, n2, n3, n4⟩ := next R hR
      rw [fine R hR h5]
      exact ((i2 _ _ n1 n2 n3 n4).1).mpr hL
    · obtain ⟨n1, n2, n3, n4⟩ := next R hR
      rw [fine R hR h5]
      obtain ⟨v1, v2, v3⟩ := (i2 _ _ n1 n2 n3 n4).2 hL
      obtain ⟨⟨_, _, b3, _, b5⟩, _, c2, _, c4⟩ := m2 R hR
      have eG : FlG N z T ms V1 f (p.1 :: L) M = R.2.2.2 ++ FlG N z T ms V1 f L (M + 1) := by
        rw [FlG, hR]
      rw [eG]
      refine ⟨((b5.fr (fun i d1 d2 => (v3 i d2).1)).wd (Nat.le_refl _) i1).ap (v1.wd (by omega) (Nat.le_refl _)), ((c4.fr (fun i d1 d2 => (v3 i d2).2)).wd (Nat.le_refl _) i1).ap (v2.wd (by omega) (Nat.le_refl _)), fun i hi => ⟨?_, ?_⟩⟩
      · rw [(v3 i (by omega)).1]
        exact b3 i (by omega)
      · rw [(v3 i (by omega)).2]
        exact c2 i (by omega)
end
